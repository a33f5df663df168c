/-! ===== calls: owes, layAgo, month, carry, swear, pay, bears ===== -/
def p_iter : Nat → t_P → t_P
  | 0, P => P
  | n + 1, P => p_iter n (p_pass P)
theorem v_iter : ∀ (n : Nat) {P : t_P}, VP P → VP (p_iter n P) := by
  intro n
  induction n with
  | zero => intro P h; exact h
  | succ n ih => intro P h; exact ih (v_pass h)
section
variable {w : Nat}
theorem f_wi (M : z_Mem) (a b c : Int32) : F_X11_isWithin w M a b c = some (decide (b ≤ a ∧ a ≤ c), M) := by
  unfold F_X11_isWithin
  by_cases h1 : a < b
  · rw [if_pos h1, decide_eq_false (fun g => i_nlt.mpr g.1 h1)]
  · rw [if_neg h1]
    by_cases h2 : c < a
    · rw [if_pos h2, decide_eq_false (fun g => i_nlt.mpr g.2 h2)]
    · rw [if_neg h2, decide_eq_true ⟨i_nlt.mp h1, i_nlt.mp h2⟩]
theorem cl_passN {p : Nat} (hw : 1000 ≤ w) : ∀ (m i c : Nat) (M : z_Mem) (P : t_P), i + m < 10000 → m < c → CP M p P → VP P → ∃ M', L_X3_passMonths w p c M (nI (i + m)) (nI i) = some (true, M') ∧ CP M' p (p_iter m P) ∧ Kc p M M' := by
  intro m
  induction m with
  | zero =>
    intro i c M P h1 h2 h hv
    obtain ⟨c, rfl⟩ : ∃ c', c = c' + 1 := ⟨c - 1, by omega⟩
    refine ⟨M, ?_, h, Kc_r⟩
    rw [L_X3_passMonths, if_pos (nI_le (by omega) (by omega))]
  | succ m ih =>
    intro i c M P h1 h2 h hv
    obtain ⟨c, rfl⟩ : ∃ c', c = c' + 1 := ⟨c - 1, by omega⟩
    obtain ⟨N, n1, n2, n3⟩ := c_pass (w := w) h hv hw
    obtain ⟨M', r1, r2, r3⟩ := ih (i + 1) c N (p_pass P) (by omega) (by omega) n2 (v_pass hv)
    refine ⟨M', ?_, r2, Kc_t n3 r3⟩
    rw [L_X3_passMonths, if_neg (nI_ge (by omega) (by omega)), n1]
    simp only [Option.bind_some]
    rw [nI_11, ← r1, show i + (m + 1) = i + 1 + m by omega]
theorem c_passN {M : z_Mem} {p : Nat} {P : t_P} (h : CP M p P) (hv : VP P) (hw : 1000 ≤ w) {n : Nat} (hn : n < 900) : (P.1 9 + nI n ≤ 9999 → ∃ M', F_X3_passMonths w M p (nI n) = some (true, M') ∧ CP M' p (p_iter n P) ∧ Kc p M M') ∧ (¬ P.1 9 + nI n ≤ 9999 → F_X3_passMonths w M p (nI n) = some (false, M)) := by
  have s10 : M.1 p 10 = P.1 9 := h.1.2.2.2.2.2.1
  unfold F_X3_passMonths
  rw [s10]
  constructor
  · intro q
    rw [if_pos q]
    have := cl_passN (w := w) (p := p) hw n 0 w M P (by omega) (by omega) h hv
    rw [Nat.zero_add] at this
    exact this
  · intro q
    rw [if_neg q]
theorem ml_passN (hw : 1000 ≤ w) : ∀ (m i c : Nat) (M : z_Mem) (P : t_P), i + m < 10000 → m < c → BP (M.1 142) P → VP P → ∃ M', L_X12_pass w c M (nI (i + m)) (nI i) = some (true, M') ∧ BP (M'.1 142) (p_iter m P) ∧ Km M M' := by
  intro m
  induction m with
  | zero =>
    intro i c M P h1 h2 h hv
    obtain ⟨c, rfl⟩ : ∃ c', c = c' + 1 := ⟨c - 1, by omega⟩
    refine ⟨M, ?_, h, Km_r⟩
    rw [L_X12_pass, if_pos (nI_le (by omega) (by omega))]
  | succ m ih =>
    intro i c M P h1 h2 h hv
    obtain ⟨c, rfl⟩ : ∃ c', c = c' + 1 := ⟨c - 1, by omega⟩
    obtain ⟨N, n1, n2, n3⟩ := m_pass (w := w) h hv hw
    obtain ⟨M', r1, r2, r3⟩ := ih (i + 1) c N (p_pass P) (by omega) (by omega) n2 (v_pass hv)
    refine ⟨M', ?_, r2, Km_t n3 r3⟩
    rw [L_X12_pass, if_neg (nI_ge (by omega) (by omega)), n1]
    simp only [Option.bind_some]
    rw [nI_11, ← r1, show i + (m + 1) = i + 1 + m by omega]
theorem m_passN {M : z_Mem} {P : t_P} (h : BP (M.1 142) P) (hv : VP P) (hw : 1000 ≤ w) {n : Nat} (hn : n < 900) : (P.1 9 + nI n ≤ 9999 → ∃ M', F_X12_pass w M (nI n) = some (true, M') ∧ BP (M'.1 142) (p_iter n P) ∧ Km M M') ∧ (¬ P.1 9 + nI n ≤ 9999 → F_X12_pass w M (nI n) = some (false, M)) := by
  have s9 : M.1 142 9 = P.1 9 := h.1.2.2.2.2.1
  unfold F_X12_pass
  rw [s9]
  constructor
  · intro q
    rw [if_pos q]
    have := ml_passN (w := w) hw n 0 w M P (by omega) (by omega) h hv
    rw [Nat.zero_add] at this
    exact this
  · intro q
    rw [if_neg q]
theorem ml_month (hw : 1000 ≤ w) : ∀ (m i c : Nat) (M : z_Mem) (P : t_P), i + m < 10000 → m < c → BP (M.1 142) P → VP P → ∃ M', L_X12_month w c M (nI (i + m)) (nI i) = some ((p_iter m P).1 12 + (p_iter m P).1 13, M') ∧ BP (M'.1 142) (p_iter m P) ∧ Km M M' := by
  intro m
  induction m with
  | zero =>
    intro i c M P h1 h2 h hv
    obtain ⟨c, rfl⟩ : ∃ c', c = c' + 1 := ⟨c - 1, by omega⟩
    refine ⟨M, ?_, h, Km_r⟩
    rw [L_X12_month, if_pos (nI_le (by omega) (by omega))]
    unfold F_X12_bothChests
    rw [h.1.2.2.2.2.2.2.1, h.1.2.2.2.2.2.2.2.1]
    rfl
  | succ m ih =>
    intro i c M P h1 h2 h hv
    obtain ⟨c, rfl⟩ : ∃ c', c = c' + 1 := ⟨c - 1, by omega⟩
    obtain ⟨N, n1, n2, n3⟩ := m_pass (w := w) h hv hw
    obtain ⟨M', r1, r2, r3⟩ := ih (i + 1) c N (p_pass P) (by omega) (by omega) n2 (v_pass hv)
    refine ⟨M', ?_, r2, Km_t n3 r3⟩
    rw [L_X12_month, if_neg (nI_ge (by omega) (by omega)), n1]
    simp only [Option.bind_some]
    rw [nI_11, show i + (m + 1) = i + 1 + m by omega, r1]
    rfl
variable {M : z_Mem}
theorem call_owes (hw : 1000 ≤ w) (h : r_Rel M) (a : Int32) : r_ok (F_X11_owes w M a) (fun M => F_X12_owes w M a) := by
  obtain ⟨P, hc, hb, hv⟩ := h.2.2.2.2.2.2.1
  by_cases hr : a = 0 ∨ a = 1
  · have e1 : F_X1_owedBy w M 7 a = _ := f_owedBy hc.2.2.1 hv.2.2.1.1 hw a
    have e2 : F_X12_owed w (z_st M 0) a = _ := f_owed (w := w) (M := z_st M 0) (d := P.2.2.1) (show BD (M.1 142) _ from hb.2.2.1) hv.2.2.1.1 hw a
    refine ⟨d_owed a P.2.2.1.2 0, z_wI M 0 11 0, z_st M 0, ?_, ?_, r_stv 0 h⟩
    · rcases hr with rfl | rfl
      · simp (decide := true) (disch := omega) only [F_X11_owes, F_X11_isSide, F_X11_answer, e1, Option.bind_some, wI_row, wI_slot, wI_same, wI_2, nI_p0, false_or, nle_f, nI_cl, n_lad, n_adl, nI_add, if_true, if_false, ite_true, ite_false]
      · simp (decide := true) (disch := omega) only [F_X11_owes, F_X11_isSide, F_X11_answer, e1, Option.bind_some, wI_row, wI_slot, wI_same, wI_2, nI_p0, false_or, nle_f, nI_cl, n_lad, n_adl, nI_add, if_true, if_false, ite_true, ite_false]
    · show F_X12_owes w _ a = _
      have e3 : F_X12_isSideAt w (z_st M 0) a = some (true, z_st M 0) := by
        rcases hr with rfl | rfl <;> rfl
      unfold F_X12_owes
      rw [st_0, e3]
      simp only [Option.bind_some, if_true]
      rw [e2]
      rfl
  · refine ⟨-1, z_wI M 0 11 2, z_st M 2, ?_, ?_, r_stv 2 h⟩
    · unfold F_X11_owes
      rw [(sd_f hr).1]; rfl
    · show F_X12_owes w _ a = _
      unfold F_X12_owes
      rw [(sd_f hr).2, ← st_v]; rfl
theorem call_layAgo (h : r_Rel M) (a : Int32) : r_ok (F_X11_layAgo w M a) (fun M => F_X12_layAgo w M a) := by
  obtain ⟨P, hc, hb, hv⟩ := h.2.2.2.2.2.2.1
  by_cases hr : (0 : Int32) ≤ a ∧ a ≤ 6
  · have m1 : F_X12_isIn w (z_st M 0) a.toInt64 0 6 = some (true, z_st M 0) := in_t (B := 0) (C := 6) 0 6 rfl rfl hr
    have k1 := i_nlt.mpr hr.1
    have k2 := hr.2
    obtain ⟨k, _, hk, rfl⟩ := (i_rng 0 6 (by omega) (by omega)).mp hr
    have e1 : F_X3_sideAgo w M 7 (nI k) = _ := f_ago hc.1 hv.1 hk
    have e2 : F_X12_layOf w (z_st M 0) (nI k) = _ := f_layOf (w := w) (M := z_st M 0) (s := P.1) (show BS (M.1 142) _ from hb.1) hk
    refine ⟨b_ago P.1 (nI k), z_wI M 0 11 0, z_st M 0, ?_, ?_, r_stv 0 h⟩
    · simp (decide := true) (disch := omega) only [F_X11_layAgo, F_X11_answer, e1, k2, Option.bind_some, wI_row, wI_slot, wI_same, wI_2, nI_p0, false_or, nle_f, nI_cl, n_lad, n_adl, nI_add, if_true, if_false, ite_true, ite_false]
    · show F_X12_layAgo w _ (nI k) = _
      unfold F_X12_layAgo
      rw [st_0, m1]
      simp only [Option.bind_some, if_true]
      rw [e2]
      rfl
  · refine ⟨-1, z_wI M 0 11 5, z_st M 5, ?_, ?_, r_stv 5 h⟩
    · by_cases q : a < 0
      · simp (decide := true) (disch := omega) only [F_X11_layAgo, F_X11_refuse, q, Option.bind_some, wI_row, wI_slot, wI_same, wI_2, nI_p0, false_or, nle_f, nI_cl, n_lad, n_adl, nI_add, if_true, if_false, ite_true, ite_false]
      · have q2 : ¬ a ≤ 6 := fun u => hr ⟨i_nlt.mp q, u⟩
        simp (decide := true) (disch := omega) only [F_X11_layAgo, F_X11_refuse, q, q2, Option.bind_some, wI_row, wI_slot, wI_same, wI_2, nI_p0, false_or, nle_f, nI_cl, n_lad, n_adl, nI_add, if_true, if_false, ite_true, ite_false]
    · have m2 := fun N => in_f (w := w) (M := N) (B := 0) (C := 6) 0 6 rfl rfl hr
      simp (decide := true) (disch := omega) only [F_X12_layAgo, F_X12_refuse, m2, z_st, wI_wI, Option.bind_some, wI_row, wI_slot, wI_same, wI_2, nI_p0, false_or, nle_f, nI_cl, n_lad, n_adl, nI_add, if_true, if_false, ite_true, ite_false]
theorem call_month (hw : 1000 ≤ w) (h : r_Rel M) (a : Int32) : r_ok (F_X11_month w M a) (fun M => F_X12_month w M a) := by
  obtain ⟨P, hc, hb, hv⟩ := h.2.2.2.2.2.2.1
  by_cases hr : (1 : Int32) ≤ a ∧ a ≤ 99
  · have m1 := fun N => in_t (w := w) (M := N) (B := 1) (C := 99) 1 99 rfl rfl hr
    have k1 := i_nlt.mpr hr.1
    have k2 := hr.2
    obtain ⟨k, _, hk, rfl⟩ := (i_rng 1 99 (by omega) (by omega)).mp hr
    by_cases q : P.1 9 + nI k ≤ 9999
    · obtain ⟨A, a1, a2, a3⟩ := (c_passN (w := w) hc hv hw (n := k) (by omega)).1 q
      have hbN : BP ((z_wI (z_wI (z_wI A 0 11 0) 137 1 0) 137 0 0).1 142) P := by
        simp (decide := true) (disch := omega) only [Option.bind_some, wI_row, wI_slot, wI_same, wI_2, nI_p0, false_or, nle_f, nI_cl, n_lad, n_adl, nI_add, if_true, if_false, ite_true, ite_false]
        rw [a3.1 142 (by omega)]
        exact hb
      obtain ⟨N, n1, n2, n3⟩ := ml_month (w := w) hw k 0 w (z_wI (z_wI (z_wI A 0 11 0) 137 1 0) 137 0 0) P (by omega) (by omega) hbN hv
      refine ⟨(p_iter k P).1 12 + (p_iter k P).1 13, z_wI A 0 11 0, N, ?_, ?_, r_op h a3 a2 n3 n2 (v_iter k hv)⟩
      · have s12 : A.1 8 0 = _ := a2.1.2.2.2.2.2.2.2.1
        have s13 : A.1 8 1 = _ := a2.1.2.2.2.2.2.2.2.2
        simp (decide := true) (disch := omega) only [F_X11_month, F_X11_answer, F_X3_bothChests, a1, k1, k2, Nat.reduceAdd, s12, s13, Option.bind_some, wI_row, wI_slot, wI_same, wI_2, nI_p0, false_or, nle_f, nI_cl, n_lad, n_adl, nI_add, if_true, if_false, ite_true, ite_false]
      · have s9 : (z_wI (z_wI (z_wI A 0 11 0) 137 1 0) 137 0 0).1 142 9 = P.1 9 := hbN.1.2.2.2.2.1
        show F_X12_month w _ (nI k) = _
        unfold F_X12_month
        rw [m1]
        simp only [Option.bind_some, if_true]
        rw [s9, if_pos q]
        rw [Nat.zero_add] at n1
        exact n1
    · have e1 : F_X3_passMonths w M 7 (nI k) = some (false, M) := (c_passN (w := w) hc hv hw (n := k) (by omega)).2 q
      have s9 : M.1 142 9 = P.1 9 := hb.1.2.2.2.2.1
      refine ⟨-1, z_wI M 0 11 7, z_st M 7, ?_, ?_, r_stv 7 h⟩
      · simp (decide := true) (disch := omega) only [F_X11_month, F_X11_refuse, e1, k1, k2, Bool.false_eq_true, Option.bind_some, wI_row, wI_slot, wI_same, wI_2, nI_p0, false_or, nle_f, nI_cl, n_lad, n_adl, nI_add, if_true, if_false, ite_true, ite_false]
      · simp (decide := true) (disch := omega) only [F_X12_month, F_X12_refuse, m1, s9, q, z_st, wI_wI, Option.bind_some, wI_row, wI_slot, wI_same, wI_2, nI_p0, false_or, nle_f, nI_cl, n_lad, n_adl, nI_add, if_true, if_false, ite_true, ite_false]
  · refine ⟨-1, z_wI M 0 11 5, z_st M 5, ?_, ?_, r_stv 5 h⟩
    · by_cases q : a < 1
      · simp (decide := true) (disch := omega) only [F_X11_month, F_X11_refuse, q, Option.bind_some, wI_row, wI_slot, wI_same, wI_2, nI_p0, false_or, nle_f, nI_cl, n_lad, n_adl, nI_add, if_true, if_false, ite_true, ite_false]
      · have q2 : ¬ a ≤ 99 := fun u => hr ⟨i_nlt.mp q, u⟩
        simp (decide := true) (disch := omega) only [F_X11_month, F_X11_refuse, q, q2, Option.bind_some, wI_row, wI_slot, wI_same, wI_2, nI_p0, false_or, nle_f, nI_cl, n_lad, n_adl, nI_add, if_true, if_false, ite_true, ite_false]
    · have m2 := fun N => in_f (w := w) (M := N) (B := 1) (C := 99) 1 99 rfl rfl hr
      simp (decide := true) (disch := omega) only [F_X12_month, F_X12_refuse, m2, z_st, wI_wI, Option.bind_some, wI_row, wI_slot, wI_same, wI_2, nI_p0, false_or, nle_f, nI_cl, n_lad, n_adl, nI_add, if_true, if_false, ite_true, ite_false]
theorem call_carry (h : r_Rel M) (a b : Int32) : r_ok (F_X11_carry w M a b) (fun M => F_X12_carry w M a b) := by
  obtain ⟨P, hc, hb, hv⟩ := h.2.2.2.2.2.2.1
  by_cases hr : (1 : Int32) ≤ a ∧ a ≤ 20
  · have m1 := fun N => in_t (w := w) (M := N) (B := 1) (C := 20) 1 20 rfl rfl hr
    have w1 : ∀ N, F_X11_isWithin w N a 1 20 = some (true, N) := fun N => by rw [f_wi, decide_eq_true hr]
    by_cases hr2 : (1 : Int32) ≤ b ∧ b ≤ 20
    · have m2 := fun N => in_t (w := w) (M := N) (B := 1) (C := 20) 1 20 rfl rfl hr2
      have w2 : ∀ N, F_X11_isWithin w N b 1 20 = some (true, N) := fun N => by rw [f_wi, decide_eq_true hr2]
      by_cases q : q_car P.1 a b
      · obtain ⟨A, a1, a2, a3⟩ := (c_carry (w := w) hc hv a b).1 q
        have hbN : BP ((z_wI (z_wI (z_wI A 0 11 0) 137 1 0) 137 0 0).1 142) P := by
          simp (decide := true) (disch := omega) only [Option.bind_some, wI_row, wI_slot, wI_same, wI_2, nI_p0, false_or, nle_f, nI_cl, n_lad, n_adl, nI_add, if_true, if_false, ite_true, ite_false]
          rw [a3.1 142 (by omega)]
          exact hb
        obtain ⟨N, n1, n2, n3⟩ := (m_carry (w := w) hbN hv a b).1 q
        refine ⟨(p_carry P).1 8, z_wI A 0 11 0, N, ?_, ?_, r_op h a3 a2 n3 n2 (v_carry hv q)⟩
        · have s8 : A.1 7 8 = _ := a2.1.2.2.2.1
          simp (decide := true) (disch := omega) only [F_X11_carry, F_X11_answer, w1, w2, a1, s8, Option.bind_some, wI_row, wI_slot, wI_same, wI_2, nI_p0, false_or, nle_f, nI_cl, n_lad, n_adl, nI_add, if_true, if_false, ite_true, ite_false]
        · have s8 : N.1 142 8 = _ := n2.1.2.2.2.1
          simp (decide := true) (disch := omega) only [F_X12_carry, m1, m2, n1, s8, Option.bind_some, wI_row, wI_slot, wI_same, wI_2, nI_p0, false_or, nle_f, nI_cl, n_lad, n_adl, nI_add, if_true, if_false, ite_true, ite_false]
      · have e1 : F_X3_carryBy w M 7 a b = some (false, M) := (c_carry (w := w) hc hv a b).2 q
        have e2 := (m_carry (w := w) (M := z_wI (z_wI (z_wI M 0 11 9) 137 1 0) 137 0 0) (P := P) (show BP (M.1 142) P from hb) hv a b).2 q
        refine ⟨-1, z_wI M 0 11 9, z_st M 9, ?_, ?_, r_stv 9 h⟩
        · simp (decide := true) (disch := omega) only [F_X11_carry, F_X11_refuse, w1, w2, e1, Bool.false_eq_true, Option.bind_some, wI_row, wI_slot, wI_same, wI_2, nI_p0, false_or, nle_f, nI_cl, n_lad, n_adl, nI_add, if_true, if_false, ite_true, ite_false]
        · simp (decide := true) (disch := omega) only [F_X12_carry, F_X12_refuse, m1, m2, e2, z_st, wI_wI, Bool.false_eq_true, Option.bind_some, wI_row, wI_slot, wI_same, wI_2, nI_p0, false_or, nle_f, nI_cl, n_lad, n_adl, nI_add, if_true, if_false, ite_true, ite_false]
    · have m2 := fun N => in_f (w := w) (M := N) (B := 1) (C := 20) 1 20 rfl rfl hr2
      have w2 : ∀ N, F_X11_isWithin w N b 1 20 = some (false, N) := fun N => by rw [f_wi, decide_eq_false hr2]
      refine ⟨-1, z_wI M 0 11 5, z_st M 5, ?_, ?_, r_stv 5 h⟩
      · simp (decide := true) (disch := omega) only [F_X11_carry, F_X11_refuse, w1, w2, Bool.false_eq_true, Option.bind_some, wI_row, wI_slot, wI_same, wI_2, nI_p0, false_or, nle_f, nI_cl, n_lad, n_adl, nI_add, if_true, if_false, ite_true, ite_false]
      · simp (decide := true) (disch := omega) only [F_X12_carry, F_X12_refuse, m1, m2, z_st, wI_wI, Bool.false_eq_true, Option.bind_some, wI_row, wI_slot, wI_same, wI_2, nI_p0, false_or, nle_f, nI_cl, n_lad, n_adl, nI_add, if_true, if_false, ite_true, ite_false]
  · have m2 := fun N => in_f (w := w) (M := N) (B := 1) (C := 20) 1 20 rfl rfl hr
    have w2 : ∀ N, F_X11_isWithin w N a 1 20 = some (false, N) := fun N => by rw [f_wi, decide_eq_false hr]
    refine ⟨-1, z_wI M 0 11 5, z_st M 5, ?_, ?_, r_stv 5 h⟩
    · simp (decide := true) (disch := omega) only [F_X11_carry, F_X11_refuse, w2, Bool.false_eq_true, Option.bind_some, wI_row, wI_slot, wI_same, wI_2, nI_p0, false_or, nle_f, nI_cl, n_lad, n_adl, nI_add, if_true, if_false, ite_true, ite_false]
    · simp (decide := true) (disch := omega) only [F_X12_carry, F_X12_refuse, m2, z_st, wI_wI, Bool.false_eq_true, Option.bind_some, wI_row, wI_slot, wI_same, wI_2, nI_p0, false_or, nle_f, nI_cl, n_lad, n_adl, nI_add, if_true, if_false, ite_true, ite_false]
theorem call_swear (h : r_Rel M) (a b c : Int32) : r_ok (F_X11_swear w M a b c) (fun M => F_X12_swear w M a b c) := by
  obtain ⟨P, hc, hb, hv⟩ := h.2.2.2.2.2.2.1
  have h5 : P.2.2.1.2.length ≤ 5 := hv.2.2.1.1
  by_cases hs : a = 0 ∨ a = 1
  · have s1 : ∀ N, F_X11_isSide w N a = some (true, N) := fun N => by rcases hs with rfl | rfl <;> rfl
    have s2 : ∀ N, F_X12_isSideAt w N a = some (true, N) := fun N => by rcases hs with rfl | rfl <;> rfl
    by_cases hr : (1 : Int32) ≤ b ∧ b ≤ 99
    · have m1 := fun N => in_t (w := w) (M := N) (B := 1) (C := 99) 1 99 rfl rfl hr
      have w1 : ∀ N, F_X11_isWithin w N b 1 99 = some (true, N) := fun N => by rw [f_wi, decide_eq_true hr]
      by_cases hr2 : (1 : Int32) ≤ c ∧ c ≤ 24
      · have m2 := fun N => in_t (w := w) (M := N) (B := 1) (C := 24) 1 24 rfl rfl hr2
        have w2 : ∀ N, F_X11_isWithin w N c 1 24 = some (true, N) := fun N => by rw [f_wi, decide_eq_true hr2]
        by_cases q : P.2.2.1.2.length < 5
        · obtain ⟨A, a1, a2, a3⟩ := c_swear (w := w) hc q a b c
          have hbN : BP ((z_wI (z_wI (z_wI A 0 11 0) 137 1 0) 137 0 0).1 142) P := by
            simp (decide := true) (disch := omega) only [Option.bind_some, wI_row, wI_slot, wI_same, wI_2, nI_p0, false_or, nle_f, nI_cl, n_lad, n_adl, nI_add, if_true, if_false, ite_true, ite_false]
            rw [a3.1 142 (by omega)]
            exact hb
          obtain ⟨N, n1, n2, n3⟩ := m_swear (w := w) hbN hv q a b c
          refine ⟨nI (P.2.2.1.2.length + 1), z_wI A 0 11 0, N, ?_, ?_, r_op h a3 a2 n3 n2 (v_swear hv q hs hr hr2)⟩
          · have s8 : A.1 15 3 = nI (P.2.2.1.2 ++ [(a, b, c)]).length := a2.2.2.1.1
            rw [List.length_append] at s8
            simp (decide := true) (disch := omega) only [F_X11_swear, F_X11_answer, s1, w1, w2, a1, s8, Option.bind_some, wI_row, wI_slot, wI_same, wI_2, nI_p0, false_or, nle_f, nI_cl, n_lad, n_adl, nI_add, if_true, if_false, ite_true, ite_false]
            rfl
          · have s8 : N.1 142 1 = nI (P.2.2.1.2 ++ [(a, b, c)]).length := n2.2.2.1.1
            rw [List.length_append] at s8
            have s9 : (z_wI (z_wI (z_wI A 0 11 0) 137 1 0) 137 0 0).1 142 1 = _ := hbN.2.2.1.1
            have s10 : ¬ nI P.2.2.1.2.length = 5 := fun e => by
              have := (nI_eq (a := P.2.2.1.2.length) (b := 5) (by omega) (by omega)).mp e
              omega
            show F_X12_swear w _ a b c = _
            unfold F_X12_swear
            rw [s2]
            simp only [Option.bind_some, if_true]
            rw [m1]
            simp only [Option.bind_some, if_true]
            rw [m2]
            simp only [Option.bind_some, if_true]
            rw [s9, if_neg s10, n1]
            simp only [Option.bind_some]
            rw [s8]
            rfl
        · have h6 : P.2.2.1.2.length = 5 := by omega
          have e1 : F_X1_add w M 7 a b c = some (false, M) := f_addD0 hc.2.2.1 h6 a b c
          have e2 : M.1 142 1 = 5 := by rw [hb.2.2.1.1, h6]; rfl
          refine ⟨-1, z_wI M 0 11 7, z_st M 7, ?_, ?_, r_stv 7 h⟩
          · simp (decide := true) (disch := omega) only [F_X11_swear, F_X11_refuse, s1, w1, w2, e1, Bool.false_eq_true, Option.bind_some, wI_row, wI_slot, wI_same, wI_2, nI_p0, false_or, nle_f, nI_cl, n_lad, n_adl, nI_add, if_true, if_false, ite_true, ite_false]
          · simp (decide := true) (disch := omega) only [F_X12_swear, F_X12_refuse, s2, m1, m2, e2, z_st, wI_wI, Option.bind_some, wI_row, wI_slot, wI_same, wI_2, nI_p0, false_or, nle_f, nI_cl, n_lad, n_adl, nI_add, if_true, if_false, ite_true, ite_false]
      · have m2 := fun N => in_f (w := w) (M := N) (B := 1) (C := 24) 1 24 rfl rfl hr2
        have w2 : ∀ N, F_X11_isWithin w N c 1 24 = some (false, N) := fun N => by rw [f_wi, decide_eq_false hr2]
        refine ⟨-1, z_wI M 0 11 5, z_st M 5, ?_, ?_, r_stv 5 h⟩
        · simp (decide := true) (disch := omega) only [F_X11_swear, F_X11_refuse, s1, w1, w2, Bool.false_eq_true, Option.bind_some, wI_row, wI_slot, wI_same, wI_2, nI_p0, false_or, nle_f, nI_cl, n_lad, n_adl, nI_add, if_true, if_false, ite_true, ite_false]
        · simp (decide := true) (disch := omega) only [F_X12_swear, F_X12_refuse, s2, m1, m2, z_st, wI_wI, Bool.false_eq_true, Option.bind_some, wI_row, wI_slot, wI_same, wI_2, nI_p0, false_or, nle_f, nI_cl, n_lad, n_adl, nI_add, if_true, if_false, ite_true, ite_false]
    · have m2 := fun N => in_f (w := w) (M := N) (B := 1) (C := 99) 1 99 rfl rfl hr
      have w2 : ∀ N, F_X11_isWithin w N b 1 99 = some (false, N) := fun N => by rw [f_wi, decide_eq_false hr]
      refine ⟨-1, z_wI M 0 11 5, z_st M 5, ?_, ?_, r_stv 5 h⟩
      · simp (decide := true) (disch := omega) only [F_X11_swear, F_X11_refuse, s1, w2, Bool.false_eq_true, Option.bind_some, wI_row, wI_slot, wI_same, wI_2, nI_p0, false_or, nle_f, nI_cl, n_lad, n_adl, nI_add, if_true, if_false, ite_true, ite_false]
      · simp (decide := true) (disch := omega) only [F_X12_swear, F_X12_refuse, s2, m2, z_st, wI_wI, Bool.false_eq_true, Option.bind_some, wI_row, wI_slot, wI_same, wI_2, nI_p0, false_or, nle_f, nI_cl, n_lad, n_adl, nI_add, if_true, if_false, ite_true, ite_false]
  · have e := fun N => sd_f (w := w) (M := N) hs
    refine ⟨-1, z_wI M 0 11 2, z_st M 2, ?_, ?_, r_stv 2 h⟩
    · simp (decide := true) (disch := omega) only [F_X11_swear, F_X11_refuse, (e _).1, Bool.false_eq_true, Option.bind_some, wI_row, wI_slot, wI_same, wI_2, nI_p0, false_or, nle_f, nI_cl, n_lad, n_adl, nI_add, if_true, if_false, ite_true, ite_false]
    · simp (decide := true) (disch := omega) only [F_X12_swear, F_X12_refuse, (e _).2, z_st, wI_wI, Bool.false_eq_true, Option.bind_some, wI_row, wI_slot, wI_same, wI_2, nI_p0, false_or, nle_f, nI_cl, n_lad, n_adl, nI_add, if_true, if_false, ite_true, ite_false]
theorem call_pay (hw : 1000 ≤ w) (h : r_Rel M) (a : Int32) : r_ok (F_X11_pay w M a) (fun M => F_X12_pay w M a) := by
  obtain ⟨P, hc, hb, hv⟩ := h.2.2.2.2.2.2.1
  have h5 : P.2.2.1.2.length ≤ 5 := hv.2.2.1.1
  have c0 := hc.2.2.1.1
  have b0 := hb.2.2.1.1
  by_cases hx : ∃ j, j < P.2.2.1.2.length ∧ a = nI j
  · obtain ⟨j, hj, rfl⟩ := hx
    have e1 : F_X1_isThere w M 7 (nI j) = some (true, M) := thD_t c0 (by omega) hj
    have m1 : ∀ N, F_X12_isIn w N (nI j).toInt64 0 ((nI P.2.2.1.2.length - 1).toInt64) = some (true, N) := fun N => is_t hj (by omega)
    obtain ⟨x, x1, _⟩ := d_dr hj
    obtain ⟨g1, _⟩ := hc.2.2.1.2.2 j x x1
    obtain ⟨u1, _⟩ := hb.2.2.1.2.2 j x x1
    simp only [Nat.reduceAdd] at g1
    obtain ⟨k, hk, hk2⟩ : ∃ k, k < 2 ∧ x.1 = nI k := by
      rcases (hv.2.2.1.2 x (List.mem_of_getElem? x1)).1 with e | e
      · exact ⟨0, by omega, e⟩
      · exact ⟨1, by omega, e⟩
    by_cases q : q_pay P.1 x
    · obtain ⟨A, a1, a2, a3⟩ := (c_pay (w := w) hc hv x1 hw).1 q
      have hbN : BP ((z_wI (z_wI (z_wI A 0 11 0) 137 1 0) 137 0 0).1 142) P := by
        simp (decide := true) (disch := omega) only [Option.bind_some, wI_row, wI_slot, wI_same, wI_2, nI_p0, false_or, nle_f, nI_cl, n_lad, n_adl, nI_add, if_true, if_false, ite_true, ite_false]
        rw [a3.1 142 (by omega)]
        exact hb
      obtain ⟨N, n1, n2, n3⟩ := (m_pay (w := w) hbN hv x1 hw).1 q
      have hA : A.1 8 k = (p_pay P j x).1 (12 + k) := by
        rcases (show k = 0 ∨ k = 1 by omega) with rfl | rfl
        · exact a2.1.2.2.2.2.2.2.2.1
        · exact a2.1.2.2.2.2.2.2.2.2
      have hN : N.1 142 (12 + k) = (p_pay P j x).1 (12 + k) := by
        rcases (show k = 0 ∨ k = 1 by omega) with rfl | rfl
        · exact n2.1.2.2.2.2.2.2.1
        · exact n2.1.2.2.2.2.2.2.2.1
      refine ⟨(p_pay P j x).1 (12 + k), z_wI A 0 11 0, N, ?_, ?_, r_op h a3 a2 n3 n2 (v_pay hv x1 q)⟩
      · simp (decide := true) (disch := omega) only [F_X11_pay, F_X11_answer, e1, a1, g1, hk2, hA, Option.bind_some, wI_row, wI_slot, wI_same, wI_2, nI_p0, false_or, nle_f, nI_cl, n_lad, n_adl, nI_add, if_true, if_false, ite_true, ite_false]
      · have u2 : (z_wI (z_wI (z_wI A 0 11 0) 137 1 0) 137 0 0).1 142 (60 + j) = nI k := by rw [(hbN.2.2.1.2.2 j x x1).1, hk2]
        have u3 : (z_wI (z_wI (z_wI A 0 11 0) 137 1 0) 137 0 0).1 142 1 = nI P.2.2.1.2.length := hbN.2.2.1.1
        show F_X12_pay w _ (nI j) = _
        unfold F_X12_pay F_X12_isDebtAt
        rw [u3, m1]
        simp only [Option.bind_some, if_true, k_60, nI_add]
        rw [if_neg (n_in (by omega) (by omega)), n1]
        simp only [Option.bind_some, if_true]
        rw [nI_cl (by omega), u2, k_12, nI_add, if_neg (n_in (by omega) (by omega)), nI_cl (by omega), hN]
    · have e2 : F_X3_payDebt w M 7 (nI j) = some (false, M) := (c_pay (w := w) hc hv x1 hw).2 q
      have e3 := (m_pay (w := w) (M := z_wI (z_wI (z_wI M 0 11 9) 137 1 0) 137 0 0) (P := P) (show BP (M.1 142) P from hb) hv x1 hw).2 q
      refine ⟨-1, z_wI M 0 11 9, z_st M 9, ?_, ?_, r_stv 9 h⟩
      · simp (decide := true) (disch := omega) only [F_X11_pay, F_X11_refuse, e1, e2, Bool.false_eq_true, Option.bind_some, wI_row, wI_slot, wI_same, wI_2, nI_p0, false_or, nle_f, nI_cl, n_lad, n_adl, nI_add, if_true, if_false, ite_true, ite_false]
      · simp (decide := true) (disch := omega) only [F_X12_pay, F_X12_isDebtAt, F_X12_refuse, m1, b0, k_60, e3, z_st, wI_wI, Bool.false_eq_true, Option.bind_some, wI_row, wI_slot, wI_same, wI_2, nI_p0, false_or, nle_f, nI_cl, n_lad, n_adl, nI_add, if_true, if_false, ite_true, ite_false]
  · refine ⟨-1, z_wI M 0 11 2, z_st M 2, ?_, ?_, r_stv 2 h⟩
    · have e1 := thD_f (w := w) c0 (by omega) hx
      simp (decide := true) (disch := omega) only [F_X11_pay, F_X11_refuse, e1, Bool.false_eq_true, Option.bind_some, wI_row, wI_slot, wI_same, wI_2, nI_p0, false_or, nle_f, nI_cl, n_lad, n_adl, nI_add, if_true, if_false, ite_true, ite_false]
    · have m1 := fun N => is_f (w := w) (M := N) hx (by omega)
      simp (decide := true) (disch := omega) only [F_X12_pay, F_X12_isDebtAt, F_X12_refuse, m1, b0, z_st, wI_wI, Bool.false_eq_true, Option.bind_some, wI_row, wI_slot, wI_same, wI_2, nI_p0, false_or, nle_f, nI_cl, n_lad, n_adl, nI_add, if_true, if_false, ite_true, ite_false]
end
