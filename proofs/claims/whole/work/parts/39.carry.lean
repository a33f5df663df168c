/-! ===== carrying, paying, swearing ===== -/
theorem CP_sd {M M' : z_Mem} {p : Nat} {P : t_P} {s' : Nat → Int32} {d' : Int32 × List t_D} (h : CP M p P) (hs : CK M' p s') (hd : D_c M' p d') (k : ∀ a, (p + 2 ≤ a ∧ a < p + 8) ∨ (p + 12 ≤ a ∧ a < p + 23) → M'.1 a = M.1 a) : CP M' p (s', P.2.1, d', P.2.2.2) := by
  obtain ⟨_, hR, _, hC, hY⟩ := h
  refine ⟨hs, ?_, hd, ?_, ?_⟩
  · rw [k (p + 2) (by omega), k (p + 3) (by omega), k (p + 4) (by omega), k (p + 5) (by omega), k (p + 6) (by omega), k (p + 7) (by omega)]
    exact hR
  · rw [k (p + 12) (by omega), k (p + 13) (by omega), k (p + 14) (by omega), k (p + 15) (by omega), k (p + 16) (by omega)]
    exact hC
  · rw [k (p + 17) (by omega), k (p + 18) (by omega), k (p + 19) (by omega), k (p + 20) (by omega), k (p + 21) (by omega), k (p + 22) (by omega)]
    exact hY
theorem BP_sd {f f' : Nat → Int32} {P : t_P} {s' : Nat → Int32} {d' : Int32 × List t_D} (h : BP f P) (hv : VP P) (hs : BS f' s') (hd : BD f' d') (k : ∀ k, k = 0 ∨ (2 ≤ k ∧ k < 5) ∨ (20 ≤ k ∧ k < 60) ∨ 75 ≤ k → f' k = f k) : BP f' (s', P.2.1, d', P.2.2.2) := by
  obtain ⟨_, hR, _, hC, hY⟩ := h
  obtain ⟨_, vR, _, vC, vY⟩ := hv
  exact ⟨hs, BR_of hR vR (k 0 (by omega)) (fun j a b => k j (by omega)), hd, BC_of hC vC (fun j a b => k j (by omega)) (fun j a b => k j (by omega)), BY_of hY (fun j a b => k j (by omega)) vY⟩
theorem r_p {M M' : z_Mem} (h : r_Rel M) (hs : M'.1 0 11 = M'.1 137 0) (k0 : ∀ k, k ≠ 11 → M'.1 0 k = M.1 0 k) (k1 : ∀ k, k ≠ 0 → k ≠ 1 → M'.1 137 k = M.1 137 k) (ka : ∀ a, a ≠ 0 → a ≠ 137 → a ≠ 142 → (a < 7 ∨ 30 ≤ a) → M'.1 a = M.1 a) (km : ∀ k, 375 ≤ k → M'.1 142 k = M.1 142 k) (kl : M'.2 = M.2) (hp : r_Pa M') : r_Rel M' := by
  obtain ⟨h1, h2, h3, h4, h5, h6, h7, h8⟩ := h
  refine ⟨hs, ?_, ?_, ?_, ?_, ?_, hp, ?_⟩
  · unfold r_Tr at h2 ⊢
    rw [ka 3 (by omega) (by omega) (by omega) (by omega), ka 4 (by omega) (by omega) (by omega) (by omega), ka 138 (by omega) (by omega) (by omega) (by omega), ka 139 (by omega) (by omega) (by omega) (by omega), kl]
    exact h2
  · unfold r_Fr at h3 ⊢
    rw [kl]; exact h3
  · unfold r_Ta at h4 ⊢
    rw [ka 5 (by omega) (by omega) (by omega) (by omega), k1 8 (by omega) (by omega), ka 6 (by omega) (by omega) (by omega) (by omega), ka 141 (by omega) (by omega) (by omega) (by omega)]
    exact h4
  · unfold r_Fa at h5 ⊢
    rw [k0 14 (by omega), k0 15 (by omega), k0 16 (by omega), k1 10 (by omega) (by omega), k1 11 (by omega) (by omega)]
    exact h5
  · unfold r_Li at h6 ⊢
    rw [ka 64 (by omega) (by omega) (by omega) (by omega), ka 147 (by omega) (by omega) (by omega) (by omega), k1 30 (by omega) (by omega)]
    exact h6
  · obtain ⟨n, hn, a, b, c⟩ := h8
    refine ⟨n, hn, by rw [k0 10 (by omega)]; exact a, by rw [k1 23 (by omega) (by omega)]; exact b, fun i hi => ?_⟩
    obtain ⟨P, c1, c2, c3⟩ := c i hi
    refine ⟨P, CP_of c1 (fun x h1 h2 => ka x (by omega) (by omega) (by omega) (by omega)), ?_, c3⟩
    have e : (fun k => M'.1 142 (375 * (i + 1) + k)) = fun k => M.1 142 (375 * (i + 1) + k) := by
      funext k
      exact km _ (by omega)
    rw [e]
    exact c2
/-- behind a call that did something -/
theorem r_op {M A N : z_Mem} {P : t_P} (h : r_Rel M) (hc : Kc 7 M A) (cp : CP A 7 P) (hm : Km (z_wI (z_wI (z_wI A 0 11 0) 137 1 0) 137 0 0) N) (bp : BP (N.1 142) P) (vp : VP P) : r_Rel N := by
  refine r_p h ?_ ?_ ?_ ?_ ?_ ?_ ⟨P, ?_, bp, vp⟩
  · rw [hm.1 0 (by omega), hm.1 137 (by omega)]
    simp (decide := true) (disch := omega) only [Option.bind_some, wI_row, wI_slot, wI_same, wI_2, nI_p0, false_or, nle_f, nI_cl, n_lad, n_adl, nI_add, if_true, if_false, ite_true, ite_false]
  · intro k hk
    rw [hm.1 0 (by omega)]
    simp (decide := true) (disch := omega) only [Option.bind_some, wI_row, wI_slot, wI_same, wI_2, nI_p0, false_or, nle_f, nI_cl, n_lad, n_adl, nI_add, if_true, if_false, ite_true, ite_false]
    rw [hc.1 0 (by omega)]
  · intro k hk hj
    rw [hm.1 137 (by omega)]
    simp (decide := true) (disch := omega) only [Option.bind_some, wI_row, wI_slot, wI_same, wI_2, nI_p0, false_or, nle_f, nI_cl, n_lad, n_adl, nI_add, if_true, if_false, ite_true, ite_false]
    rw [hc.1 137 (by omega)]
  · intro a a1 a2 a3 a4
    rw [hm.1 a a3]
    simp (decide := true) (disch := omega) only [Option.bind_some, wI_row, wI_slot, wI_same, wI_2, nI_p0, false_or, nle_f, nI_cl, n_lad, n_adl, nI_add, if_true, if_false, ite_true, ite_false]
    rw [hc.1 a (by omega)]
  · intro k hk
    rw [hm.2.1 k (by omega)]
    simp (decide := true) (disch := omega) only [Option.bind_some, wI_row, wI_slot, wI_same, wI_2, nI_p0, false_or, nle_f, nI_cl, n_lad, n_adl, nI_add, if_true, if_false, ite_true, ite_false]
    rw [hc.1 142 (by omega)]
  · rw [hm.2.2]
    exact hc.2
  · refine CP_of cp (fun a a1 a2 => ?_)
    rw [hm.1 a (by omega)]
    simp (decide := true) (disch := omega) only [Option.bind_some, wI_row, wI_slot, wI_same, wI_2, nI_p0, false_or, nle_f, nI_cl, n_lad, n_adl, nI_add, if_true, if_false, ite_true, ite_false]
def q_car (s : Nat → Int32) (a b : Int32) : Prop := a = b ∧ s 6 ≤ s (12 + (1 - s 8).toNatClampNeg)
def p_carry (P : t_P) : t_P := (sU (sU (sU P.1 (12 + (1 - P.1 8).toNatClampNeg) (P.1 (12 + (1 - P.1 8).toNatClampNeg) - P.1 6)) 8 (1 - P.1 8)) 11 (P.1 11 + 1), P.2.1, (P.2.2.1.1 + nI P.2.2.1.2.length, []), P.2.2.2)
def p_swear (P : t_P) (x y z : Int32) : t_P := (P.1, P.2.1, (P.2.2.1.1, P.2.2.1.2 ++ [(x, y, z)]), P.2.2.2)
def q_pay (s : Nat → Int32) (x : t_D) : Prop := x.2.1 ≤ s (12 + x.1.toNatClampNeg)
def p_pay (P : t_P) (g : Nat) (x : t_D) : t_P := (b_bring (sU P.1 (12 + x.1.toNatClampNeg) (P.1 (12 + x.1.toNatClampNeg) - x.2.1)) (1 - x.1) x.2.1, P.2.1, (P.2.2.1.1, P.2.2.1.2.eraseIdx g), P.2.2.2)
theorem i_subr {a b : Int32} (h : 0 ≤ a ∧ a ≤ 9999) (g : 0 ≤ b) (k : b ≤ a) : 0 ≤ a - b ∧ a - b ≤ 9999 := by
  have h1 := Int32.le_iff_toInt_le.mp h.1
  have h2 := Int32.le_iff_toInt_le.mp h.2
  have h3 := Int32.le_iff_toInt_le.mp g
  have h4 := Int32.le_iff_toInt_le.mp k
  have z0 : (0 : Int32).toInt = 0 := rfl
  have z9 : (9999 : Int32).toInt = 9999 := rfl
  rw [Int32.le_iff_toInt_le, Int32.le_iff_toInt_le, Int32.toInt_sub, Int.bmod_eq_of_le (by omega) (by omega)]
  omega
section
variable {w : Nat}
theorem c_carry {M : z_Mem} {p : Nat} {P : t_P} (h : CP M p P) (hv : VP P) (a b : Int32) : (q_car P.1 a b → ∃ M', F_X3_carryBy w M p a b = some (true, M') ∧ CP M' p (p_carry P) ∧ Kc p M M') ∧ (¬ q_car P.1 a b → F_X3_carryBy w M p a b = some (false, M)) := by
  obtain ⟨s5, s6, s7, s8, s9, s10, s11, s12, s13⟩ := h.1
  obtain ⟨d0, d1, d2⟩ := h.2.2.1
  unfold q_car F_X3_carryBy F_X1_lapseAll p_carry
  rw [s8]
  rcases hv.1.1 with g | g
  · rw [g]
    simp only [show (1 : Int32) - 0 = nI 1 from rfl]
    simp (decide := true) (disch := omega) only [s6, s13, Nat.reduceAdd, Option.bind_some, wI_row, wI_slot, wI_same, wI_2, nI_p0, false_or, nle_f, nI_cl, n_lad, n_adl, nI_add, if_true, if_false, ite_true, ite_false]
    constructor
    · rintro ⟨rfl, q⟩
      simp (decide := true) (disch := omega) only [q, s11, d0, d1, Option.bind_some, wI_row, wI_slot, wI_same, wI_2, nI_p0, false_or, nle_f, nI_cl, n_lad, n_adl, nI_add, if_true, if_false, ite_true, ite_false]
      refine ⟨_, rfl, CP_sd h ⟨?_, ?_, ?_, ?_, ?_, ?_, ?_, ?_, ?_⟩ ⟨?_, ?_, ?_⟩ ?_, ?_, rfl⟩
      all_goals first
        | (intro i x hx; simp at hx; done)
        | (intro a ha; simp (decide := true) (disch := omega) only [Option.bind_some, wI_row, wI_slot, wI_same, wI_2, nI_p0, false_or, nle_f, nI_cl, n_lad, n_adl, nI_add, if_true, if_false, ite_true, ite_false]; done)
        | (simp (decide := true) (disch := omega) only [sU_n, sU_s, s5, s6, s7, s8, s9, s10, s11, s12, s13, z_lay, List.length_nil, Option.bind_some, wI_row, wI_slot, wI_same, wI_2, nI_p0, false_or, nle_f, nI_cl, n_lad, n_adl, nI_add, if_true, if_false, ite_true, ite_false]; done)
        | skip
    · intro q
      by_cases e : a = b
      · have q2 : ¬ P.1 6 ≤ P.1 13 := fun u => q ⟨e, u⟩
        simp (decide := true) (disch := omega) only [e, q2, Option.bind_some, wI_row, wI_slot, wI_same, wI_2, nI_p0, false_or, nle_f, nI_cl, n_lad, n_adl, nI_add, if_true, if_false, ite_true, ite_false]
      · simp (decide := true) (disch := omega) only [e, Option.bind_some, wI_row, wI_slot, wI_same, wI_2, nI_p0, false_or, nle_f, nI_cl, n_lad, n_adl, nI_add, if_true, if_false, ite_true, ite_false]
  · rw [g]
    simp only [show (1 : Int32) - 1 = nI 0 from rfl]
    simp (decide := true) (disch := omega) only [s6, s12, Nat.reduceAdd, Nat.add_zero, Option.bind_some, wI_row, wI_slot, wI_same, wI_2, nI_p0, false_or, nle_f, nI_cl, n_lad, n_adl, nI_add, if_true, if_false, ite_true, ite_false]
    constructor
    · rintro ⟨rfl, q⟩
      simp (decide := true) (disch := omega) only [q, s11, d0, d1, Option.bind_some, wI_row, wI_slot, wI_same, wI_2, nI_p0, false_or, nle_f, nI_cl, n_lad, n_adl, nI_add, if_true, if_false, ite_true, ite_false]
      refine ⟨_, rfl, CP_sd h ⟨?_, ?_, ?_, ?_, ?_, ?_, ?_, ?_, ?_⟩ ⟨?_, ?_, ?_⟩ ?_, ?_, rfl⟩
      all_goals first
        | (intro i x hx; simp at hx; done)
        | (intro a ha; simp (decide := true) (disch := omega) only [Option.bind_some, wI_row, wI_slot, wI_same, wI_2, nI_p0, false_or, nle_f, nI_cl, n_lad, n_adl, nI_add, if_true, if_false, ite_true, ite_false]; done)
        | (simp (decide := true) (disch := omega) only [sU_n, sU_s, s5, s6, s7, s8, s9, s10, s11, s12, s13, z_lay, List.length_nil, Option.bind_some, wI_row, wI_slot, wI_same, wI_2, nI_p0, false_or, nle_f, nI_cl, n_lad, n_adl, nI_add, if_true, if_false, ite_true, ite_false]; done)
        | skip
    · intro q
      by_cases e : a = b
      · have q2 : ¬ P.1 6 ≤ P.1 12 := fun u => q ⟨e, u⟩
        simp (decide := true) (disch := omega) only [e, q2, Option.bind_some, wI_row, wI_slot, wI_same, wI_2, nI_p0, false_or, nle_f, nI_cl, n_lad, n_adl, nI_add, if_true, if_false, ite_true, ite_false]
      · simp (decide := true) (disch := omega) only [e, Option.bind_some, wI_row, wI_slot, wI_same, wI_2, nI_p0, false_or, nle_f, nI_cl, n_lad, n_adl, nI_add, if_true, if_false, ite_true, ite_false]
theorem m_carry {M : z_Mem} {P : t_P} (h : BP (M.1 142) P) (hv : VP P) (a b : Int32) : (q_car P.1 a b → ∃ M', F_X12_carries w M a b = some (true, M') ∧ BP (M'.1 142) (p_carry P) ∧ Km M M') ∧ (¬ q_car P.1 a b → F_X12_carries w M a b = some (false, M)) := by
  obtain ⟨s5, s6, s7, s8, s9, s11, s12, s13, t1, t2, t3, t4, t5, t6⟩ := h.1
  obtain ⟨d0, d1, d2⟩ := h.2.2.1
  unfold q_car F_X12_carries F_X12_hasToll p_carry
  rw [s8]
  rcases hv.1.1 with g | g
  · rw [g]
    simp only [show (1 : Int32) - 0 = nI 1 from rfl, show (13 : Int32) - 0 = nI 13 from rfl]
    simp (decide := true) (disch := omega) only [s6, s13, k_12, Nat.reduceAdd, Option.bind_some, wI_row, wI_slot, wI_same, wI_2, nI_p0, false_or, nle_f, nI_cl, n_lad, n_adl, nI_add, if_true, if_false, ite_true, ite_false]
    constructor
    · rintro ⟨rfl, q⟩
      have q2 := i_nlt.mpr q
      simp (decide := true) (disch := omega) only [q2, s8, g, show (1 : Int32) - 0 = nI 1 from rfl, s13, s6, s11, d0, d1, k_12, Nat.reduceAdd, Option.bind_some, wI_row, wI_slot, wI_same, wI_2, nI_p0, false_or, nle_f, nI_cl, n_lad, n_adl, nI_add, if_true, if_false, ite_true, ite_false]
      refine ⟨_, rfl, BP_sd h hv ⟨?_, ?_, ?_, ?_, ?_, ?_, ?_, ?_, ?_, ?_, ?_, ?_, ?_, ?_⟩ ⟨?_, ?_, ?_⟩ ?_, ?_, ?_, rfl⟩
      all_goals first
        | (intro i x hx; simp at hx; done)
        | (intro a ha; simp (decide := true) (disch := omega) only [Option.bind_some, wI_row, wI_slot, wI_same, wI_2, nI_p0, false_or, nle_f, nI_cl, n_lad, n_adl, nI_add, if_true, if_false, ite_true, ite_false]; done)
        | (simp (decide := true) (disch := omega) only [sU_n, sU_s, s5, s6, s7, s8, s9, s11, s12, s13, t1, t2, t3, t4, t5, t6, List.length_nil, Option.bind_some, wI_row, wI_slot, wI_same, wI_2, nI_p0, false_or, nle_f, nI_cl, n_lad, n_adl, nI_add, if_true, if_false, ite_true, ite_false]; done)
        | skip
    · intro q
      by_cases e : a = b
      · have q2 : P.1 13 < P.1 6 := i_nle.mp fun u => q ⟨e, u⟩
        simp (decide := true) (disch := omega) only [e, q2, Bool.false_eq_true, Option.bind_some, wI_row, wI_slot, wI_same, wI_2, nI_p0, false_or, nle_f, nI_cl, n_lad, n_adl, nI_add, if_true, if_false, ite_true, ite_false]
      · simp (decide := true) (disch := omega) only [e, Option.bind_some, wI_row, wI_slot, wI_same, wI_2, nI_p0, false_or, nle_f, nI_cl, n_lad, n_adl, nI_add, if_true, if_false, ite_true, ite_false]
  · rw [g]
    simp only [show (1 : Int32) - 1 = nI 0 from rfl, show (13 : Int32) - 1 = nI 12 from rfl]
    simp (decide := true) (disch := omega) only [s6, s12, k_12, Nat.reduceAdd, Nat.add_zero, Option.bind_some, wI_row, wI_slot, wI_same, wI_2, nI_p0, false_or, nle_f, nI_cl, n_lad, n_adl, nI_add, if_true, if_false, ite_true, ite_false]
    constructor
    · rintro ⟨rfl, q⟩
      have q2 := i_nlt.mpr q
      simp (decide := true) (disch := omega) only [q2, s8, g, show (1 : Int32) - 1 = nI 0 from rfl, s12, s6, s11, d0, d1, k_12, Nat.reduceAdd, Nat.add_zero, Option.bind_some, wI_row, wI_slot, wI_same, wI_2, nI_p0, false_or, nle_f, nI_cl, n_lad, n_adl, nI_add, if_true, if_false, ite_true, ite_false]
      refine ⟨_, rfl, BP_sd h hv ⟨?_, ?_, ?_, ?_, ?_, ?_, ?_, ?_, ?_, ?_, ?_, ?_, ?_, ?_⟩ ⟨?_, ?_, ?_⟩ ?_, ?_, ?_, rfl⟩
      all_goals first
        | (intro i x hx; simp at hx; done)
        | (intro a ha; simp (decide := true) (disch := omega) only [Option.bind_some, wI_row, wI_slot, wI_same, wI_2, nI_p0, false_or, nle_f, nI_cl, n_lad, n_adl, nI_add, if_true, if_false, ite_true, ite_false]; done)
        | (simp (decide := true) (disch := omega) only [sU_n, sU_s, s5, s6, s7, s8, s9, s11, s12, s13, t1, t2, t3, t4, t5, t6, List.length_nil, Option.bind_some, wI_row, wI_slot, wI_same, wI_2, nI_p0, false_or, nle_f, nI_cl, n_lad, n_adl, nI_add, if_true, if_false, ite_true, ite_false]; done)
        | skip
    · intro q
      by_cases e : a = b
      · have q2 : P.1 12 < P.1 6 := i_nle.mp fun u => q ⟨e, u⟩
        simp (decide := true) (disch := omega) only [e, q2, Bool.false_eq_true, Option.bind_some, wI_row, wI_slot, wI_same, wI_2, nI_p0, false_or, nle_f, nI_cl, n_lad, n_adl, nI_add, if_true, if_false, ite_true, ite_false]
      · simp (decide := true) (disch := omega) only [e, Option.bind_some, wI_row, wI_slot, wI_same, wI_2, nI_p0, false_or, nle_f, nI_cl, n_lad, n_adl, nI_add, if_true, if_false, ite_true, ite_false]
theorem v_carry {P : t_P} (hv : VP P) {a b : Int32} (q : q_car P.1 a b) : VP (p_carry P) := by
  obtain ⟨⟨v1, v2, v3, v4, v5, v6, v7⟩, vR, vD, vC, vY⟩ := hv
  obtain ⟨_, q⟩ := q
  refine ⟨?_, vR, ⟨by simp [p_carry], fun x hx => by simp [p_carry] at hx⟩, vC, vY⟩
  unfold p_carry
  rcases v1 with g | g
  · rw [g] at q ⊢
    simp only [show (1 : Int32) - 0 = 1 from rfl, show (1 : Int32).toNatClampNeg = 1 from rfl, Nat.reduceAdd] at q ⊢
    refine ⟨Or.inr ?_, fun k hk => ?_, ?_, ?_, ?_, ?_, ?_⟩
    · simp (decide := true) (disch := omega) only [sU_n, sU_s, Option.bind_some, wI_row, wI_slot, wI_same, wI_2, nI_p0, false_or, nle_f, nI_cl, n_lad, n_adl, nI_add, if_true, if_false, ite_true, ite_false]
    · simp (decide := true) (disch := omega) only [sU_n, Option.bind_some, wI_row, wI_slot, wI_same, wI_2, nI_p0, false_or, nle_f, nI_cl, n_lad, n_adl, nI_add, if_true, if_false, ite_true, ite_false]
      exact v2 k hk
    · simp (decide := true) (disch := omega) only [sU_n, Option.bind_some, wI_row, wI_slot, wI_same, wI_2, nI_p0, false_or, nle_f, nI_cl, n_lad, n_adl, nI_add, if_true, if_false, ite_true, ite_false]
      exact v3
    · simp (decide := true) (disch := omega) only [sU_n, sU_s, Option.bind_some, wI_row, wI_slot, wI_same, wI_2, nI_p0, false_or, nle_f, nI_cl, n_lad, n_adl, nI_add, if_true, if_false, ite_true, ite_false]
      exact i_subr v4 v6.1 q
    · simp (decide := true) (disch := omega) only [sU_n, Option.bind_some, wI_row, wI_slot, wI_same, wI_2, nI_p0, false_or, nle_f, nI_cl, n_lad, n_adl, nI_add, if_true, if_false, ite_true, ite_false]
      exact v5
    · simp (decide := true) (disch := omega) only [sU_n, Option.bind_some, wI_row, wI_slot, wI_same, wI_2, nI_p0, false_or, nle_f, nI_cl, n_lad, n_adl, nI_add, if_true, if_false, ite_true, ite_false]
      exact v6
    · simp (decide := true) (disch := omega) only [sU_n, Option.bind_some, wI_row, wI_slot, wI_same, wI_2, nI_p0, false_or, nle_f, nI_cl, n_lad, n_adl, nI_add, if_true, if_false, ite_true, ite_false]
      exact v7
  · rw [g] at q ⊢
    simp only [show (1 : Int32) - 1 = 0 from rfl, show (0 : Int32).toNatClampNeg = 0 from rfl, Nat.add_zero] at q ⊢
    refine ⟨Or.inl ?_, fun k hk => ?_, ?_, ?_, ?_, ?_, ?_⟩
    · simp (decide := true) (disch := omega) only [sU_n, sU_s, Option.bind_some, wI_row, wI_slot, wI_same, wI_2, nI_p0, false_or, nle_f, nI_cl, n_lad, n_adl, nI_add, if_true, if_false, ite_true, ite_false]
    · simp (decide := true) (disch := omega) only [sU_n, Option.bind_some, wI_row, wI_slot, wI_same, wI_2, nI_p0, false_or, nle_f, nI_cl, n_lad, n_adl, nI_add, if_true, if_false, ite_true, ite_false]
      exact v2 k hk
    · simp (decide := true) (disch := omega) only [sU_n, sU_s, Option.bind_some, wI_row, wI_slot, wI_same, wI_2, nI_p0, false_or, nle_f, nI_cl, n_lad, n_adl, nI_add, if_true, if_false, ite_true, ite_false]
      exact i_subr v3 v6.1 q
    · simp (decide := true) (disch := omega) only [sU_n, Option.bind_some, wI_row, wI_slot, wI_same, wI_2, nI_p0, false_or, nle_f, nI_cl, n_lad, n_adl, nI_add, if_true, if_false, ite_true, ite_false]
      exact v4
    · simp (decide := true) (disch := omega) only [sU_n, Option.bind_some, wI_row, wI_slot, wI_same, wI_2, nI_p0, false_or, nle_f, nI_cl, n_lad, n_adl, nI_add, if_true, if_false, ite_true, ite_false]
      exact v5
    · simp (decide := true) (disch := omega) only [sU_n, Option.bind_some, wI_row, wI_slot, wI_same, wI_2, nI_p0, false_or, nle_f, nI_cl, n_lad, n_adl, nI_add, if_true, if_false, ite_true, ite_false]
      exact v6
    · simp (decide := true) (disch := omega) only [sU_n, Option.bind_some, wI_row, wI_slot, wI_same, wI_2, nI_p0, false_or, nle_f, nI_cl, n_lad, n_adl, nI_add, if_true, if_false, ite_true, ite_false]
      exact v7
end
