/-! ===== trays ===== -/
theorem i_addI {x y : Int32} (h : -2147483648 ≤ x.toInt + y.toInt) (g : x.toInt + y.toInt < 2147483648) : (x + y).toInt = x.toInt + y.toInt := by
  rw [Int32.toInt_add]
  exact Int.bmod_eq_of_le (by omega) (by omega)
theorem i_subI {x y : Int32} (h : -2147483648 ≤ x.toInt - y.toInt) (g : x.toInt - y.toInt < 2147483648) : (x - y).toInt = x.toInt - y.toInt := by
  rw [Int32.toInt_sub]
  exact Int.bmod_eq_of_le (by omega) (by omega)
theorem l_addI {x y : Int64} (h : -9223372036854775808 ≤ x.toInt + y.toInt) (g : x.toInt + y.toInt < 9223372036854775808) : (x + y).toInt = x.toInt + y.toInt := by
  rw [Int64.toInt_add]
  exact Int.bmod_eq_of_le (by omega) (by omega)
theorem r_tr {M M' : z_Mem} (h : r_Rel M) (hs : M'.1 0 11 = M'.1 137 0) (k0 : ∀ k, k ≠ 11 → M'.1 0 k = M.1 0 k) (k1 : ∀ k, k ≠ 0 → k ≠ 1 → M'.1 137 k = M.1 137 k) (ka : ∀ a, a ≠ 0 → a ≠ 137 → a ≠ 3 → a ≠ 4 → a ≠ 138 → a ≠ 139 → M'.1 a = M.1 a) (kl : ∀ a, a ≠ 2 → a ≠ 140 → M'.2 a = M.2 a) (ht : r_Tr M') : r_Rel M' := by
  obtain ⟨h1, h2, h3, h4, h5, h6, h7, h8⟩ := h
  refine ⟨hs, ht, ?_, ?_, ?_, ?_, ?_, ?_⟩
  · unfold r_Fr at h3 ⊢
    rw [kl 0 (by omega) (by omega), kl 137 (by omega) (by omega)]
    exact h3
  · unfold r_Ta at h4 ⊢
    rw [ka 5 (by omega) (by omega) (by omega) (by omega) (by omega) (by omega), k1 8 (by omega) (by omega), ka 6 (by omega) (by omega) (by omega) (by omega) (by omega) (by omega), ka 141 (by omega) (by omega) (by omega) (by omega) (by omega) (by omega)]
    exact h4
  · unfold r_Fa at h5 ⊢
    rw [k0 14 (by omega), k0 15 (by omega), k0 16 (by omega), k1 10 (by omega) (by omega), k1 11 (by omega) (by omega)]
    exact h5
  · unfold r_Li at h6 ⊢
    rw [ka 64 (by omega) (by omega) (by omega) (by omega) (by omega) (by omega), ka 147 (by omega) (by omega) (by omega) (by omega) (by omega) (by omega), k1 30 (by omega) (by omega)]
    exact h6
  · obtain ⟨P, a, b, c⟩ := h7
    refine ⟨P, CP_of a (fun x h1 h2 => ka x (by omega) (by omega) (by omega) (by omega) (by omega) (by omega)), ?_, c⟩
    rw [ka 142 (by omega) (by omega) (by omega) (by omega) (by omega) (by omega)]
    exact b
  · obtain ⟨n, hn, a, b, c⟩ := h8
    refine ⟨n, hn, by rw [k0 10 (by omega)]; exact a, by rw [k1 23 (by omega) (by omega)]; exact b, fun i hi => ?_⟩
    obtain ⟨P, c1, c2, c3⟩ := c i hi
    refine ⟨P, CP_of c1 (fun x h1 h2 => ka x (by omega) (by omega) (by omega) (by omega) (by omega) (by omega)), ?_, c3⟩
    rw [ka 142 (by omega) (by omega) (by omega) (by omega) (by omega) (by omega)]
    exact c2
theorem tr_c (a : Int32) : (∃ t, t < 4 ∧ a = nI t ∧ ¬ nI t < 0 ∧ ¬ (4 : Int32) ≤ nI t ∧ nI t < (4 : Int32)) ∨ a < 0 ∨ (¬ a < 0 ∧ ¬ a < 4 ∧ (4 : Int32) ≤ a) := by
  rcases i_cx a 4 (by omega) with ⟨t, ht, rfl⟩ | ⟨_, h | h⟩
  · exact Or.inl ⟨t, ht, rfl, nI_pos (by omega), nI_ge (b := 4) ht (by omega), nI_lt (b := 4) ht (by omega)⟩
  · exact Or.inr (Or.inl h)
  · exact Or.inr (Or.inr h)
theorem ge12 {k : Nat} (h : k < 12) : ¬ (12 : Int32) ≤ nI k := nI_ge (b := 12) h (by omega)
theorem ge100 {k : Nat} (h : k < 100) : ¬ (100 : Int32) ≤ nI k := nI_ge (b := 100) h (by omega)
theorem nle0 {k : Nat} (h : 0 < k) (g : k < 2 ^ 31) : ¬ nI k ≤ (0 : Int32) := nI_ge (a := 0) h g
section
variable {w : Nat}
theorem cl_lay {t : Nat} (ht : t < 4) : ∀ (m i c : Nat) (M : z_Mem), i + m ≤ 60 → m < c → ∃ M', L_X8_lay w c M (nI t) (nI (i + m)) (nI i) = some ((), M') ∧ M'.1 = M.1 ∧ ∀ x k, M'.2 x k = if x = 2 ∧ 60 * t + i ≤ k ∧ k < 60 * t + i + m then 0 else M.2 x k := by
  intro m
  induction m with
  | zero =>
    intro i c M h1 h2
    obtain ⟨c, rfl⟩ : ∃ c', c = c' + 1 := ⟨c - 1, by omega⟩
    refine ⟨M, ?_, rfl, fun x k => by rw [if_neg (by omega)]⟩
    rw [L_X8_lay, if_pos (nI_le (by omega) (by omega))]
  | succ m ih =>
    intro i c M h1 h2
    obtain ⟨c, rfl⟩ : ∃ c', c = c' + 1 := ⟨c - 1, by omega⟩
    obtain ⟨M', r1, r2, r3⟩ := ih (i + 1) c (z_wL M 2 (t * 60 + i) 0) (by omega) (by omega)
    refine ⟨M', ?_, r2, fun x k => ?_⟩
    · rw [L_X8_lay, if_neg (nI_ge (by omega) (by omega))]
      simp (decide := true) (disch := omega) only [k_60, g_nmul, nI_11, Option.bind_some, wI_row, wI_slot, wI_same, wI_2, nI_p0, false_or, nle_f, nI_cl, n_lad, n_adl, nI_add, if_true, if_false, ite_true, ite_false]
      rw [show i + (m + 1) = i + 1 + m by omega]
      exact r1
    · rw [r3, wL_rd]
      by_cases e1 : x = 2 ∧ 60 * t + (i + 1) ≤ k ∧ k < 60 * t + (i + 1) + m
      · rw [if_pos e1, if_pos (by omega)]
      · rw [if_neg e1]
        by_cases e2 : x = 2 ∧ k = t * 60 + i
        · rw [if_pos e2, if_pos (by omega)]
        · rw [if_neg e2, if_neg (by omega)]
theorem ml_tray {t : Nat} (ht : t < 4) : ∀ (m i c : Nat) (M : z_Mem), i + m ≤ 60 → m < c → ∃ M', L_X12_tray w c M (nI t) (nI (i + m)) (nI i) = some (true, M') ∧ M'.1 = M.1 ∧ ∀ x k, M'.2 x k = if x = 140 ∧ 60 * t + i ≤ k ∧ k < 60 * t + i + m then 0 else M.2 x k := by
  intro m
  induction m with
  | zero =>
    intro i c M h1 h2
    obtain ⟨c, rfl⟩ : ∃ c', c = c' + 1 := ⟨c - 1, by omega⟩
    refine ⟨M, ?_, rfl, fun x k => by rw [if_neg (by omega)]⟩
    rw [L_X12_tray, if_pos (nI_le (by omega) (by omega))]
  | succ m ih =>
    intro i c M h1 h2
    obtain ⟨c, rfl⟩ : ∃ c', c = c' + 1 := ⟨c - 1, by omega⟩
    obtain ⟨M', r1, r2, r3⟩ := ih (i + 1) c (z_wL M 140 (60 * t + i) 0) (by omega) (by omega)
    refine ⟨M', ?_, r2, fun x k => ?_⟩
    · rw [L_X12_tray, if_neg (nI_ge (by omega) (by omega))]
      simp (decide := true) (disch := omega) only [k_60, g_nmul, nI_11, Option.bind_some, wI_row, wI_slot, wI_same, wI_2, nI_p0, false_or, nle_f, nI_cl, n_lad, n_adl, nI_add, if_true, if_false, ite_true, ite_false]
      rw [show i + (m + 1) = i + 1 + m by omega]
      exact r1
    · rw [r3, wL_rd]
      by_cases e1 : x = 140 ∧ 60 * t + (i + 1) ≤ k ∧ k < 60 * t + (i + 1) + m
      · rw [if_pos e1, if_pos (by omega)]
      · rw [if_neg e1]
        by_cases e2 : x = 140 ∧ k = 60 * t + i
        · rw [if_pos e2, if_pos (by omega)]
        · rw [if_neg e2, if_neg (by omega)]
variable {M : z_Mem}
theorem tr_t {t : Nat} (ht : t < 4) (N : z_Mem) : F_X8_isTray w N (nI t) = some (true, N) := by
  unfold F_X8_isTray
  rw [if_neg (nI_pos (by omega)), if_neg (show ¬ (4 : Int32) ≤ nI t from nI_ge (b := 4) ht (by omega))]
theorem tr_f {a : Int32} (h : a < 0 ∨ (¬ a < 0 ∧ ¬ a < 4 ∧ (4 : Int32) ≤ a)) (N : z_Mem) : F_X8_isTray w N a = some (false, N) := by
  unfold F_X8_isTray
  rcases h with q | ⟨q1, q2, q3⟩
  · rw [if_pos q]
  · rw [if_neg q1, if_pos q3]
theorem call_tray (hw : 1000 ≤ w) (h : r_Rel M) (a b c : Int32) : r_ok (F_X11_tray w M a b c) (fun M => F_X12_tray w M a b c) := by
  have ref : ∀ v : Int32, F_X11_tray w M a b c = some (false, z_wI M 0 11 v) → F_X12_tray w (z_wI M 0 11 v) a b c = some (false, z_st M v) → r_ok (F_X11_tray w M a b c) (fun M => F_X12_tray w M a b c) := fun v e1 e2 => ⟨false, _, _, e1, e2, r_stv v h⟩
  rcases tr_c a with ⟨t, ht, rfl, q1, q2, q3⟩ | q
  · have i1 := tr_t (w := w) ht M
    by_cases g1 : b < 0
    · exact ref 1 (by simp (decide := true) (disch := omega) only [F_X11_tray, F_X11_deny, i1, g1, Option.bind_some, wI_row, wI_slot, wI_same, wI_2, nI_p0, false_or, nle_f, nI_cl, n_lad, n_adl, nI_add, if_true, if_false, ite_true, ite_false]) (by simp (decide := true) (disch := omega) only [F_X12_tray, F_X12_no, z_st, wI_wI, q1, q2, g1, Option.bind_some, wI_row, wI_slot, wI_same, wI_2, nI_p0, false_or, nle_f, nI_cl, n_lad, n_adl, nI_add, if_true, if_false, ite_true, ite_false])
    · by_cases g2 : b ≤ 3
      · by_cases g3 : c ≤ 60
        · by_cases g4 : 0 ≤ c
          · obtain ⟨n, _, hn, rfl⟩ := (i_rng 0 60 (by omega) (by omega)).mp ⟨g4, g3⟩
            obtain ⟨A, a1, a2, a3⟩ := cl_lay (w := w) ht n 0 w (z_wI (z_wI M 4 t b) 3 t (nI n)) (by omega) (by omega)
            obtain ⟨B, b1, b2, b3⟩ := ml_tray (w := w) ht n 0 w (z_wI (z_wI (z_wI (z_wI (z_wI A 0 11 0) 137 1 0) 137 0 0) 138 t b) 139 t (nI n)) (by omega) (by omega)
            rw [Nat.zero_add] at a1 b1
            have a4 : L_X8_lay w w (z_wI (z_wI M 4 t b) 3 t (nI n)) (nI t) (nI n) 0 = some ((), A) := a1
            have b4 : L_X12_tray w w (z_wI (z_wI (z_wI (z_wI (z_wI A 0 11 0) 137 1 0) 137 0 0) 138 t b) 139 t (nI n)) (nI t) (nI n) 0 = some (true, B) := b1
            refine ⟨true, z_wI A 0 11 0, B, ?_, ?_, r_tr h ?_ ?_ ?_ ?_ ?_ ⟨fun u hu => ?_, fun k hk => ?_⟩⟩
            · simp (decide := true) (disch := omega) only [F_X11_tray, F_X11_allow, F_X8_lay, i1, g1, g2, g3, g4, a4, Option.bind_some, wI_row, wI_slot, wI_same, wI_2, nI_p0, false_or, nle_f, nI_cl, n_lad, n_adl, nI_add, if_true, if_false, ite_true, ite_false]
            · simp (decide := true) (disch := omega) only [F_X12_tray, q1, q2, g1, g2, g3, g4, b4, Option.bind_some, wI_row, wI_slot, wI_same, wI_2, nI_p0, false_or, nle_f, nI_cl, n_lad, n_adl, nI_add, if_true, if_false, ite_true, ite_false]
            · simp (decide := true) (disch := omega) only [b2, Option.bind_some, wI_row, wI_slot, wI_same, wI_2, nI_p0, false_or, nle_f, nI_cl, n_lad, n_adl, nI_add, if_true, if_false, ite_true, ite_false]
            · intro k hk
              simp (decide := true) (disch := omega) only [b2, a2, Option.bind_some, wI_row, wI_slot, wI_same, wI_2, nI_p0, false_or, nle_f, nI_cl, n_lad, n_adl, nI_add, if_true, if_false, ite_true, ite_false]
            · intro k hk hj
              simp (decide := true) (disch := omega) only [b2, a2, Option.bind_some, wI_row, wI_slot, wI_same, wI_2, nI_p0, false_or, nle_f, nI_cl, n_lad, n_adl, nI_add, if_true, if_false, ite_true, ite_false]
            · intro x h1 h2 h3 h4 h5 h6
              simp (decide := true) (disch := omega) only [b2, a2, Option.bind_some, wI_row, wI_slot, wI_same, wI_2, nI_p0, false_or, nle_f, nI_cl, n_lad, n_adl, nI_add, if_true, if_false, ite_true, ite_false]
            · intro x h1 h2
              funext k
              rw [b3, if_neg (by omega)]
              simp only [wI_2]
              rw [a3, if_neg (by omega)]
              simp only [wI_2]
            · by_cases e : u = t
              · subst e
                exact ⟨by simp (decide := true) (disch := omega) only [b2, a2, Option.bind_some, wI_row, wI_slot, wI_same, wI_2, nI_p0, false_or, nle_f, nI_cl, n_lad, n_adl, nI_add, if_true, if_false, ite_true, ite_false], by simp (decide := true) (disch := omega) only [b2, a2, Option.bind_some, wI_row, wI_slot, wI_same, wI_2, nI_p0, false_or, nle_f, nI_cl, n_lad, n_adl, nI_add, if_true, if_false, ite_true, ite_false], Or.inr ⟨n, hn, by simp (decide := true) (disch := omega) only [b2, a2, Option.bind_some, wI_row, wI_slot, wI_same, wI_2, nI_p0, false_or, nle_f, nI_cl, n_lad, n_adl, nI_add, if_true, if_false, ite_true, ite_false]⟩⟩
              · simp (decide := true) (disch := omega) only [b2, a2, Option.bind_some, wI_row, wI_slot, wI_same, wI_2, nI_p0, false_or, nle_f, nI_cl, n_lad, n_adl, nI_add, if_true, if_false, ite_true, ite_false]
                exact h.2.1.1 u hu
            · rw [b3 2 k, if_neg (by omega), b3 140 k]
              simp only [wI_2]
              rw [a3 2 k, a3 140 k]
              by_cases e : 60 * t + 0 ≤ k ∧ k < 60 * t + 0 + n
              · rw [if_pos (by first | exact ⟨rfl, e⟩ | exact ⟨trivial, e⟩), if_pos (by first | exact ⟨rfl, e⟩ | exact ⟨trivial, e⟩)]
              · rw [if_neg (by omega), if_neg (by omega), if_neg (by omega)]
                simp only [wI_2]
                exact h.2.1.2 k hk
          · exact ref 6 (by simp (decide := true) (disch := omega) only [F_X11_tray, F_X11_deny, i1, g1, g2, g3, g4, Option.bind_some, wI_row, wI_slot, wI_same, wI_2, nI_p0, false_or, nle_f, nI_cl, n_lad, n_adl, nI_add, if_true, if_false, ite_true, ite_false]) (by simp (decide := true) (disch := omega) only [F_X12_tray, F_X12_no, z_st, wI_wI, q1, q2, g1, g2, g3, g4, Option.bind_some, wI_row, wI_slot, wI_same, wI_2, nI_p0, false_or, nle_f, nI_cl, n_lad, n_adl, nI_add, if_true, if_false, ite_true, ite_false])
        · exact ref 5 (by simp (decide := true) (disch := omega) only [F_X11_tray, F_X11_deny, i1, g1, g2, g3, Option.bind_some, wI_row, wI_slot, wI_same, wI_2, nI_p0, false_or, nle_f, nI_cl, n_lad, n_adl, nI_add, if_true, if_false, ite_true, ite_false]) (by simp (decide := true) (disch := omega) only [F_X12_tray, F_X12_no, z_st, wI_wI, q1, q2, g1, g2, g3, Option.bind_some, wI_row, wI_slot, wI_same, wI_2, nI_p0, false_or, nle_f, nI_cl, n_lad, n_adl, nI_add, if_true, if_false, ite_true, ite_false])
      · exact ref 1 (by simp (decide := true) (disch := omega) only [F_X11_tray, F_X11_deny, i1, g1, g2, Option.bind_some, wI_row, wI_slot, wI_same, wI_2, nI_p0, false_or, nle_f, nI_cl, n_lad, n_adl, nI_add, if_true, if_false, ite_true, ite_false]) (by simp (decide := true) (disch := omega) only [F_X12_tray, F_X12_no, z_st, wI_wI, q1, q2, g1, g2, Option.bind_some, wI_row, wI_slot, wI_same, wI_2, nI_p0, false_or, nle_f, nI_cl, n_lad, n_adl, nI_add, if_true, if_false, ite_true, ite_false])
  · have i1 := tr_f (w := w) q M
    refine ref 1 (by simp (decide := true) (disch := omega) only [F_X11_tray, F_X11_deny, i1, Bool.false_eq_true, Option.bind_some, wI_row, wI_slot, wI_same, wI_2, nI_p0, false_or, nle_f, nI_cl, n_lad, n_adl, nI_add, if_true, if_false, ite_true, ite_false]) ?_
    rcases q with q | ⟨q1, q2, q3⟩
    · simp (decide := true) (disch := omega) only [F_X12_tray, F_X12_no, z_st, wI_wI, q, Option.bind_some, wI_row, wI_slot, wI_same, wI_2, nI_p0, false_or, nle_f, nI_cl, n_lad, n_adl, nI_add, if_true, if_false, ite_true, ite_false]
    · simp (decide := true) (disch := omega) only [F_X12_tray, F_X12_no, z_st, wI_wI, q1, q3, Option.bind_some, wI_row, wI_slot, wI_same, wI_2, nI_p0, false_or, nle_f, nI_cl, n_lad, n_adl, nI_add, if_true, if_false, ite_true, ite_false]
def z_cut (s : Int32) (v : Int64) : Int64 := if s = 0 then v.toInt32.toInt8.toInt32.toInt64 else if s = 1 then v.toInt32.toInt16.toInt32.toInt64 else if s = 2 then v.toInt32.toInt64 else v
theorem f_cut8 (N : z_Mem) (s : Int32) (v : Int64) : F_X8_cut w N v s = some (z_cut s v, N) := by
  unfold F_X8_cut z_cut
  by_cases h0 : s = 0
  · rw [if_pos h0, if_pos h0]
  · rw [if_neg h0, if_neg h0]
    by_cases h1 : s = 1
    · rw [if_pos h1, if_pos h1]
    · rw [if_neg h1, if_neg h1]
      by_cases h2 : s = 2
      · rw [if_pos h2, if_pos h2]
      · rw [if_neg h2, if_neg h2]
theorem f_cut12 (N : z_Mem) (s : Int32) (v : Int64) : F_X12_cut w N s v = some (z_cut s v, N) := by
  unfold F_X12_cut z_cut
  by_cases h0 : s = 0
  · rw [if_pos h0, if_pos h0]
  · rw [if_neg h0, if_neg h0]
    by_cases h1 : s = 1
    · rw [if_pos h1, if_pos h1]
    · rw [if_neg h1, if_neg h1]
      by_cases h2 : s = 2
      · rw [if_pos h2, if_pos h2]
      · rw [if_neg h2, if_neg h2]
/-- so many from a place on, in a row of n: as the class asks, as the reference does -/
theorem has_i {n : Nat} (hn : n ≤ 60) {b c : Int32} (hb : ¬ b < 0) (hc : 0 ≤ c) : (nI n - c < b) ↔ ¬ (b.toInt + c.toInt ≤ n) := by
  have z : (0 : Int32).toInt = 0 := rfl
  have h0 := Int32.le_iff_toInt_le.mp hc
  have h1 := Int32.le_iff_toInt_le.mp (i_nlt.mp hb)
  have h2 := nI_toInt (n := n) (by omega)
  have h3 := Int32.toInt_lt c
  have h4 := Int32.toInt_lt b
  rw [Int32.lt_iff_toInt_lt, i_subI (by omega) (by omega)]
  omega
theorem why {N : z_Mem} (h : r_Tr N) (a b : Int32) : ∃ v, F_X8_whyNot w N a b = some (v, N) ∧ (∀ K, K.1 139 = N.1 139 → F_X12_placed w K a b = some (v, K)) ∧ ((v = 0 ∧ ∃ t j, t < 4 ∧ j < 60 ∧ a = nI t ∧ b = nI j) ∨ (¬ v = 0 ∧ ¬ v ≤ 0)) := by
  rcases tr_c a with ⟨t, ht, rfl, q1, q2, q3⟩ | q
  · have i1 := tr_t (w := w) ht N
    obtain ⟨t1, t2, t3⟩ := h.1 t ht
    rcases t3 with t3 | ⟨n, hn, t3⟩
    · rw [t3] at t1
      refine ⟨3, ?_, fun K hK => ?_, Or.inr ⟨by decide, by decide⟩⟩
      · simp (decide := true) (disch := omega) only [F_X8_whyNot, F_X8_isMissing, i1, t3, Option.bind_some, wI_row, wI_slot, wI_same, wI_2, nI_p0, false_or, nle_f, nI_cl, n_lad, n_adl, nI_add, if_true, if_false, ite_true, ite_false]
      · simp (decide := true) (disch := omega) only [F_X12_placed, F_X12_trayed, q1, q3, hK, ← t1, Option.bind_some, wI_row, wI_slot, wI_same, wI_2, nI_p0, false_or, nle_f, nI_cl, n_lad, n_adl, nI_add, if_true, if_false, ite_true, ite_false]
    · rw [t3] at t1
      have n1 : ¬ nI n = -1 := fun e => by
        have := nI_pos (n := n) (by omega)
        rw [e] at this
        exact this (by decide)
      have n2 : 0 ≤ nI n := nI_pos' (by omega)
      by_cases g1 : b < 0
      · refine ⟨4, ?_, fun K hK => ?_, Or.inr ⟨by decide, by decide⟩⟩
        · simp (decide := true) (disch := omega) only [F_X8_whyNot, F_X8_isMissing, F_X8_has, i1, t3, n1, g1, Bool.false_eq_true, Option.bind_some, wI_row, wI_slot, wI_same, wI_2, nI_p0, false_or, nle_f, nI_cl, n_lad, n_adl, nI_add, if_true, if_false, ite_true, ite_false]
        · simp (decide := true) (disch := omega) only [F_X12_placed, F_X12_trayed, q1, q3, hK, ← t1, n2, g1, Option.bind_some, wI_row, wI_slot, wI_same, wI_2, nI_p0, false_or, nle_f, nI_cl, n_lad, n_adl, nI_add, if_true, if_false, ite_true, ite_false]
      · have e := has_i hn g1 (c := 1) (by decide)
        have z1 : (1 : Int32).toInt = 1 := rfl
        have h2 := nI_toInt (n := n) (by omega)
        by_cases g2 : b < nI n
        · have g3 : ¬ nI n - 1 < b := by
            rw [e, z1]
            have := Int32.lt_iff_toInt_lt.mp g2
            omega
          refine ⟨0, ?_, fun K hK => ?_, Or.inl ⟨rfl, ?_⟩⟩
          · simp (decide := true) (disch := omega) only [F_X8_whyNot, F_X8_isMissing, F_X8_has, i1, t3, n1, g1, g3, Bool.false_eq_true, Option.bind_some, wI_row, wI_slot, wI_same, wI_2, nI_p0, false_or, nle_f, nI_cl, n_lad, n_adl, nI_add, if_true, if_false, ite_true, ite_false]
          · simp (decide := true) (disch := omega) only [F_X12_placed, F_X12_trayed, q1, q3, hK, ← t1, n2, g1, g2, Option.bind_some, wI_row, wI_slot, wI_same, wI_2, nI_p0, false_or, nle_f, nI_cl, n_lad, n_adl, nI_add, if_true, if_false, ite_true, ite_false]
          · obtain ⟨j, hj, rfl⟩ := nI_of g1
            refine ⟨t, j, ht, ?_, rfl, rfl⟩
            have := Int32.lt_iff_toInt_lt.mp g2
            rw [nI_toInt hj] at this
            omega
        · have g3 : nI n - 1 < b := by
            rw [e, z1]
            have := Int32.le_iff_toInt_le.mp (i_nlt.mp g2)
            omega
          refine ⟨4, ?_, fun K hK => ?_, Or.inr ⟨by decide, by decide⟩⟩
          · simp (decide := true) (disch := omega) only [F_X8_whyNot, F_X8_isMissing, F_X8_has, i1, t3, n1, g1, g3, Bool.false_eq_true, Option.bind_some, wI_row, wI_slot, wI_same, wI_2, nI_p0, false_or, nle_f, nI_cl, n_lad, n_adl, nI_add, if_true, if_false, ite_true, ite_false]
          · simp (decide := true) (disch := omega) only [F_X12_placed, F_X12_trayed, q1, q3, hK, ← t1, n2, g1, g2, Option.bind_some, wI_row, wI_slot, wI_same, wI_2, nI_p0, false_or, nle_f, nI_cl, n_lad, n_adl, nI_add, if_true, if_false, ite_true, ite_false]
  · have i1 := tr_f (w := w) q N
    refine ⟨1, by simp (decide := true) (disch := omega) only [F_X8_whyNot, i1, Bool.false_eq_true, Option.bind_some, wI_row, wI_slot, wI_same, wI_2, nI_p0, false_or, nle_f, nI_cl, n_lad, n_adl, nI_add, if_true, if_false, ite_true, ite_false], fun K hK => ?_, Or.inr ⟨by decide, by decide⟩⟩
    rcases q with q | ⟨q1, q2, q3⟩
    · simp (decide := true) (disch := omega) only [F_X12_placed, F_X12_trayed, q, Option.bind_some, wI_row, wI_slot, wI_same, wI_2, nI_p0, false_or, nle_f, nI_cl, n_lad, n_adl, nI_add, if_true, if_false, ite_true, ite_false]
    · simp (decide := true) (disch := omega) only [F_X12_placed, F_X12_trayed, q1, q2, Option.bind_some, wI_row, wI_slot, wI_same, wI_2, nI_p0, false_or, nle_f, nI_cl, n_lad, n_adl, nI_add, if_true, if_false, ite_true, ite_false]
theorem f_put8 {N : z_Mem} {t j : Nat} (ht : t < 4) (hj : j < 60) (v : Int64) : F_X8_put w N (nI t) (nI j) v = some ((), z_wL N 2 (60 * t + j) (z_cut (N.1 4 t) v)) := by
  simp (decide := true) (disch := omega) only [F_X8_put, f_cut8, k_60, g_nmul, Option.bind_some, wI_row, wI_slot, wI_same, wI_2, nI_p0, false_or, nle_f, nI_cl, n_lad, n_adl, nI_add, if_true, if_false, ite_true, ite_false]
  rw [Nat.mul_comm]
theorem r_num {M N : z_Mem} (h : r_Rel M) (v : Int32) (hN : N.1 = (z_st M v).1) (kl : ∀ a, a ≠ 2 → a ≠ 140 → N.2 a = M.2 a) (k2 : ∀ k, k < 240 → N.2 2 k = N.2 140 k) : r_Rel N := by
  have e := r_stv v h
  refine r_tr (M := z_st M v) e ?_ ?_ ?_ ?_ kl ⟨?_, k2⟩
  · rw [hN]; exact e.1
  · intro k _; rw [hN]
  · intro k _ _; rw [hN]
  · intro a _ _ _ _ _ _; rw [hN]
  · rw [hN]; exact e.2.1.1
theorem call_write (h : r_Rel M) (a b : Int32) (v : Int64) : r_ok (F_X11_write w M a b v) (fun M => F_X12_write w M a b v) := by
  obtain ⟨x, e1, e2, e3⟩ := why (w := w) h.2.1 a b
  rcases e3 with ⟨rfl, t, j, ht, hj, rfl, rfl⟩ | ⟨g1, g2⟩
  · have s1 : M.1 138 t = M.1 4 t := (h.2.1.1 t ht).2.1.symm
    have e4 := e2 (z_wI (z_wI (z_wL M 2 (60 * t + j) (z_cut (M.1 4 t) v)) 0 11 0) 137 1 0) rfl
    refine ⟨true, z_wI (z_wL M 2 (60 * t + j) (z_cut (M.1 4 t) v)) 0 11 0, z_wL (z_wI (z_wI (z_wI (z_wL M 2 (60 * t + j) (z_cut (M.1 4 t) v)) 0 11 0) 137 1 0) 137 0 0) 140 (60 * t + j) (z_cut (M.1 4 t) v), ?_, ?_, r_num h 0 rfl ?_ ?_⟩
    · simp (decide := true) (disch := omega) only [F_X11_write, F_X11_allow, e1, f_put8, Option.bind_some, wI_row, wI_slot, wI_same, wI_2, nI_p0, false_or, nle_f, nI_cl, n_lad, n_adl, nI_add, if_true, if_false, ite_true, ite_false]
    · show F_X12_write w _ (nI t) (nI j) v = _
      unfold F_X12_write
      rw [e4]
      simp (decide := true) (disch := omega) only [f_cut12, k_60, g_nmul, s1, wL_1, Option.bind_some, wI_row, wI_slot, wI_same, wI_2, nI_p0, false_or, nle_f, nI_cl, n_lad, n_adl, nI_add, if_true, if_false, ite_true, ite_false]
    · intro x h1 h2
      rw [wL_row h2]
      simp only [wI_2]
      rw [wL_row h1]
    · intro k hk
      rw [wL_rd, wL_rd, if_neg (by omega)]
      simp only [wI_2]
      rw [wL_rd, wL_rd]
      by_cases e : k = 60 * t + j
      · rw [if_pos (by first | exact ⟨rfl, e⟩ | exact ⟨trivial, e⟩), if_pos (by first | exact ⟨rfl, e⟩ | exact ⟨trivial, e⟩)]
      · rw [if_neg (by omega), if_neg (by omega), if_neg (by omega)]
        exact h.2.1.2 k hk
  · refine ⟨false, z_wI M 0 11 x, z_st M x, ?_, ?_, r_stv x h⟩
    · simp (decide := true) (disch := omega) only [F_X11_write, F_X11_deny, e1, g1, Option.bind_some, wI_row, wI_slot, wI_same, wI_2, nI_p0, false_or, nle_f, nI_cl, n_lad, n_adl, nI_add, if_true, if_false, ite_true, ite_false]
    · have e4 := e2 (z_wI (z_wI M 0 11 x) 137 1 0) rfl
      simp (decide := true) (disch := omega) only [F_X12_write, e4, g2, z_st, Option.bind_some, wI_row, wI_slot, wI_same, wI_2, nI_p0, false_or, nle_f, nI_cl, n_lad, n_adl, nI_add, if_true, if_false, ite_true, ite_false]
theorem call_read (h : r_Rel M) (a b : Int32) : r_ok (F_X11_read w M a b) (fun M => F_X12_read w M a b) := by
  obtain ⟨x, e1, e2, e3⟩ := why (w := w) h.2.1 a b
  have e4 := e2 (z_wI (z_wI M 0 11 x) 137 1 0) rfl
  rcases e3 with ⟨rfl, t, j, ht, hj, rfl, rfl⟩ | ⟨g1, g2⟩
  · refine ⟨M.2 2 (60 * t + j), z_wI M 0 11 0, z_st M 0, ?_, ?_, r_stv 0 h⟩
    · simp (decide := true) (disch := omega) only [F_X11_read, F_X8_look, e1, k_60, g_nmul, Option.bind_some, wI_row, wI_slot, wI_same, wI_2, nI_p0, false_or, nle_f, nI_cl, n_lad, n_adl, nI_add, if_true, if_false, ite_true, ite_false]
      rw [Nat.mul_comm]
    · rw [h.2.1.2 (60 * t + j) (by omega)]
      simp (decide := true) (disch := omega) only [F_X12_read, e4, z_st, k_60, g_nmul, Option.bind_some, wI_row, wI_slot, wI_same, wI_2, nI_p0, false_or, nle_f, nI_cl, n_lad, n_adl, nI_add, if_true, if_false, ite_true, ite_false]
  · refine ⟨-1, z_wI M 0 11 x, z_st M x, ?_, ?_, r_stv x h⟩
    · simp (decide := true) (disch := omega) only [F_X11_read, F_X11_refuse, e1, g1, Option.bind_some, wI_row, wI_slot, wI_same, wI_2, nI_p0, false_or, nle_f, nI_cl, n_lad, n_adl, nI_add, if_true, if_false, ite_true, ite_false]
      rfl
    · simp (decide := true) (disch := omega) only [F_X12_read, e4, g2, z_st, Option.bind_some, wI_row, wI_slot, wI_same, wI_2, nI_p0, false_or, nle_f, nI_cl, n_lad, n_adl, nI_add, if_true, if_false, ite_true, ite_false]
end
