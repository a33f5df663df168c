/-! ===== pour, copyWorth, feed ===== -/
section
variable {w : Nat}
theorem ml_pourU {t u i j n S D : Nat} (hS : 60 * t + i = S) (hD : 60 * u + j = D) (h1 : S + n ≤ 240) (h2 : D + n ≤ 240) (f : Nat → Int64) (hd : D ≤ S ∨ S + n ≤ D) : ∀ (m k c : Nat) (M : z_Mem), k + m = n → m < c → (∀ x, M.2 140 x = if D ≤ x ∧ x < D + k then f (S + (x - D)) else f x) → ∃ M', L_X12_pour w c M (nI t) (nI i) (nI u) (nI j) (nI n) 0 (nI k) = some (true, M') ∧ M'.1 = M.1 ∧ (∀ a, a ≠ 140 → M'.2 a = M.2 a) ∧ ∀ x, M'.2 140 x = if D ≤ x ∧ x < D + n then f (S + (x - D)) else f x := by
  intro m
  induction m with
  | zero =>
    intro k c M g1 g2 g3
    obtain ⟨c, rfl⟩ : ∃ c', c = c' + 1 := ⟨c - 1, by omega⟩
    obtain rfl : k = n := by omega
    refine ⟨M, ?_, rfl, fun _ _ => rfl, g3⟩
    rw [L_X12_pour, if_pos (nI_le (by omega) (by omega))]
  | succ m ih =>
    intro k c M g1 g2 g3
    obtain ⟨c, rfl⟩ : ∃ c', c = c' + 1 := ⟨c - 1, by omega⟩
    have e0 : M.2 140 (S + k) = f (S + k) := by rw [g3, if_neg (by omega)]
    obtain ⟨M', r1, r2, r3, r4⟩ := ih (k + 1) c (z_wL M 140 (D + k) (f (S + k))) (by omega) (by omega) (fun x => by
      rw [wL_rd, g3]
      by_cases e : x = D + k
      · rw [if_pos ⟨rfl, e⟩, if_pos (by omega), e, show S + (D + k - D) = S + k by omega]
      · rw [if_neg (by omega)]
        by_cases e2 : D ≤ x ∧ x < D + k
        · rw [if_pos e2, if_pos (by omega)]
        · rw [if_neg e2, if_neg (by omega)])
    refine ⟨M', ?_, r2, fun a ha => (r3 a ha).trans (wL_row ha), r4⟩
    rw [L_X12_pour, if_neg (nI_ge (by omega) (by omega)), if_pos rfl]
    simp (maxSteps := 2000000) (decide := true) (disch := omega) only [k_60, g_nmul, hS, hD, nI_11, e0, Option.bind_some, wI_row, wI_slot, wI_same, wI_2, nI_p0, false_or, nle_f, nI_cl, n_lad, n_adl, nI_add, if_true, if_false, ite_true, ite_false, ↓reduceIte]
    exact r1
theorem ml_pourD {t u i j n S D : Nat} (hS : 60 * t + i = S) (hD : 60 * u + j = D) (h1 : S + n ≤ 240) (h2 : D + n ≤ 240) (f : Nat → Int64) (hd : S ≤ D ∨ D + n ≤ S) : ∀ (m k c : Nat) (M : z_Mem), k + m = n → m < c → (∀ x, M.2 140 x = if D + m ≤ x ∧ x < D + n then f (S + (x - D)) else f x) → ∃ M', L_X12_pour w c M (nI t) (nI i) (nI u) (nI j) (nI n) 1 (nI k) = some (true, M') ∧ M'.1 = M.1 ∧ (∀ a, a ≠ 140 → M'.2 a = M.2 a) ∧ ∀ x, M'.2 140 x = if D ≤ x ∧ x < D + n then f (S + (x - D)) else f x := by
  intro m
  induction m with
  | zero =>
    intro k c M g1 g2 g3
    obtain ⟨c, rfl⟩ : ∃ c', c = c' + 1 := ⟨c - 1, by omega⟩
    obtain rfl : k = n := by omega
    refine ⟨M, ?_, rfl, fun _ _ => rfl, g3⟩
    rw [L_X12_pour, if_pos (nI_le (by omega) (by omega))]
  | succ m ih =>
    intro k c M g1 g2 g3
    obtain ⟨c, rfl⟩ : ∃ c', c = c' + 1 := ⟨c - 1, by omega⟩
    have e0 : M.2 140 (S + m) = f (S + m) := by rw [g3, if_neg (by omega)]
    have e1 : nI n - 1 - nI k = nI m := by
      rw [show (1 : Int32) = nI 1 from rfl, pk_sub (by omega), pk_sub (by omega)]
      exact congrArg nI (by omega)
    obtain ⟨M', r1, r2, r3, r4⟩ := ih (k + 1) c (z_wL M 140 (D + m) (f (S + m))) (by omega) (by omega) (fun x => by
      rw [wL_rd, g3]
      by_cases e : x = D + m
      · rw [if_pos ⟨rfl, e⟩, if_pos (by omega), e, show S + (D + m - D) = S + m by omega]
      · rw [if_neg (by omega)]
        by_cases e2 : D + (m + 1) ≤ x ∧ x < D + n
        · rw [if_pos e2, if_pos (by omega)]
        · rw [if_neg e2, if_neg (by omega)])
    refine ⟨M', ?_, r2, fun a ha => (r3 a ha).trans (wL_row ha), r4⟩
    rw [L_X12_pour, if_neg (nI_ge (by omega) (by omega)), if_neg (by decide), e1]
    simp (maxSteps := 2000000) (decide := true) (disch := omega) only [k_60, g_nmul, hS, hD, nI_11, e0, Option.bind_some, wI_row, wI_slot, wI_same, wI_2, nI_p0, false_or, nle_f, nI_cl, n_lad, n_adl, nI_add, if_true, if_false, ite_true, ite_false, ↓reduceIte]
    exact r1
theorem wLs_rd (M : z_Mem) (a : Nat) (f : Nat → Int64) (b : Nat) : (z_wLs M a f).2 b = if b = a then f else M.2 b := rfl
theorem wLs_1 {M : z_Mem} {a : Nat} {f : Nat → Int64} : (z_wLs M a f).1 = M.1 := rfl
theorem sum_l {n : Nat} (hn : n ≤ 60) {b c : Int32} (hb : 0 ≤ b) (hc : 0 ≤ c) : ((nI n).toInt64 < b.toInt64 + c.toInt64) ↔ ¬ (b.toInt + c.toInt ≤ n) := by
  have z : (0 : Int32).toInt = 0 := rfl
  have h0 := Int32.le_iff_toInt_le.mp hc
  have h1 := Int32.le_iff_toInt_le.mp hb
  have h2 := nI_toInt (n := n) (by omega)
  have h3 := Int32.toInt_lt c
  have h4 := Int32.toInt_lt b
  rw [Int64.lt_iff_toInt_lt, l_addI (by rw [Int32.toInt_toInt64, Int32.toInt_toInt64]; omega) (by rw [Int32.toInt_toInt64, Int32.toInt_toInt64]; omega), Int32.toInt_toInt64, Int32.toInt_toInt64, Int32.toInt_toInt64, h2]
  omega
variable {M : z_Mem}
theorem call_pour (hw : 1000 ≤ w) (h : r_Rel M) (a b c d e : Int32) : r_ok (F_X11_pour w M a b c d e) (fun M => F_X12_pour w M a b c d e) := by
  have ref : ∀ v : Int32, F_X11_pour w M a b c d e = some (false, z_wI M 0 11 v) → F_X12_pour w (z_wI M 0 11 v) a b c d e = some (false, z_st M v) → r_ok (F_X11_pour w M a b c d e) (fun M => F_X12_pour w M a b c d e) := fun v e1 e2 => ⟨false, _, _, e1, e2, r_stv v h⟩
  rcases tr_c a with ⟨t, ht, rfl, q1, q2, q3⟩ | q
  · have i1 := tr_t (w := w) ht M
    rcases tr_c c with ⟨u, hu, rfl, p1, p2, p3⟩ | q
    · have i2 := tr_t (w := w) hu M
      obtain ⟨t1, t2, t3⟩ := h.2.1.1 t ht
      obtain ⟨u1, u2, u3⟩ := h.2.1.1 u hu
      rcases t3 with t3 | ⟨n, hn, t3⟩
      · rw [t3] at t1
        exact ref 3 (by simp (maxSteps := 2000000) (decide := true) (disch := omega) only [F_X11_pour, F_X8_isMissing, F_X11_deny, i1, i2, t3, Option.bind_some, wI_row, wI_slot, wI_same, wI_2, nI_p0, false_or, nle_f, nI_cl, n_lad, n_adl, nI_add, if_true, if_false, ite_true, ite_false, ↓reduceIte]) (by simp (maxSteps := 2000000) (decide := true) (disch := omega) only [F_X12_pour, F_X12_no, z_st, wI_wI, q1, q2, p1, p3, ← t1, Option.bind_some, wI_row, wI_slot, wI_same, wI_2, nI_p0, false_or, nle_f, nI_cl, n_lad, n_adl, nI_add, if_true, if_false, ite_true, ite_false, ↓reduceIte])
      · rw [t3] at t1
        have n1 : ¬ nI n = -1 := fun e => by
          have := nI_pos (n := n) (by omega)
          rw [e] at this
          exact this (by decide)
        have n2 : 0 ≤ nI n := nI_pos' (by omega)
        rcases u3 with u3 | ⟨m, hm, u3⟩
        · rw [u3] at u1
          exact ref 3 (by simp (maxSteps := 2000000) (decide := true) (disch := omega) only [F_X11_pour, F_X8_isMissing, F_X11_deny, i1, i2, t3, n1, u3, Bool.false_eq_true, Option.bind_some, wI_row, wI_slot, wI_same, wI_2, nI_p0, false_or, nle_f, nI_cl, n_lad, n_adl, nI_add, if_true, if_false, ite_true, ite_false, ↓reduceIte]) (by simp (maxSteps := 2000000) (decide := true) (disch := omega) only [F_X12_pour, F_X12_no, z_st, wI_wI, q1, q2, p1, p3, ← t1, ← u1, Option.bind_some, wI_row, wI_slot, wI_same, wI_2, nI_p0, false_or, nle_f, nI_cl, n_lad, n_adl, nI_add, if_true, if_false, ite_true, ite_false, ↓reduceIte])
        · rw [u3] at u1
          have m1 : ¬ nI m = -1 := fun e => by
            have := nI_pos (n := m) (by omega)
            rw [e] at this
            exact this (by decide)
          have m2 : 0 ≤ nI m := nI_pos' (by omega)
          by_cases hs : M.1 138 t = M.1 138 u
          · by_cases g1 : 0 ≤ e
            · by_cases g2 : b < 0
              · exact ref 4 (by simp (maxSteps := 2000000) (decide := true) (disch := omega) only [F_X11_pour, F_X8_isMissing, F_X8_has, F_X11_deny, i1, i2, t2, t3, n1, m1, u2, u3, hs, g1, g2, Bool.false_eq_true, Option.bind_some, wI_row, wI_slot, wI_same, wI_2, nI_p0, false_or, nle_f, nI_cl, n_lad, n_adl, nI_add, if_true, if_false, ite_true, ite_false, ↓reduceIte]) (by simp (maxSteps := 2000000) (decide := true) (disch := omega) only [F_X12_pour, F_X12_no, z_st, wI_wI, q1, q2, p1, p3, ← t1, ← u1, m2, hs, g1, g2, Option.bind_some, wI_row, wI_slot, wI_same, wI_2, nI_p0, false_or, nle_f, nI_cl, n_lad, n_adl, nI_add, if_true, if_false, ite_true, ite_false, ↓reduceIte])
              · have k1 := has_i hn g2 g1
                have k2 := sum_l hn (i_nlt.mp g2) g1
                by_cases g3 : d < 0
                · by_cases g4 : nI n - e < b
                  · exact ref 4 (by simp (maxSteps := 2000000) (decide := true) (disch := omega) only [F_X11_pour, F_X8_isMissing, F_X8_has, F_X11_deny, i1, i2, t2, t3, n1, m1, u2, u3, hs, g1, g2, g4, Bool.false_eq_true, Option.bind_some, wI_row, wI_slot, wI_same, wI_2, nI_p0, false_or, nle_f, nI_cl, n_lad, n_adl, nI_add, if_true, if_false, ite_true, ite_false, ↓reduceIte]) (by simp (maxSteps := 2000000) (decide := true) (disch := omega) only [F_X12_pour, F_X12_no, z_st, wI_wI, q1, q2, p1, p3, ← t1, ← u1, m2, hs, g1, g2, g3, Option.bind_some, wI_row, wI_slot, wI_same, wI_2, nI_p0, false_or, nle_f, nI_cl, n_lad, n_adl, nI_add, if_true, if_false, ite_true, ite_false, ↓reduceIte])
                  · exact ref 4 (by simp (maxSteps := 2000000) (decide := true) (disch := omega) only [F_X11_pour, F_X8_isMissing, F_X8_has, F_X11_deny, i1, i2, t2, t3, n1, m1, u2, u3, hs, g1, g2, g3, g4, Bool.false_eq_true, Option.bind_some, wI_row, wI_slot, wI_same, wI_2, nI_p0, false_or, nle_f, nI_cl, n_lad, n_adl, nI_add, if_true, if_false, ite_true, ite_false, ↓reduceIte]) (by simp (maxSteps := 2000000) (decide := true) (disch := omega) only [F_X12_pour, F_X12_no, z_st, wI_wI, q1, q2, p1, p3, ← t1, ← u1, m2, hs, g1, g2, g3, Option.bind_some, wI_row, wI_slot, wI_same, wI_2, nI_p0, false_or, nle_f, nI_cl, n_lad, n_adl, nI_add, if_true, if_false, ite_true, ite_false, ↓reduceIte])
                · have k3 := has_i hm g3 g1
                  have k4 := sum_l hm (i_nlt.mp g3) g1
                  by_cases g4 : nI n - e < b
                  · have g5 := k2.mpr (k1.mp g4)
                    exact ref 4 (by simp (maxSteps := 2000000) (decide := true) (disch := omega) only [F_X11_pour, F_X8_isMissing, F_X8_has, F_X11_deny, i1, i2, t2, t3, n1, m1, u2, u3, hs, g1, g2, g4, Bool.false_eq_true, Option.bind_some, wI_row, wI_slot, wI_same, wI_2, nI_p0, false_or, nle_f, nI_cl, n_lad, n_adl, nI_add, if_true, if_false, ite_true, ite_false, ↓reduceIte]) (by simp (maxSteps := 2000000) (decide := true) (disch := omega) only [F_X12_pour, F_X12_no, z_st, wI_wI, q1, q2, p1, p3, ← t1, ← u1, m2, hs, g1, g2, g3, lg_cmp_gt, g5, Option.bind_some, wI_row, wI_slot, wI_same, wI_2, nI_p0, false_or, nle_f, nI_cl, n_lad, n_adl, nI_add, if_true, if_false, ite_true, ite_false, ↓reduceIte])
                  · have g5 : ¬ (nI n).toInt64 < b.toInt64 + e.toInt64 := fun x => g4 (k1.mpr (k2.mp x))
                    by_cases g6 : nI m - e < d
                    · have g7 : ¬ d.toInt64 + e.toInt64 ≤ (nI m).toInt64 := fun x => by
                        have := k4.mpr (k3.mp g6)
                        rw [Int64.lt_iff_toInt_lt] at this
                        rw [Int64.le_iff_toInt_le] at x
                        omega
                      exact ref 4 (by simp (maxSteps := 2000000) (decide := true) (disch := omega) only [F_X11_pour, F_X8_isMissing, F_X8_has, F_X11_deny, i1, i2, t2, t3, n1, m1, u2, u3, hs, g1, g2, g3, g4, g6, Bool.false_eq_true, Option.bind_some, wI_row, wI_slot, wI_same, wI_2, nI_p0, false_or, nle_f, nI_cl, n_lad, n_adl, nI_add, if_true, if_false, ite_true, ite_false, ↓reduceIte]) (by simp (maxSteps := 2000000) (decide := true) (disch := omega) only [F_X12_pour, F_X12_no, z_st, wI_wI, q1, q2, p1, p3, ← t1, ← u1, m2, hs, g1, g2, g3, lg_cmp_gt, lg_cmp_le, g5, g7, Option.bind_some, wI_row, wI_slot, wI_same, wI_2, nI_p0, false_or, nle_f, nI_cl, n_lad, n_adl, nI_add, if_true, if_false, ite_true, ite_false, ↓reduceIte])
                    · have g7 : d.toInt64 + e.toInt64 ≤ (nI m).toInt64 := by
                        have : ¬ (nI m).toInt64 < d.toInt64 + e.toInt64 := fun x => g6 (k3.mpr (k4.mp x))
                        rw [Int64.lt_iff_toInt_lt] at this
                        rw [Int64.le_iff_toInt_le]
                        omega
                      have v1 : b.toInt + e.toInt ≤ n := by rw [k1] at g4; omega
                      have v2 : d.toInt + e.toInt ≤ m := by rw [k3] at g6; omega
                      obtain ⟨B, hB, rfl⟩ := nI_of g2
                      obtain ⟨D, hD, rfl⟩ := nI_of g3
                      obtain ⟨E, hE, rfl⟩ := nI_of (i_nlt.mpr g1)
                      rw [nI_toInt hB, nI_toInt hE] at v1
                      rw [nI_toInt hD, nI_toInt hE] at v2
                      have A0 : ∀ x, (z_wI (z_wI (z_wI (z_wLs M 2 (va_cpy (M.2 2) (M.2 2) (60 * t + B) (60 * u + D) E)) 0 11 0) 137 1 0) 137 0 0).2 140 x = M.2 140 x := fun x => rfl
                      have key : ∃ N, F_X12_pour w (z_wI (z_wLs M 2 (va_cpy (M.2 2) (M.2 2) (60 * t + B) (60 * u + D) E)) 0 11 0) (nI t) (nI B) (nI u) (nI D) (nI E) = some (true, N) ∧ N.1 = (z_st M 0).1 ∧ (∀ a, a ≠ 2 → a ≠ 140 → N.2 a = M.2 a) ∧ N.2 2 = va_cpy (M.2 2) (M.2 2) (60 * t + B) (60 * u + D) E ∧ (∀ x, N.2 140 x = if 60 * u + D ≤ x ∧ x < 60 * u + D + E then M.2 140 (60 * t + B + (x - (60 * u + D))) else M.2 140 x) := by
                        by_cases hbd : D ≤ B
                        · obtain ⟨N, n3, n4, n5, n6⟩ := ml_pourU (w := w) (t := t) (u := u) (i := B) (j := D) (n := E) rfl rfl (by omega) (by omega) (M.2 140) (by omega) E 0 w (z_wI (z_wI (z_wI (z_wLs M 2 (va_cpy (M.2 2) (M.2 2) (60 * t + B) (60 * u + D) E)) 0 11 0) 137 1 0) 137 0 0) (by omega) (by omega) (fun x => by rw [A0, if_neg (by omega)])
                          have n7 : L_X12_pour w w (z_wI (z_wI (z_wI (z_wLs M 2 (va_cpy (M.2 2) (M.2 2) (60 * t + B) (60 * u + D) E)) 0 11 0) 137 1 0) 137 0 0) (nI t) (nI B) (nI u) (nI D) (nI E) 0 0 = some (true, N) := n3
                          have l1 : nI D ≤ nI B := nI_le hbd hB
                          refine ⟨N, ?_, n4, fun a h1 h2 => ?_, ?_, n6⟩
                          · simp (maxSteps := 2000000) (decide := true) (disch := omega) only [F_X12_pour, wLs_1, q1, q2, p1, p3, ← t1, ← u1, n2, m2, hs, g1, lg_cmp_gt, lg_cmp_le, g5, g7, l1, n7, Option.bind_some, wI_row, wI_slot, wI_same, wI_2, nI_p0, false_or, nle_f, nI_cl, n_lad, n_adl, nI_add, if_true, if_false, ite_true, ite_false, ↓reduceIte]
                          · rw [n5 a h2]
                            simp only [wI_2, wLs_rd]
                            rw [if_neg h1]
                          · rw [n5 2 (by omega)]
                            rfl
                        · obtain ⟨N, n3, n4, n5, n6⟩ := ml_pourD (w := w) (t := t) (u := u) (i := B) (j := D) (n := E) rfl rfl (by omega) (by omega) (M.2 140) (by omega) E 0 w (z_wI (z_wI (z_wI (z_wLs M 2 (va_cpy (M.2 2) (M.2 2) (60 * t + B) (60 * u + D) E)) 0 11 0) 137 1 0) 137 0 0) (by omega) (by omega) (fun x => by rw [A0, if_neg (by omega)])
                          have n7 : L_X12_pour w w (z_wI (z_wI (z_wI (z_wLs M 2 (va_cpy (M.2 2) (M.2 2) (60 * t + B) (60 * u + D) E)) 0 11 0) 137 1 0) 137 0 0) (nI t) (nI B) (nI u) (nI D) (nI E) 1 0 = some (true, N) := n3
                          have l1 : ¬ nI D ≤ nI B := nI_ge (by omega) hD
                          refine ⟨N, ?_, n4, fun a h1 h2 => ?_, ?_, n6⟩
                          · simp (maxSteps := 2000000) (decide := true) (disch := omega) only [F_X12_pour, wLs_1, q1, q2, p1, p3, ← t1, ← u1, n2, m2, hs, g1, lg_cmp_gt, lg_cmp_le, g5, g7, l1, n7, Option.bind_some, wI_row, wI_slot, wI_same, wI_2, nI_p0, false_or, nle_f, nI_cl, n_lad, n_adl, nI_add, if_true, if_false, ite_true, ite_false, ↓reduceIte]
                          · rw [n5 a h2]
                            simp only [wI_2, wLs_rd]
                            rw [if_neg h1]
                          · rw [n5 2 (by omega)]
                            rfl
                      obtain ⟨N, n3, n4, n5, n6, n7⟩ := key
                      refine ⟨true, z_wI (z_wLs M 2 (va_cpy (M.2 2) (M.2 2) (60 * t + B) (60 * u + D) E)) 0 11 0, N, ?_, n3, r_num h 0 n4 n5 fun k hk => ?_⟩
                      · have c1 : ¬ nI t * 60 + nI B < 0 ∧ ¬ nI u * 60 + nI D < 0 ∧ ¬ nI E < 0 ∧ (nI t * 60 + nI B).toNatClampNeg + (nI E).toNatClampNeg ≤ 240 ∧ (nI u * 60 + nI D).toNatClampNeg + (nI E).toNatClampNeg ≤ 240 := by
                          rw [show (60 : Int32) = nI 60 from rfl, g_nmul, g_nmul, nI_add, nI_add, nI_clamp (by omega), nI_clamp (by omega), nI_clamp (by omega)]
                          exact ⟨nI_pos (by omega), nI_pos (by omega), nI_pos (by omega), by omega, by omega⟩
                        have c2 : F_X8_move w M (nI t) (nI B) (nI u) (nI D) (nI E) = some ((), z_wLs M 2 (va_cpy (M.2 2) (M.2 2) (60 * t + B) (60 * u + D) E)) := by
                          unfold F_X8_move
                          rw [if_pos c1, show (60 : Int32) = nI 60 from rfl, g_nmul, g_nmul, nI_add, nI_add, nI_clamp (by omega), nI_clamp (by omega), nI_clamp (by omega), Nat.mul_comm t, Nat.mul_comm u]
                        simp (maxSteps := 2000000) (decide := true) (disch := omega) only [F_X11_pour, F_X8_isMissing, F_X8_has, F_X11_allow, i1, i2, t2, t3, n1, m1, u2, u3, hs, g1, g4, g6, c2, Bool.false_eq_true, Option.bind_some, wI_row, wI_slot, wI_same, wI_2, nI_p0, false_or, nle_f, nI_cl, n_lad, n_adl, nI_add, if_true, if_false, ite_true, ite_false, ↓reduceIte]
                      · rw [n6, n7]
                        unfold va_cpy
                        by_cases x1 : 60 * u + D ≤ k ∧ k < 60 * u + D + E
                        · rw [if_pos x1, if_pos x1]
                          exact h.2.1.2 _ (by omega)
                        · rw [if_neg x1, if_neg x1]
                          exact h.2.1.2 k hk
            · exact ref 6 (by simp (maxSteps := 2000000) (decide := true) (disch := omega) only [F_X11_pour, F_X8_isMissing, F_X11_deny, i1, i2, t2, t3, n1, m1, u2, u3, hs, g1, Bool.false_eq_true, Option.bind_some, wI_row, wI_slot, wI_same, wI_2, nI_p0, false_or, nle_f, nI_cl, n_lad, n_adl, nI_add, if_true, if_false, ite_true, ite_false, ↓reduceIte]) (by simp (maxSteps := 2000000) (decide := true) (disch := omega) only [F_X12_pour, F_X12_no, z_st, wI_wI, q1, q2, p1, p3, ← t1, ← u1, n2, m2, hs, g1, Option.bind_some, wI_row, wI_slot, wI_same, wI_2, nI_p0, false_or, nle_f, nI_cl, n_lad, n_adl, nI_add, if_true, if_false, ite_true, ite_false, ↓reduceIte])
          · exact ref 11 (by simp (maxSteps := 2000000) (decide := true) (disch := omega) only [F_X11_pour, F_X8_isMissing, F_X11_deny, i1, i2, t2, t3, n1, m1, u2, u3, hs, Bool.false_eq_true, Option.bind_some, wI_row, wI_slot, wI_same, wI_2, nI_p0, false_or, nle_f, nI_cl, n_lad, n_adl, nI_add, if_true, if_false, ite_true, ite_false, ↓reduceIte]) (by simp (maxSteps := 2000000) (decide := true) (disch := omega) only [F_X12_pour, F_X12_no, z_st, wI_wI, q1, q2, p1, p3, ← t1, ← u1, n2, m2, hs, Option.bind_some, wI_row, wI_slot, wI_same, wI_2, nI_p0, false_or, nle_f, nI_cl, n_lad, n_adl, nI_add, if_true, if_false, ite_true, ite_false, ↓reduceIte])
    · have i2 := tr_f (w := w) q M
      refine ref 1 (by simp (maxSteps := 2000000) (decide := true) (disch := omega) only [F_X11_pour, F_X11_deny, i1, i2, Bool.false_eq_true, Option.bind_some, wI_row, wI_slot, wI_same, wI_2, nI_p0, false_or, nle_f, nI_cl, n_lad, n_adl, nI_add, if_true, if_false, ite_true, ite_false, ↓reduceIte]) ?_
      rcases q with q | ⟨p1, p2, p3⟩
      · simp (maxSteps := 2000000) (decide := true) (disch := omega) only [F_X12_pour, F_X12_no, z_st, wI_wI, q1, q2, q, Option.bind_some, wI_row, wI_slot, wI_same, wI_2, nI_p0, false_or, nle_f, nI_cl, n_lad, n_adl, nI_add, if_true, if_false, ite_true, ite_false, ↓reduceIte]
      · simp (maxSteps := 2000000) (decide := true) (disch := omega) only [F_X12_pour, F_X12_no, z_st, wI_wI, q1, q2, p1, p2, Option.bind_some, wI_row, wI_slot, wI_same, wI_2, nI_p0, false_or, nle_f, nI_cl, n_lad, n_adl, nI_add, if_true, if_false, ite_true, ite_false, ↓reduceIte]
  · have i1 := tr_f (w := w) q M
    refine ref 1 (by simp (maxSteps := 2000000) (decide := true) (disch := omega) only [F_X11_pour, F_X11_deny, i1, Bool.false_eq_true, Option.bind_some, wI_row, wI_slot, wI_same, wI_2, nI_p0, false_or, nle_f, nI_cl, n_lad, n_adl, nI_add, if_true, if_false, ite_true, ite_false, ↓reduceIte]) ?_
    rcases q with q | ⟨q1, q2, q3⟩
    · simp (maxSteps := 2000000) (decide := true) (disch := omega) only [F_X12_pour, F_X12_no, z_st, wI_wI, q, Option.bind_some, wI_row, wI_slot, wI_same, wI_2, nI_p0, false_or, nle_f, nI_cl, n_lad, n_adl, nI_add, if_true, if_false, ite_true, ite_false, ↓reduceIte]
    · simp (maxSteps := 2000000) (decide := true) (disch := omega) only [F_X12_pour, F_X12_no, z_st, wI_wI, q1, q3, Option.bind_some, wI_row, wI_slot, wI_same, wI_2, nI_p0, false_or, nle_f, nI_cl, n_lad, n_adl, nI_add, if_true, if_false, ite_true, ite_false, ↓reduceIte]
theorem cl_cw {t n : Nat} (ht : t < 4) (hn : n ≤ 8) (s : Int32) (g : Nat → Int32) : ∀ (m i c : Nat) (M : z_Mem), i + m = n → m < c → M.1 9 5 = nI n → M.1 4 t = s → (∀ k, k < n → M.1 13 k = g k) → ∃ M', L_X11_copyWorth w c M (nI t) (nI i) = some (nI n, z_wI M' 0 11 0) ∧ M'.1 = M.1 ∧ ∀ x k, M'.2 x k = if x = 2 ∧ 60 * t + i ≤ k ∧ k < 60 * t + n then z_cut s (g (k - 60 * t)).toInt64 else M.2 x k := by
  intro m
  induction m with
  | zero =>
    intro i c M h1 h2 h3 h4 h5
    obtain ⟨c, rfl⟩ : ∃ c', c = c' + 1 := ⟨c - 1, by omega⟩
    refine ⟨M, ?_, rfl, fun x k => by rw [if_neg (by omega)]⟩
    rw [L_X11_copyWorth, h3, if_pos (nI_le (by omega) (by omega))]
    rfl
  | succ m ih =>
    intro i c M h1 h2 h3 h4 h5
    obtain ⟨c, rfl⟩ : ∃ c', c = c' + 1 := ⟨c - 1, by omega⟩
    obtain ⟨M', r1, r2, r3⟩ := ih (i + 1) c (z_wL M 2 (60 * t + i) (z_cut s (g i).toInt64)) (by omega) (by omega) h3 h4 h5
    refine ⟨M', ?_, r2, fun x k => ?_⟩
    · rw [L_X11_copyWorth, h3, if_neg (nI_ge (by omega) (by omega))]
      simp (maxSteps := 2000000) (decide := true) (disch := omega) only [h5, nI_11, f_put8, h4, Option.bind_some, wI_row, wI_slot, wI_same, wI_2, nI_p0, false_or, nle_f, nI_cl, n_lad, n_adl, nI_add, if_true, if_false, ite_true, ite_false, ↓reduceIte]
      exact r1
    · rw [r3, wL_rd]
      by_cases e1 : x = 2 ∧ 60 * t + (i + 1) ≤ k ∧ k < 60 * t + n
      · rw [if_pos e1, if_pos (by omega)]
      · rw [if_neg e1]
        by_cases e2 : x = 2 ∧ k = 60 * t + i
        · rw [if_pos e2, if_pos (by omega), e2.2, show 60 * t + i - 60 * t = i by omega]
        · rw [if_neg e2, if_neg (by omega)]
theorem f_wr12 {N : z_Mem} {t j n : Nat} (ht : t < 4) (hn : n ≤ 60) (hj : j < n) (h1 : N.1 139 t = nI n) (h2 : N.1 137 1 = 0) (h3 : N.1 137 0 = 0) (v : Int64) : ∃ N', F_X12_write w N (nI t) (nI j) v = some (true, N') ∧ N'.1 = N.1 ∧ N'.2 = (z_wL N 140 (60 * t + j) (z_cut (N.1 138 t) v)).2 := by
  have n2 : 0 ≤ nI n := nI_pos' (by omega)
  have q1 : ¬ nI t < 0 := nI_pos (by omega)
  have q3 : nI t < (4 : Int32) := nI_lt (b := 4) ht (by omega)
  have q4 : nI j < nI n := nI_lt hj (by omega)
  refine ⟨z_wL (z_wI (z_wI N 137 1 0) 137 0 0) 140 (60 * t + j) (z_cut (N.1 138 t) v), ?_, ?_, rfl⟩
  · simp (maxSteps := 2000000) (decide := true) (disch := omega) only [F_X12_write, F_X12_placed, F_X12_trayed, f_cut12, q1, q3, h1, n2, q4, k_60, g_nmul, Option.bind_some, wI_row, wI_slot, wI_same, wI_2, nI_p0, false_or, nle_f, nI_cl, n_lad, n_adl, nI_add, if_true, if_false, ite_true, ite_false, ↓reduceIte]
  · rw [wL_1]
    funext a k
    rw [wI_rd, wI_rd]
    by_cases e1 : a = 137 ∧ k = 0
    · rw [if_pos e1, e1.1, e1.2, h3]
    · rw [if_neg e1]
      by_cases e2 : a = 137 ∧ k = 1
      · rw [if_pos e2, e2.1, e2.2, h2]
      · rw [if_neg e2]
theorem ml_cw {t n l : Nat} (ht : t < 4) (hn : n ≤ 8) (hl : l ≤ 60) (hnl : n ≤ l) (s : Int32) (g : Nat → Int32) : ∀ (m i c : Nat) (M : z_Mem), i + m = n → m < c → M.1 142 0 = nI n → M.1 138 t = s → M.1 139 t = nI l → M.1 137 1 = 0 → M.1 137 0 = 0 → (∀ k, k < n → M.1 142 (44 + k) = g k) → ∃ M', L_X12_copyWorth w c M (nI t) (nI i) = some (nI n, M') ∧ M'.1 = M.1 ∧ ∀ x k, M'.2 x k = if x = 140 ∧ 60 * t + i ≤ k ∧ k < 60 * t + n then z_cut s (g (k - 60 * t)).toInt64 else M.2 x k := by
  intro m
  induction m with
  | zero =>
    intro i c M h1 h2 h3 h4 h5 h6 h7 h8
    obtain ⟨c, rfl⟩ : ∃ c', c = c' + 1 := ⟨c - 1, by omega⟩
    refine ⟨M, ?_, rfl, fun x k => by rw [if_neg (by omega)]⟩
    rw [L_X12_copyWorth, h3, if_pos (nI_le (by omega) (by omega))]
  | succ m ih =>
    intro i c M h1 h2 h3 h4 h5 h6 h7 h8
    obtain ⟨c, rfl⟩ : ∃ c', c = c' + 1 := ⟨c - 1, by omega⟩
    obtain ⟨N, n1, n2, n3⟩ := f_wr12 (w := w) (N := M) (t := t) (j := i) ht hl (by omega) h5 h6 h7 (g i).toInt64
    rw [h4] at n3
    obtain ⟨M', r1, r2, r3⟩ := ih (i + 1) c N (by omega) (by omega) (by rw [n2]; exact h3) (by rw [n2]; exact h4) (by rw [n2]; exact h5) (by rw [n2]; exact h6) (by rw [n2]; exact h7) (by rw [n2]; exact h8)
    refine ⟨M', ?_, r2.trans n2, fun x k => ?_⟩
    · rw [L_X12_copyWorth, h3, if_neg (nI_ge (by omega) (by omega))]
      simp (maxSteps := 2000000) (decide := true) (disch := omega) only [h8, k_44, nI_11, n1, Option.bind_some, wI_row, wI_slot, wI_same, wI_2, nI_p0, false_or, nle_f, nI_cl, n_lad, n_adl, nI_add, if_true, if_false, ite_true, ite_false, ↓reduceIte]
      exact r1
    · rw [r3, n3, wL_rd]
      by_cases e1 : x = 140 ∧ 60 * t + (i + 1) ≤ k ∧ k < 60 * t + n
      · rw [if_pos e1, if_pos (by omega)]
      · rw [if_neg e1]
        by_cases e2 : x = 140 ∧ k = 60 * t + i
        · rw [if_pos e2, if_pos (by omega), e2.2, show 60 * t + i - 60 * t = i by omega]
        · rw [if_neg e2, if_neg (by omega)]
theorem call_copyWorth (hw : 1000 ≤ w) (h : r_Rel M) (a : Int32) : r_ok (F_X11_copyWorth w M a) (fun M => F_X12_copyWorth w M a) := by
  have ref : ∀ v : Int32, F_X11_copyWorth w M a = some (-1, z_wI M 0 11 v) → F_X12_copyWorth w (z_wI M 0 11 v) a = some (-1, z_st M v) → r_ok (F_X11_copyWorth w M a) (fun M => F_X12_copyWorth w M a) := fun v e1 e2 => ⟨-1, _, _, e1, e2, r_stv v h⟩
  obtain ⟨P, hc, hb, hv⟩ := h.2.2.2.2.2.2.1
  have h8 : P.2.1.1 ≤ 8 := hv.2.1.1
  have c0 : M.1 9 5 = nI P.2.1.1 := hc.2.1.1
  have b0 : M.1 142 0 = nI P.2.1.1 := hb.2.1.1
  rcases tr_c a with ⟨t, ht, rfl, q1, q2, q3⟩ | q
  · have i1 := tr_t (w := w) ht M
    have m1 := fun N => in_t (w := w) (M := N) (a := nI t) (B := 0) (C := 3) 0 3 rfl rfl ⟨nI_pos' (by omega), nI_le (b := 3) (by omega) (by omega)⟩
    obtain ⟨t1, t2, t3⟩ := h.2.1.1 t ht
    rcases t3 with t3 | ⟨n, hn, t3⟩
    · rw [t3] at t1
      exact ref 3 (by simp (maxSteps := 2000000) (decide := true) (disch := omega) only [F_X11_copyWorth, F_X8_isMissing, F_X11_refuse, i1, t3, Option.bind_some, wI_row, wI_slot, wI_same, wI_2, nI_p0, false_or, nle_f, nI_cl, n_lad, n_adl, nI_add, if_true, if_false, ite_true, ite_false, ↓reduceIte]) (by simp (maxSteps := 2000000) (decide := true) (disch := omega) only [F_X12_copyWorth, F_X12_isTray, F_X12_refuse, z_st, wI_wI, m1, ← t1, Option.bind_some, wI_row, wI_slot, wI_same, wI_2, nI_p0, false_or, nle_f, nI_cl, n_lad, n_adl, nI_add, if_true, if_false, ite_true, ite_false, ↓reduceIte])
    · rw [t3] at t1
      have n1 : ¬ nI n = -1 := fun e => by
        have := nI_pos (n := n) (by omega)
        rw [e] at this
        exact this (by decide)
      have n2 : 0 ≤ nI n := nI_pos' (by omega)
      have n3 := has_i hn (b := 0) (c := nI P.2.1.1) (by decide) (nI_pos' (by omega))
      rw [nI_toInt (by omega), show (0 : Int32).toInt = 0 from rfl] at n3
      by_cases g : P.2.1.1 ≤ n
      · have g1 : ¬ nI n - nI P.2.1.1 < 0 := fun x => by have := n3.mp x; omega
        have g2 : nI P.2.1.1 ≤ nI n := nI_le g (by omega)
        obtain ⟨A, a1, a2, a3⟩ := cl_cw (w := w) ht h8 (M.1 4 t) (fun k => P.2.1.2 3 k) P.2.1.1 0 w M (by omega) (by omega) c0 rfl (fun k hk => (hc.2.1.2 k hk).2.2.2.1)
        have a4 : L_X11_copyWorth w w M (nI t) 0 = _ := a1
        have hA : (z_wI (z_wI (z_wI A 0 11 0) 137 1 0) 137 0 0).1 142 = M.1 142 := by simp (maxSteps := 2000000) (decide := true) (disch := omega) only [a2, Option.bind_some, wI_row, wI_slot, wI_same, wI_2, nI_p0, false_or, nle_f, nI_cl, n_lad, n_adl, nI_add, if_true, if_false, ite_true, ite_false, ↓reduceIte]
        have hA9 : (z_wI (z_wI (z_wI A 0 11 0) 137 1 0) 137 0 0).1 139 = M.1 139 := by simp (maxSteps := 2000000) (decide := true) (disch := omega) only [a2, Option.bind_some, wI_row, wI_slot, wI_same, wI_2, nI_p0, false_or, nle_f, nI_cl, n_lad, n_adl, nI_add, if_true, if_false, ite_true, ite_false, ↓reduceIte]
        have hA8 : (z_wI (z_wI (z_wI A 0 11 0) 137 1 0) 137 0 0).1 138 = M.1 138 := by simp (maxSteps := 2000000) (decide := true) (disch := omega) only [a2, Option.bind_some, wI_row, wI_slot, wI_same, wI_2, nI_p0, false_or, nle_f, nI_cl, n_lad, n_adl, nI_add, if_true, if_false, ite_true, ite_false, ↓reduceIte]
        obtain ⟨B, b1, b2, b3⟩ := ml_cw (w := w) ht h8 hn g (M.1 4 t) (fun k => P.2.1.2 3 k) P.2.1.1 0 w (z_wI (z_wI (z_wI A 0 11 0) 137 1 0) 137 0 0) (by omega) (by omega) (by rw [hA]; exact b0) (by rw [hA8]; exact t2.symm) (by rw [hA9]; exact t1.symm) (by simp (maxSteps := 2000000) (decide := true) (disch := omega) only [Option.bind_some, wI_row, wI_slot, wI_same, wI_2, nI_p0, false_or, nle_f, nI_cl, n_lad, n_adl, nI_add, if_true, if_false, ite_true, ite_false, ↓reduceIte]) (by simp (maxSteps := 2000000) (decide := true) (disch := omega) only [Option.bind_some, wI_row, wI_slot, wI_same, wI_2, nI_p0, false_or, nle_f, nI_cl, n_lad, n_adl, nI_add, if_true, if_false, ite_true, ite_false, ↓reduceIte]) (fun k hk => by rw [hA]; exact (hb.2.1.2 k hk).2.2.2.1)
        have b4 : L_X12_copyWorth w w (z_wI (z_wI (z_wI A 0 11 0) 137 1 0) 137 0 0) (nI t) 0 = _ := b1
        refine ⟨nI P.2.1.1, z_wI A 0 11 0, B, ?_, ?_, r_num h 0 ?_ ?_ ?_⟩
        · simp (maxSteps := 2000000) (decide := true) (disch := omega) only [F_X11_copyWorth, F_X8_isMissing, F_X8_has, i1, t3, n1, c0, g1, a4, Bool.false_eq_true, Option.bind_some, wI_row, wI_slot, wI_same, wI_2, nI_p0, false_or, nle_f, nI_cl, n_lad, n_adl, nI_add, if_true, if_false, ite_true, ite_false, ↓reduceIte]
        · show F_X12_copyWorth w _ (nI t) = _
          unfold F_X12_copyWorth F_X12_isTray
          rw [m1]
          simp only [Option.bind_some, if_true, hA, hA9, b0]
          simp (maxSteps := 2000000) (decide := true) (disch := omega) only [q1, ← t1, n2, g2, b4, Option.bind_some, wI_row, wI_slot, wI_same, wI_2, nI_p0, false_or, nle_f, nI_cl, n_lad, n_adl, nI_add, if_true, if_false, ite_true, ite_false, ↓reduceIte]
        · rw [b2]
          unfold z_st
          funext x k
          rw [wI_rd, wI_rd, wI_rd, wI_rd, wI_rd, wI_rd, a2]
        · intro x h1 h2
          funext k
          rw [b3, if_neg (by omega)]
          simp only [wI_2]
          rw [a3, if_neg (by omega)]
        · intro k hk
          rw [b3 2 k, if_neg (by omega), b3 140 k]
          simp only [wI_2]
          rw [a3 2 k, a3 140 k]
          by_cases e : 60 * t + 0 ≤ k ∧ k < 60 * t + P.2.1.1
          · rw [if_pos (by first | exact ⟨rfl, e⟩ | exact ⟨trivial, e⟩), if_pos (by first | exact ⟨rfl, e⟩ | exact ⟨trivial, e⟩)]
          · rw [if_neg (by omega), if_neg (by omega), if_neg (by omega)]
            exact h.2.1.2 k hk
      · have g1 : nI n - nI P.2.1.1 < 0 := n3.mpr (by omega)
        have g2 : ¬ nI P.2.1.1 ≤ nI n := nI_ge (by omega) (by omega)
        exact ref 4 (by simp (maxSteps := 2000000) (decide := true) (disch := omega) only [F_X11_copyWorth, F_X8_isMissing, F_X8_has, F_X11_refuse, i1, t3, n1, c0, g1, Bool.false_eq_true, Option.bind_some, wI_row, wI_slot, wI_same, wI_2, nI_p0, false_or, nle_f, nI_cl, n_lad, n_adl, nI_add, if_true, if_false, ite_true, ite_false, ↓reduceIte]) (by simp (maxSteps := 2000000) (decide := true) (disch := omega) only [F_X12_copyWorth, F_X12_isTray, F_X12_refuse, z_st, wI_wI, m1, ← t1, b0, n2, g2, Option.bind_some, wI_row, wI_slot, wI_same, wI_2, nI_p0, false_or, nle_f, nI_cl, n_lad, n_adl, nI_add, if_true, if_false, ite_true, ite_false, ↓reduceIte])
  · have i1 := tr_f (w := w) q M
    have hq : ¬ ((0 : Int32) ≤ a ∧ a ≤ 3) := fun x => by
      rcases q with q | ⟨q1, q2, q3⟩
      · exact i_nlt.mpr x.1 q
      · have y := Int32.le_iff_toInt_le.mp x.2
        have z := Int32.le_iff_toInt_le.mp q3
        have e3 : (3 : Int32).toInt = 3 := rfl
        have e4 : (4 : Int32).toInt = 4 := rfl
        omega
    have m1 := fun N => in_f (w := w) (M := N) (a := a) (B := 0) (C := 3) 0 3 rfl rfl hq
    exact ref 1 (by simp (maxSteps := 2000000) (decide := true) (disch := omega) only [F_X11_copyWorth, F_X11_refuse, i1, Bool.false_eq_true, Option.bind_some, wI_row, wI_slot, wI_same, wI_2, nI_p0, false_or, nle_f, nI_cl, n_lad, n_adl, nI_add, if_true, if_false, ite_true, ite_false, ↓reduceIte]) (by simp (maxSteps := 2000000) (decide := true) (disch := omega) only [F_X12_copyWorth, F_X12_isTray, F_X12_refuse, z_st, wI_wI, m1, Bool.false_eq_true, Option.bind_some, wI_row, wI_slot, wI_same, wI_2, nI_p0, false_or, nle_f, nI_cl, n_lad, n_adl, nI_add, if_true, if_false, ite_true, ite_false, ↓reduceIte])
/-! the tape -/
def z_by (a : Int32) (s : Int32) : Int32 := vp_nar .byte ((a >>> (s &&& 31)).toInt8.toInt32)
def c_put (M : z_Mem) (f : Nat) (a : Int32) : z_Mem := z_wI (z_wI (z_wI (z_wI (z_wI (z_wI (z_wI (z_wI M 6 f (z_by a 24)) 5 1 (nI (f + 1))) 6 (f + 1) (z_by a 16)) 5 1 (nI (f + 2))) 6 (f + 2) (z_by a 8)) 5 1 (nI (f + 3))) 6 (f + 3) (z_by a 0)) 5 1 (nI (f + 4))
def m_lay (M : z_Mem) (f : Nat) (a : Int32) : z_Mem := z_wI (z_wI (z_wI (z_wI (z_wI (z_wI (z_wI (z_wI M 141 f (z_by a 24)) 137 8 (nI (f + 1))) 141 (f + 1) (z_by a 16)) 137 8 (nI (f + 2))) 141 (f + 2) (z_by a 8)) 137 8 (nI (f + 3))) 141 (f + 3) (z_by a 0)) 137 8 (nI (f + 4))
theorem l900 {f : Nat} (h : f < 900) : ¬ (900 : Int32) ≤ nI f := nI_ge (b := 900) h (by omega)
theorem f_put7 (hw : 1000 ≤ w) {N : z_Mem} {f : Nat} (hf : f + 4 ≤ 900) (h : N.1 5 1 = nI f) (a : Int32) : F_X7_put w N a = some ((), c_put N f a) := by
  have key : ∀ c, L_X7_put w (c + 5) N a 24 = some ((), c_put N f a) := by
    intro c
    have e1 : (24 : Int32) + (-8) = 16 := by decide
    have e2 : (16 : Int32) + (-8) = 8 := by decide
    have e3 : (8 : Int32) + (-8) = 0 := by decide
    have e4 : (0 : Int32) + (-8) = -8 := by decide
    unfold c_put z_by
    rw [L_X7_put, if_neg (by decide), h, if_neg (l900 (by omega)), if_neg (nI_in (by omega) (by omega)), nI_clamp (by omega), nI_11, e1,
      L_X7_put, if_neg (by decide), wI_same, if_neg (l900 (by omega)), if_neg (nI_in (by omega) (by omega)), nI_clamp (by omega), nI_11, e2,
      L_X7_put, if_neg (by decide), wI_same, if_neg (l900 (by omega)), if_neg (nI_in (by omega) (by omega)), nI_clamp (by omega), nI_11, e3,
      L_X7_put, if_neg (by decide), wI_same, if_neg (l900 (by omega)), if_neg (nI_in (by omega) (by omega)), nI_clamp (by omega), nI_11, e4,
      L_X7_put, if_pos (by decide)]
  obtain ⟨c, hc⟩ : ∃ c, w = c + 5 := ⟨w - 5, by omega⟩
  have := key c
  unfold F_X7_put
  rw [← hc] at this
  exact this
theorem f_lay12 (hw : 1000 ≤ w) {N : z_Mem} {f : Nat} (hf : f + 4 ≤ 900) (h : N.1 137 8 = nI f) (a : Int32) : F_X12_lay w N a = some ((), m_lay N f a) := by
  have key : ∀ c, L_X12_lay w (c + 5) N a 3 = some ((), m_lay N f a) := by
    intro c
    have e1 : (3 : Int32) + (-1) = 2 := by decide
    have e2 : (2 : Int32) + (-1) = 1 := by decide
    have e3 : (1 : Int32) + (-1) = 0 := by decide
    have e4 : (0 : Int32) + (-1) = -1 := by decide
    have u1 : (8 : Int32) * 3 = 24 := by decide
    have u2 : (8 : Int32) * 2 = 16 := by decide
    have u3 : (8 : Int32) * 1 = 8 := by decide
    have u4 : (8 : Int32) * 0 = 0 := by decide
    unfold m_lay z_by
    rw [L_X12_lay, if_neg (by decide), h, if_neg (nI_in (by omega) (by omega)), nI_clamp (by omega), nI_11, e1, u1,
      L_X12_lay, if_neg (by decide), wI_same, if_neg (nI_in (by omega) (by omega)), nI_clamp (by omega), nI_11, e2, u2,
      L_X12_lay, if_neg (by decide), wI_same, if_neg (nI_in (by omega) (by omega)), nI_clamp (by omega), nI_11, e3, u3,
      L_X12_lay, if_neg (by decide), wI_same, if_neg (nI_in (by omega) (by omega)), nI_clamp (by omega), nI_11, e4, u4,
      L_X12_lay, if_pos (by decide)]
  obtain ⟨c, hc⟩ : ∃ c, w = c + 5 := ⟨w - 5, by omega⟩
  have := key c
  unfold F_X12_lay
  rw [← hc] at this
  exact this
/-- two tapes alike, so many bytes on each -/
def t_al (A B : z_Mem) (f : Nat) : Prop := A.1 5 1 = nI f ∧ B.1 137 8 = nI f ∧ ∀ k, k < 900 → A.1 6 k = B.1 141 k ∧ (A.1 6 k).toInt8.toInt32 = A.1 6 k
theorem by_ok (a s : Int32) : (z_by a s).toInt8.toInt32 = z_by a s := by
  have e : z_by a s = ((a >>> (s &&& 31)).toInt8.toInt32).toInt8.toInt32 := rfl
  rw [e]
  simp
theorem t_step {A B : z_Mem} {f : Nat} (h : t_al A B f) (a : Int32) : t_al (c_put A f a) (m_lay B f a) (f + 4) := by
  refine ⟨by unfold c_put; exact wI_same, by unfold m_lay; exact wI_same, fun k hk => ?_⟩
  obtain ⟨_, _, h3⟩ := h
  unfold c_put m_lay
  by_cases e3 : k = f + 3
  · subst e3
    simp (maxSteps := 2000000) (decide := true) (disch := omega) only [Option.bind_some, wI_row, wI_slot, wI_same, wI_2, nI_p0, false_or, nle_f, nI_cl, n_lad, n_adl, nI_add, if_true, if_false, ite_true, ite_false, ↓reduceIte]
    exact ⟨trivial, by_ok _ _⟩
  · by_cases e2 : k = f + 2
    · subst e2
      simp (maxSteps := 2000000) (decide := true) (disch := omega) only [Option.bind_some, wI_row, wI_slot, wI_same, wI_2, nI_p0, false_or, nle_f, nI_cl, n_lad, n_adl, nI_add, if_true, if_false, ite_true, ite_false, ↓reduceIte]
      exact ⟨trivial, by_ok _ _⟩
    · by_cases e1 : k = f + 1
      · subst e1
        simp (maxSteps := 2000000) (decide := true) (disch := omega) only [Option.bind_some, wI_row, wI_slot, wI_same, wI_2, nI_p0, false_or, nle_f, nI_cl, n_lad, n_adl, nI_add, if_true, if_false, ite_true, ite_false, ↓reduceIte]
        exact ⟨trivial, by_ok _ _⟩
      · by_cases e0 : k = f
        · subst e0
          simp (maxSteps := 2000000) (decide := true) (disch := omega) only [Option.bind_some, wI_row, wI_slot, wI_same, wI_2, nI_p0, false_or, nle_f, nI_cl, n_lad, n_adl, nI_add, if_true, if_false, ite_true, ite_false, ↓reduceIte]
          exact ⟨trivial, by_ok _ _⟩
        · simp (maxSteps := 2000000) (decide := true) (disch := omega) only [Option.bind_some, wI_row, wI_slot, wI_same, wI_2, nI_p0, false_or, nle_f, nI_cl, n_lad, n_adl, nI_add, if_true, if_false, ite_true, ite_false, ↓reduceIte]
          exact h3 k hk
theorem put_k {N : z_Mem} {f : Nat} {a : Int32} : (∀ x, x ≠ 5 → x ≠ 6 → (c_put N f a).1 x = N.1 x) ∧ (c_put N f a).2 = N.2 := by
  refine ⟨fun x h1 h2 => ?_, rfl⟩
  unfold c_put
  simp (maxSteps := 2000000) (decide := true) (disch := omega) only [Option.bind_some, wI_row, wI_slot, wI_same, wI_2, nI_p0, false_or, nle_f, nI_cl, n_lad, n_adl, nI_add, if_true, if_false, ite_true, ite_false, ↓reduceIte]
theorem lay_k {N : z_Mem} {f : Nat} {a : Int32} : (∀ x, x ≠ 137 → x ≠ 141 → (m_lay N f a).1 x = N.1 x) ∧ (∀ k, k ≠ 8 → (m_lay N f a).1 137 k = N.1 137 k) ∧ (m_lay N f a).2 = N.2 := by
  refine ⟨fun x h1 h2 => ?_, fun k hk => ?_, rfl⟩
  · unfold m_lay
    simp (maxSteps := 2000000) (decide := true) (disch := omega) only [Option.bind_some, wI_row, wI_slot, wI_same, wI_2, nI_p0, false_or, nle_f, nI_cl, n_lad, n_adl, nI_add, if_true, if_false, ite_true, ite_false, ↓reduceIte]
  · unfold m_lay
    simp (maxSteps := 2000000) (decide := true) (disch := omega) only [Option.bind_some, wI_row, wI_slot, wI_same, wI_2, nI_p0, false_or, nle_f, nI_cl, n_lad, n_adl, nI_add, if_true, if_false, ite_true, ite_false, ↓reduceIte]
/-- a relation but for the tape, behind reads or feeds -/
theorem r_ta {M M' : z_Mem} (h : r_Rel M) (hs : M'.1 0 11 = M'.1 137 0) (k0 : ∀ k, k ≠ 11 → M'.1 0 k = M.1 0 k) (k1 : ∀ k, k ≠ 0 → k ≠ 1 → k ≠ 8 → M'.1 137 k = M.1 137 k) (ka : ∀ a, a ≠ 0 → a ≠ 137 → a ≠ 5 → a ≠ 6 → a ≠ 141 → M'.1 a = M.1 a) (kl : M'.2 = M.2) (ht : r_Ta M') : r_Rel M' := by
  obtain ⟨h1, h2, h3, h4, h5, h6, h7, h8⟩ := h
  refine ⟨hs, ?_, ?_, ht, ?_, ?_, ?_, ?_⟩
  · unfold r_Tr at h2 ⊢
    rw [ka 3 (by omega) (by omega) (by omega) (by omega) (by omega), ka 4 (by omega) (by omega) (by omega) (by omega) (by omega), ka 138 (by omega) (by omega) (by omega) (by omega) (by omega), ka 139 (by omega) (by omega) (by omega) (by omega) (by omega), kl]
    exact h2
  · unfold r_Fr at h3 ⊢
    rw [kl]
    exact h3
  · unfold r_Fa at h5 ⊢
    rw [k0 14 (by omega), k0 15 (by omega), k0 16 (by omega), k1 10 (by omega) (by omega) (by omega), k1 11 (by omega) (by omega) (by omega)]
    exact h5
  · unfold r_Li at h6 ⊢
    rw [ka 64 (by omega) (by omega) (by omega) (by omega) (by omega), ka 147 (by omega) (by omega) (by omega) (by omega) (by omega), k1 30 (by omega) (by omega) (by omega)]
    exact h6
  · obtain ⟨P, a, b, c⟩ := h7
    refine ⟨P, CP_of a (fun x h1 h2 => ka x (by omega) (by omega) (by omega) (by omega) (by omega)), ?_, c⟩
    rw [ka 142 (by omega) (by omega) (by omega) (by omega) (by omega)]
    exact b
  · obtain ⟨n, hn, a, b, c⟩ := h8
    refine ⟨n, hn, by rw [k0 10 (by omega)]; exact a, by rw [k1 23 (by omega) (by omega) (by omega)]; exact b, fun i hi => ?_⟩
    obtain ⟨P, c1, c2, c3⟩ := c i hi
    refine ⟨P, CP_of c1 (fun x h1 h2 => ka x (by omega) (by omega) (by omega) (by omega) (by omega)), ?_, c3⟩
    rw [ka 142 (by omega) (by omega) (by omega) (by omega) (by omega)]
    exact c2
theorem call_feed (hw : 1000 ≤ w) (h : r_Rel M) (a b c d e : Int32) : r_ok (F_X11_feed w M a b c d e) (fun M => F_X12_feed w M a b c d e) := by
  obtain ⟨f, hf, f1, f2, f3⟩ := h.2.2.2.1
  by_cases g : f + 20 ≤ 900
  · have g1 : ¬ (900 : Int32) < nI f + 20 := by
      rw [show (20 : Int32) = nI 20 from rfl, nI_add]
      exact i_nlt.mpr (nI_le (b := 900) g (by omega))
    have g2 : nI f + 20 ≤ (900 : Int32) := by
      rw [show (20 : Int32) = nI 20 from rfl, nI_add]
      exact nI_le (b := 900) g (by omega)
    have t0 : t_al M M f := ⟨f1, f2, f3⟩
    have t1 := t_step t0 a
    have t2 := t_step t1 b
    have t3 := t_step t2 c
    have t4 := t_step t3 d
    have t5 := t_step t4 e
    let A := c_put (c_put (c_put (c_put (c_put M f a) (f + 4) b) (f + 4 + 4) c) (f + 4 + 4 + 4) d) (f + 4 + 4 + 4 + 4) e
    let B (N : z_Mem) := m_lay (m_lay (m_lay (m_lay (m_lay N f a) (f + 4) b) (f + 4 + 4) c) (f + 4 + 4 + 4) d) (f + 4 + 4 + 4 + 4) e
    have kA : (∀ x, x ≠ 5 → x ≠ 6 → A.1 x = M.1 x) ∧ A.2 = M.2 := ⟨fun x h1 h2 => by
      show (c_put _ _ _).1 x = _
      rw [put_k.1 x h1 h2, put_k.1 x h1 h2, put_k.1 x h1 h2, put_k.1 x h1 h2, put_k.1 x h1 h2], rfl⟩
    have kB : ∀ N, (∀ x, x ≠ 137 → x ≠ 141 → (B N).1 x = N.1 x) ∧ (∀ k, k ≠ 8 → (B N).1 137 k = N.1 137 k) ∧ (B N).2 = N.2 := fun N => ⟨fun x h1 h2 => by
      show (m_lay _ _ _).1 x = _
      rw [lay_k.1 x h1 h2, lay_k.1 x h1 h2, lay_k.1 x h1 h2, lay_k.1 x h1 h2, lay_k.1 x h1 h2], fun k hk => by
      show (m_lay _ _ _).1 137 k = _
      rw [lay_k.2.1 k hk, lay_k.2.1 k hk, lay_k.2.1 k hk, lay_k.2.1 k hk, lay_k.2.1 k hk], rfl⟩
    have bt0 : t_al M (z_wI A 137 1 0) f := by
      refine ⟨f1, ?_, fun k hk => ?_⟩
      · rw [wI_slot (by omega), kA.1 137 (by omega) (by omega)]; exact f2
      · rw [wI_row (by omega), kA.1 141 (by omega) (by omega)]; exact f3 k hk
    have bt5 := t_step (t_step (t_step (t_step (t_step bt0 a) b) c) d) e
    refine ⟨nI (f + 4 + 4 + 4 + 4 + 4), A, B (z_wI A 137 1 0), ?_, ?_, r_ta h ?_ ?_ ?_ ?_ ?_ ⟨f + 4 + 4 + 4 + 4 + 4, by omega, ?_, bt5.2.1, fun k hk => ?_⟩⟩
    · unfold F_X11_feed F_X7_hasRoom
      rw [f1, if_neg g1]
      simp only [Option.bind_some, if_true]
      rw [f_put7 hw (by omega) f1]
      simp only [Option.bind_some]
      rw [f_put7 hw (by omega) t1.1]
      simp only [Option.bind_some]
      rw [f_put7 hw (by omega) t2.1]
      simp only [Option.bind_some]
      rw [f_put7 hw (by omega) t3.1]
      simp only [Option.bind_some]
      rw [f_put7 hw (by omega) t4.1]
      simp only [Option.bind_some]
      rw [t5.1]
    · show F_X12_feed w A a b c d e = _
      unfold F_X12_feed
      have b1 := t_step bt0 a
      have b2 := t_step b1 b
      have b3 := t_step b2 c
      have b4 := t_step b3 d
      rw [kA.1 137 (by omega) (by omega), f2, if_pos g2, f_lay12 hw (by omega) bt0.2.1]
      simp only [Option.bind_some]
      rw [f_lay12 hw (by omega) b1.2.1]
      simp only [Option.bind_some]
      rw [f_lay12 hw (by omega) b2.2.1]
      simp only [Option.bind_some]
      rw [f_lay12 hw (by omega) b3.2.1]
      simp only [Option.bind_some]
      rw [f_lay12 hw (by omega) b4.2.1]
      simp only [Option.bind_some]
      rw [bt5.2.1]
    · rw [(kB _).1 0 (by omega) (by omega), (kB _).2.1 0 (by omega), wI_row (by omega), wI_slot (by omega), kA.1 0 (by omega) (by omega), kA.1 137 (by omega) (by omega)]
      exact h.1
    · intro k _
      rw [(kB _).1 0 (by omega) (by omega), wI_row (by omega), kA.1 0 (by omega) (by omega)]
    · intro k h1 h2 h3
      rw [(kB _).2.1 k h3, wI_slot (by omega), kA.1 137 (by omega) (by omega)]
    · intro x h1 h2 h3 h4 h5
      rw [(kB _).1 x h2 h5, wI_row h2, kA.1 x h3 h4]
    · rw [(kB _).2.2]
      exact kA.2
    · rw [(kB _).1 5 (by omega) (by omega), wI_row (by omega)]
      exact bt5.1
    · rw [(kB _).1 6 (by omega) (by omega), wI_row (by omega)]
      exact bt5.2.2 k hk
  · have g1 : (900 : Int32) < nI f + 20 := by
      rw [show (20 : Int32) = nI 20 from rfl, nI_add]
      exact nI_lt (a := 900) (by omega) (by omega)
    have g2 : ¬ nI f + 20 ≤ (900 : Int32) := by
      rw [show (20 : Int32) = nI 20 from rfl, nI_add]
      exact nI_ge (a := 900) (by omega) (by omega)
    refine ⟨-1, M, z_wI M 137 1 0, ?_, ?_, r_th h⟩
    · simp (maxSteps := 2000000) (decide := true) (disch := omega) only [F_X11_feed, F_X7_hasRoom, f1, g1, Bool.false_eq_true, Option.bind_some, wI_row, wI_slot, wI_same, wI_2, nI_p0, false_or, nle_f, nI_cl, n_lad, n_adl, nI_add, if_true, if_false, ite_true, ite_false, ↓reduceIte]
    · simp (maxSteps := 2000000) (decide := true) (disch := omega) only [F_X12_feed, f2, g2, Option.bind_some, wI_row, wI_slot, wI_same, wI_2, nI_p0, false_or, nle_f, nI_cl, n_lad, n_adl, nI_add, if_true, if_false, ite_true, ite_false, ↓reduceIte]
end
