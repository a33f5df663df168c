/-! ===== claim, rule, lived, bears ===== -/
def v5 (a b c d e : Int32) : Nat → Int32 := fun k => if k = 0 then a else if k = 1 then b else if k = 2 then c else if k = 3 then d else e
def rA (r : t_R) (v : Nat → Int32) : t_R := (r.1 + 1, fun k i => if i = r.1 then v k else r.2 k i)
section
variable {w : Nat}
theorem f_addR {M : z_Mem} {p : Nat} {r : t_R} (h : R_c M p r) (hl : r.1 < 8) (a b c d e : Int32) : ∃ M', F_X6_add w M p a b c d e = some (true, M') ∧ R_c M' p (rA r (v5 a b c d e)) ∧ Kr (p + 2) (p + 8) M M' := by
  obtain ⟨hc, ha⟩ := h
  refine ⟨z_wI (z_wI (z_wI (z_wI (z_wI (z_wI M (p + 3) r.1 a) (p + 4) r.1 b) (p + 5) r.1 c) (p + 6) r.1 d) (p + 7) r.1 e) (p + 2) 5 (nI (r.1 + 1)), ?_, ⟨?_, ?_⟩, ?_, rfl⟩
  · unfold F_X6_add
    rw [hc, if_pos (show nI r.1 < (8 : Int32) from nI_lt (b := 8) hl (by omega))]
    simp (maxSteps := 2000000) (decide := true) (disch := omega) only [nI_11, bindS, wI_row, wI_slot, wI_same, wI_2, nI_p0, false_or, nle_f, nI_cl, n_lad, n_adl, nI_add, if_true, if_false, ite_true, ite_false, ↓reduceIte]
  · exact wI_same
  · intro i hi
    have hi2 : i < r.1 + 1 := hi
    by_cases g : i = r.1
    · subst g
      simp (maxSteps := 2000000) (decide := true) (disch := omega) only [rA, v5, bindS, wI_row, wI_slot, wI_same, wI_2, nI_p0, false_or, nle_f, nI_cl, n_lad, n_adl, nI_add, if_true, if_false, ite_true, ite_false, ↓reduceIte]
    · simp (maxSteps := 2000000) (decide := true) (disch := omega) only [rA, g, bindS, wI_row, wI_slot, wI_same, wI_2, nI_p0, false_or, nle_f, nI_cl, n_lad, n_adl, nI_add, if_true, if_false, ite_true, ite_false, ↓reduceIte]
      exact ha i (by omega)
  · intro x hx
    simp (maxSteps := 2000000) (decide := true) (disch := omega) only [bindS, wI_row, wI_slot, wI_same, wI_2, nI_p0, false_or, nle_f, nI_cl, n_lad, n_adl, nI_add, if_true, if_false, ite_true, ite_false, ↓reduceIte]
theorem f_addR0 {M : z_Mem} {p : Nat} {r : t_R} (h : R_c M p r) (hl : r.1 = 8) (a b c d e : Int32) : F_X6_add w M p a b c d e = some (false, M) := by
  unfold F_X6_add
  rw [h.1, hl, if_neg (by decide)]
theorem f_grants {N : z_Mem} {b : Nat} (hb : b ≤ 4) {r : t_R} (h : BR (fun k => N.1 142 (375 * b + k)) r) (hr : r.1 < 8) (a c d e f : Int32) : ∃ N', F_X12_grants w N (nI b) (nI r.1) a c d e f = some ((), N') ∧ BR (fun k => N'.1 142 (375 * b + k)) (rA r (v5 a c d e f)) ∧ (∀ x, x ≠ 142 → N'.1 x = N.1 x) ∧ (∀ k, k ≠ 375 * b → (k < 375 * b + 20 ∨ 375 * b + 60 ≤ k) → N'.1 142 k = N.1 142 k) ∧ N'.2 = N.2 := by
  obtain ⟨hc, ha⟩ := h
  refine ⟨z_wI (z_wI (z_wI (z_wI (z_wI (z_wI N 142 (375 * b + (20 + r.1)) a) 142 (375 * b + (28 + r.1)) c) 142 (375 * b + (36 + r.1)) d) 142 (375 * b + (44 + r.1)) e) 142 (375 * b + (52 + r.1)) f) 142 (375 * b) (nI (r.1 + 1)), ?_, ⟨?_, fun i hi => ?_⟩, fun x hx => ?_, fun k k1 k2 => ?_, rfl⟩
  · unfold F_X12_grants
    simp only [show (375 : Int32) = nI 375 from rfl, g_nmul]
    simp (maxSteps := 2000000) (decide := true) (disch := omega) only [nI_11, k_20, k_28, k_36, k_44, k_52, bindS, wI_row, wI_slot, wI_same, wI_2, nI_p0, false_or, nle_f, nI_cl, n_lad, n_adl, nI_add, if_true, if_false, ite_true, ite_false, ↓reduceIte]
    rw [show 375 * b + r.1 + 20 = 375 * b + (20 + r.1) by omega, show 375 * b + r.1 + 28 = 375 * b + (28 + r.1) by omega, show 375 * b + r.1 + 36 = 375 * b + (36 + r.1) by omega, show 375 * b + r.1 + 44 = 375 * b + (44 + r.1) by omega, show 375 * b + r.1 + 52 = 375 * b + (52 + r.1) by omega]
  · exact wI_same
  · have hi2 : i < r.1 + 1 := hi
    dsimp only
    by_cases g : i = r.1
    · subst g
      simp (maxSteps := 2000000) (decide := true) (disch := omega) only [rA, v5, bindS, wI_row, wI_slot, wI_same, wI_2, nI_p0, false_or, nle_f, nI_cl, n_lad, n_adl, nI_add, if_true, if_false, ite_true, ite_false, ↓reduceIte]
    · simp (maxSteps := 2000000) (decide := true) (disch := omega) only [rA, g, bindS, wI_row, wI_slot, wI_same, wI_2, nI_p0, false_or, nle_f, nI_cl, n_lad, n_adl, nI_add, if_true, if_false, ite_true, ite_false, ↓reduceIte]
      exact ha i (by omega)
  · simp (maxSteps := 2000000) (decide := true) (disch := omega) only [bindS, wI_row, wI_slot, wI_same, wI_2, nI_p0, false_or, nle_f, nI_cl, n_lad, n_adl, nI_add, if_true, if_false, ite_true, ite_false, ↓reduceIte]
  · simp (maxSteps := 2000000) (decide := true) (disch := omega) only [bindS, wI_row, wI_slot, wI_same, wI_2, nI_p0, false_or, nle_f, nI_cl, n_lad, n_adl, nI_add, if_true, if_false, ite_true, ite_false, ↓reduceIte]
theorem VR_a {r : t_R} (hv : VR r) (hl : r.1 < 8) {a b c d e : Int32} (ha : a = 0 ∨ a = 1) (hb : (b = 0 ∧ c = 0) ∨ (b = 1 ∧ c = 0) ∨ (b = 2 ∧ 1 ≤ c ∧ c ≤ 6)) (hd : 1 ≤ d ∧ d ≤ 50) (he : 0 ≤ e ∧ e ≤ 4095) : VR (rA r (v5 a b c d e)) := by
  refine ⟨by show r.1 + 1 ≤ 8; omega, fun i hi => ?_⟩
  have hi2 : i < r.1 + 1 := hi
  by_cases g : i = r.1
  · subst g
    simp (maxSteps := 2000000) (decide := true) (disch := omega) only [rA, v5, bindS, wI_row, wI_slot, wI_same, wI_2, nI_p0, false_or, nle_f, nI_cl, n_lad, n_adl, nI_add, if_true, if_false, ite_true, ite_false, ↓reduceIte]
    exact ⟨ha, hb, hd, he⟩
  · simp (maxSteps := 2000000) (decide := true) (disch := omega) only [rA, g, bindS, wI_row, wI_slot, wI_same, wI_2, nI_p0, false_or, nle_f, nI_cl, n_lad, n_adl, nI_add, if_true, if_false, ite_true, ite_false, ↓reduceIte]
    exact hv.2 i (by omega)
variable {M : z_Mem}
/-- a right more, behind all that is asked first -/
theorem claim_in (h : r_Rel M) {P : t_P} (hc : CP M 7 P) (hb : BP (M.1 142) P) (hv : VP P) (hl : P.2.1.1 < 8) {a b c d e : Int32} (ha : a = 0 ∨ a = 1) (hk : (b = 0 ∧ c = 0) ∨ (b = 1 ∧ c = 0) ∨ (b = 2 ∧ 1 ≤ c ∧ c ≤ 6)) (hd : 1 ≤ d ∧ d ≤ 50) (he : 0 ≤ e ∧ e ≤ 4095) : ∃ A N, F_X6_add w M 7 a b c d e = some (true, A) ∧ A.1 9 5 = nI (P.2.1.1 + 1) ∧ A.1 142 0 = nI P.2.1.1 ∧ F_X12_grants w (z_wI (z_wI (z_wI A 0 11 0) 137 1 0) 137 0 0) 0 (nI P.2.1.1) a b c d e = some ((), N) ∧ r_Rel N := by
  obtain ⟨A, a1, a2, a3⟩ := f_addR (w := w) hc.2.1 hl a b c d e
  have e0 : A.1 142 = M.1 142 := a3.1 142 (by omega)
  have e1 : (z_wI (z_wI (z_wI A 0 11 0) 137 1 0) 137 0 0).1 142 = M.1 142 := by simp (maxSteps := 2000000) (decide := true) (disch := omega) only [e0, bindS, wI_row, wI_slot, wI_same, wI_2, nI_p0, false_or, nle_f, nI_cl, n_lad, n_adl, nI_add, if_true, if_false, ite_true, ite_false, ↓reduceIte]
  have hb2 : BR (fun k => (z_wI (z_wI (z_wI A 0 11 0) 137 1 0) 137 0 0).1 142 (375 * 0 + k)) P.2.1 := by
    rw [e1]
    simp only [Nat.mul_zero, Nat.zero_add]
    exact hb.2.1
  obtain ⟨N, n1, n2, n3, n4, n5⟩ := f_grants (w := w) (b := 0) (by omega) hb2 hl a b c d e
  refine ⟨A, N, a1, a2.1, by rw [e0]; exact hb.2.1.1, n1, ?_⟩
  simp only [Nat.mul_zero, Nat.zero_add] at n2 n4
  refine r_op (A := A) (P := (P.1, rA P.2.1 (v5 a b c d e), P.2.2)) h (Kc_k (p := 7) a3) (CP_r (p := 7) hc a2 a3) ⟨n3, fun k hk => n4 k (by omega) (by omega), n5⟩ ?_ ⟨hv.1, VR_a hv.2.1 hl ha hk hd he, hv.2.2⟩
  refine BP_r hb hv n2 (fun k k1 k2 => ?_)
  rw [n4 k k1 k2, e1]
theorem f_pl (N : z_Mem) (a : Int32) : F_X11_isPlan w N a = some (decide (0 ≤ a ∧ a ≤ 4095), N) := by
  unfold F_X11_isPlan
  by_cases h1 : a < 0
  · rw [if_pos h1, decide_eq_false (fun g => i_nlt.mpr g.1 h1)]
  · rw [if_neg h1]
    by_cases h2 : (4095 : Int32) < a
    · rw [if_pos h2, decide_eq_false (fun g => i_nlt.mpr g.2 h2)]
    · rw [if_neg h2, decide_eq_true ⟨i_nlt.mp h1, i_nlt.mp h2⟩]
theorem call_claim (h : r_Rel M) (a b c d e : Int32) : r_ok (F_X11_claim w M a b c d e) (fun M => F_X12_claim w M a b c d e) := by
  have ref : ∀ v : Int32, F_X11_claim w M a b c d e = some (-1, z_wI M 0 11 v) → F_X12_claim w (z_wI M 0 11 v) a b c d e = some (-1, z_st M v) → r_ok (F_X11_claim w M a b c d e) (fun M => F_X12_claim w M a b c d e) := fun v e1 e2 => ⟨-1, _, _, e1, e2, r_stv v h⟩
  obtain ⟨P, hc, hb, hv⟩ := h.2.2.2.2.2.2.1
  have h8 : P.2.1.1 ≤ 8 := hv.2.1.1
  have b0 : M.1 142 0 = nI P.2.1.1 := hb.2.1.1
  by_cases hs : a = 0 ∨ a = 1
  · have s1 : ∀ N, F_X11_isSide w N a = some (true, N) := fun N => by rcases hs with rfl | rfl <;> rfl
    have s2 : ∀ N, F_X12_isSideAt w N a = some (true, N) := fun N => by rcases hs with rfl | rfl <;> rfl
    by_cases g1 : (0 : Int32) ≤ b ∧ b ≤ 2
    · rcases i_lit2 g1 with rfl | rfl | rfl
      · have m1 := fun N => in_t (w := w) (M := N) (a := 0) (B := 0) (C := 2) 0 2 rfl rfl g1
        have w1 : ∀ N, F_X11_isWithin w N 0 0 2 = some (true, N) := fun N => by rw [f_wi, decide_eq_true g1]
        by_cases g3 : c = 0
        · subst g3
          have m3 := fun N => in_t (w := w) (M := N) (a := 0) (B := 0) (C := 0) 0 0 rfl rfl (by decide)
          by_cases g4 : (1 : Int32) ≤ d ∧ d ≤ 50
          · have m4 := fun N => in_t (w := w) (M := N) (a := d) (B := 1) (C := 50) 1 50 rfl rfl g4
            have w4 : ∀ N, F_X11_isWithin w N d 1 50 = some (true, N) := fun N => by rw [f_wi, decide_eq_true g4]
            by_cases g5 : (0 : Int32) ≤ e ∧ e ≤ 4095
            · have m5 := fun N => in_t (w := w) (M := N) (a := e) (B := 0) (C := 4095) 0 4095 rfl rfl g5
              have w5 : ∀ N, F_X11_isPlan w N e = some (true, N) := fun N => by rw [f_pl, decide_eq_true g5]
              by_cases g6 : P.2.1.1 < 8
              · obtain ⟨A, N, a1, a2, a3, a4, a5⟩ := claim_in (w := w) h hc hb hv g6 hs (Or.inl ⟨rfl, rfl⟩) g4 g5
                have g7 : ¬ nI P.2.1.1 = 8 := fun x => by
                  have := (nI_eq (b := 8) (by omega) (by omega)).mp x
                  omega
                have g8 : nI (P.2.1.1 + 1) - 1 = nI P.2.1.1 := pk_sub (b := 1) (by omega)
                refine ⟨nI P.2.1.1, z_wI A 0 11 0, N, ?_, ?_, a5⟩
                · simp (maxSteps := 2000000) (decide := true) (disch := omega) only [F_X11_claim, F_X11_answer, s1, w1, w4, w5, a1, a2, g8, bindS, wI_row, wI_slot, wI_same, wI_2, nI_p0, false_or, nle_f, nI_cl, n_lad, n_adl, nI_add, if_true, if_false, ite_true, ite_false, ↓reduceIte]
                · simp (maxSteps := 2000000) (decide := true) (disch := omega) only [F_X12_claim, F_X12_isPlan, s2, m1, m3, m4, m5, a3, g7, a4, bindS, wI_row, wI_slot, wI_same, wI_2, nI_p0, false_or, nle_f, nI_cl, n_lad, n_adl, nI_add, if_true, if_false, ite_true, ite_false, ↓reduceIte]
              · have h9 : P.2.1.1 = 8 := by omega
                have e9 := f_addR0 (w := w) hc.2.1 h9 a 0 0 d e
                rw [h9] at b0
                have e8 : nI 8 = 8 := rfl
                exact ref 7 (by simp (maxSteps := 2000000) (decide := true) (disch := omega) only [F_X11_claim, F_X11_refuse, s1, w1, w4, w5, e9, Bool.false_eq_true, bindS, wI_row, wI_slot, wI_same, wI_2, nI_p0, false_or, nle_f, nI_cl, n_lad, n_adl, nI_add, if_true, if_false, ite_true, ite_false, ↓reduceIte]) (by simp (maxSteps := 2000000) (decide := true) (disch := omega) only [F_X12_claim, F_X12_isPlan, F_X12_refuse, z_st, wI_wI, s2, m1, m3, m4, m5, b0, e8, Bool.false_eq_true, bindS, wI_row, wI_slot, wI_same, wI_2, nI_p0, false_or, nle_f, nI_cl, n_lad, n_adl, nI_add, if_true, if_false, ite_true, ite_false, ↓reduceIte])
            · have m5 := fun N => in_f (w := w) (M := N) (a := e) (B := 0) (C := 4095) 0 4095 rfl rfl g5
              have w5 : ∀ N, F_X11_isPlan w N e = some (false, N) := fun N => by rw [f_pl, decide_eq_false g5]
              exact ref 5 (by simp (maxSteps := 2000000) (decide := true) (disch := omega) only [F_X11_claim, F_X11_refuse, s1, w1, w4, w5, Bool.false_eq_true, bindS, wI_row, wI_slot, wI_same, wI_2, nI_p0, false_or, nle_f, nI_cl, n_lad, n_adl, nI_add, if_true, if_false, ite_true, ite_false, ↓reduceIte]) (by simp (maxSteps := 2000000) (decide := true) (disch := omega) only [F_X12_claim, F_X12_isPlan, F_X12_refuse, z_st, wI_wI, s2, m1, m3, m4, m5, Bool.false_eq_true, bindS, wI_row, wI_slot, wI_same, wI_2, nI_p0, false_or, nle_f, nI_cl, n_lad, n_adl, nI_add, if_true, if_false, ite_true, ite_false, ↓reduceIte])
          · have m4 := fun N => in_f (w := w) (M := N) (a := d) (B := 1) (C := 50) 1 50 rfl rfl g4
            have w4 : ∀ N, F_X11_isWithin w N d 1 50 = some (false, N) := fun N => by rw [f_wi, decide_eq_false g4]
            exact ref 5 (by simp (maxSteps := 2000000) (decide := true) (disch := omega) only [F_X11_claim, F_X11_refuse, s1, w1, w4, Bool.false_eq_true, bindS, wI_row, wI_slot, wI_same, wI_2, nI_p0, false_or, nle_f, nI_cl, n_lad, n_adl, nI_add, if_true, if_false, ite_true, ite_false, ↓reduceIte]) (by simp (maxSteps := 2000000) (decide := true) (disch := omega) only [F_X12_claim, F_X12_isPlan, F_X12_refuse, z_st, wI_wI, s2, m1, m3, m4, Bool.false_eq_true, bindS, wI_row, wI_slot, wI_same, wI_2, nI_p0, false_or, nle_f, nI_cl, n_lad, n_adl, nI_add, if_true, if_false, ite_true, ite_false, ↓reduceIte])
        · have m3 := fun N => in_f (w := w) (M := N) (a := c) (B := 0) (C := 0) 0 0 rfl rfl (fun x => g3 (Int32.le_antisymm x.2 x.1))
          exact ref 5 (by simp (maxSteps := 2000000) (decide := true) (disch := omega) only [F_X11_claim, F_X11_refuse, s1, w1, g3, Bool.false_eq_true, bindS, wI_row, wI_slot, wI_same, wI_2, nI_p0, false_or, nle_f, nI_cl, n_lad, n_adl, nI_add, if_true, if_false, ite_true, ite_false, ↓reduceIte]) (by simp (maxSteps := 2000000) (decide := true) (disch := omega) only [F_X12_claim, F_X12_isPlan, F_X12_refuse, z_st, wI_wI, s2, m1, m3, Bool.false_eq_true, bindS, wI_row, wI_slot, wI_same, wI_2, nI_p0, false_or, nle_f, nI_cl, n_lad, n_adl, nI_add, if_true, if_false, ite_true, ite_false, ↓reduceIte])
      · have m1 := fun N => in_t (w := w) (M := N) (a := 1) (B := 0) (C := 2) 0 2 rfl rfl g1
        have w1 : ∀ N, F_X11_isWithin w N 1 0 2 = some (true, N) := fun N => by rw [f_wi, decide_eq_true g1]
        by_cases g3 : c = 0
        · subst g3
          have m3 := fun N => in_t (w := w) (M := N) (a := 0) (B := 0) (C := 0) 0 0 rfl rfl (by decide)
          by_cases g4 : (1 : Int32) ≤ d ∧ d ≤ 50
          · have m4 := fun N => in_t (w := w) (M := N) (a := d) (B := 1) (C := 50) 1 50 rfl rfl g4
            have w4 : ∀ N, F_X11_isWithin w N d 1 50 = some (true, N) := fun N => by rw [f_wi, decide_eq_true g4]
            by_cases g5 : (0 : Int32) ≤ e ∧ e ≤ 4095
            · have m5 := fun N => in_t (w := w) (M := N) (a := e) (B := 0) (C := 4095) 0 4095 rfl rfl g5
              have w5 : ∀ N, F_X11_isPlan w N e = some (true, N) := fun N => by rw [f_pl, decide_eq_true g5]
              by_cases g6 : P.2.1.1 < 8
              · obtain ⟨A, N, a1, a2, a3, a4, a5⟩ := claim_in (w := w) h hc hb hv g6 hs (Or.inr (Or.inl ⟨rfl, rfl⟩)) g4 g5
                have g7 : ¬ nI P.2.1.1 = 8 := fun x => by
                  have := (nI_eq (b := 8) (by omega) (by omega)).mp x
                  omega
                have g8 : nI (P.2.1.1 + 1) - 1 = nI P.2.1.1 := pk_sub (b := 1) (by omega)
                refine ⟨nI P.2.1.1, z_wI A 0 11 0, N, ?_, ?_, a5⟩
                · simp (maxSteps := 2000000) (decide := true) (disch := omega) only [F_X11_claim, F_X11_answer, s1, w1, w4, w5, a1, a2, g8, bindS, wI_row, wI_slot, wI_same, wI_2, nI_p0, false_or, nle_f, nI_cl, n_lad, n_adl, nI_add, if_true, if_false, ite_true, ite_false, ↓reduceIte]
                · simp (maxSteps := 2000000) (decide := true) (disch := omega) only [F_X12_claim, F_X12_isPlan, s2, m1, m3, m4, m5, a3, g7, a4, bindS, wI_row, wI_slot, wI_same, wI_2, nI_p0, false_or, nle_f, nI_cl, n_lad, n_adl, nI_add, if_true, if_false, ite_true, ite_false, ↓reduceIte]
              · have h9 : P.2.1.1 = 8 := by omega
                have e9 := f_addR0 (w := w) hc.2.1 h9 a 1 0 d e
                rw [h9] at b0
                have e8 : nI 8 = 8 := rfl
                exact ref 7 (by simp (maxSteps := 2000000) (decide := true) (disch := omega) only [F_X11_claim, F_X11_refuse, s1, w1, w4, w5, e9, Bool.false_eq_true, bindS, wI_row, wI_slot, wI_same, wI_2, nI_p0, false_or, nle_f, nI_cl, n_lad, n_adl, nI_add, if_true, if_false, ite_true, ite_false, ↓reduceIte]) (by simp (maxSteps := 2000000) (decide := true) (disch := omega) only [F_X12_claim, F_X12_isPlan, F_X12_refuse, z_st, wI_wI, s2, m1, m3, m4, m5, b0, e8, Bool.false_eq_true, bindS, wI_row, wI_slot, wI_same, wI_2, nI_p0, false_or, nle_f, nI_cl, n_lad, n_adl, nI_add, if_true, if_false, ite_true, ite_false, ↓reduceIte])
            · have m5 := fun N => in_f (w := w) (M := N) (a := e) (B := 0) (C := 4095) 0 4095 rfl rfl g5
              have w5 : ∀ N, F_X11_isPlan w N e = some (false, N) := fun N => by rw [f_pl, decide_eq_false g5]
              exact ref 5 (by simp (maxSteps := 2000000) (decide := true) (disch := omega) only [F_X11_claim, F_X11_refuse, s1, w1, w4, w5, Bool.false_eq_true, bindS, wI_row, wI_slot, wI_same, wI_2, nI_p0, false_or, nle_f, nI_cl, n_lad, n_adl, nI_add, if_true, if_false, ite_true, ite_false, ↓reduceIte]) (by simp (maxSteps := 2000000) (decide := true) (disch := omega) only [F_X12_claim, F_X12_isPlan, F_X12_refuse, z_st, wI_wI, s2, m1, m3, m4, m5, Bool.false_eq_true, bindS, wI_row, wI_slot, wI_same, wI_2, nI_p0, false_or, nle_f, nI_cl, n_lad, n_adl, nI_add, if_true, if_false, ite_true, ite_false, ↓reduceIte])
          · have m4 := fun N => in_f (w := w) (M := N) (a := d) (B := 1) (C := 50) 1 50 rfl rfl g4
            have w4 : ∀ N, F_X11_isWithin w N d 1 50 = some (false, N) := fun N => by rw [f_wi, decide_eq_false g4]
            exact ref 5 (by simp (maxSteps := 2000000) (decide := true) (disch := omega) only [F_X11_claim, F_X11_refuse, s1, w1, w4, Bool.false_eq_true, bindS, wI_row, wI_slot, wI_same, wI_2, nI_p0, false_or, nle_f, nI_cl, n_lad, n_adl, nI_add, if_true, if_false, ite_true, ite_false, ↓reduceIte]) (by simp (maxSteps := 2000000) (decide := true) (disch := omega) only [F_X12_claim, F_X12_isPlan, F_X12_refuse, z_st, wI_wI, s2, m1, m3, m4, Bool.false_eq_true, bindS, wI_row, wI_slot, wI_same, wI_2, nI_p0, false_or, nle_f, nI_cl, n_lad, n_adl, nI_add, if_true, if_false, ite_true, ite_false, ↓reduceIte])
        · have m3 := fun N => in_f (w := w) (M := N) (a := c) (B := 0) (C := 0) 0 0 rfl rfl (fun x => g3 (Int32.le_antisymm x.2 x.1))
          exact ref 5 (by simp (maxSteps := 2000000) (decide := true) (disch := omega) only [F_X11_claim, F_X11_refuse, s1, w1, g3, Bool.false_eq_true, bindS, wI_row, wI_slot, wI_same, wI_2, nI_p0, false_or, nle_f, nI_cl, n_lad, n_adl, nI_add, if_true, if_false, ite_true, ite_false, ↓reduceIte]) (by simp (maxSteps := 2000000) (decide := true) (disch := omega) only [F_X12_claim, F_X12_isPlan, F_X12_refuse, z_st, wI_wI, s2, m1, m3, Bool.false_eq_true, bindS, wI_row, wI_slot, wI_same, wI_2, nI_p0, false_or, nle_f, nI_cl, n_lad, n_adl, nI_add, if_true, if_false, ite_true, ite_false, ↓reduceIte])
      · have m1 := fun N => in_t (w := w) (M := N) (a := 2) (B := 0) (C := 2) 0 2 rfl rfl g1
        have w1 : ∀ N, F_X11_isWithin w N 2 0 2 = some (true, N) := fun N => by rw [f_wi, decide_eq_true g1]
        by_cases g3 : (1 : Int32) ≤ c ∧ c ≤ 6
        · have m3 := fun N => in_t (w := w) (M := N) (a := c) (B := 1) (C := 6) 1 6 rfl rfl g3
          have w3 : ∀ N, F_X11_isWithin w N c 1 6 = some (true, N) := fun N => by rw [f_wi, decide_eq_true g3]
          by_cases g4 : (1 : Int32) ≤ d ∧ d ≤ 50
          · have m4 := fun N => in_t (w := w) (M := N) (a := d) (B := 1) (C := 50) 1 50 rfl rfl g4
            have w4 : ∀ N, F_X11_isWithin w N d 1 50 = some (true, N) := fun N => by rw [f_wi, decide_eq_true g4]
            by_cases g5 : (0 : Int32) ≤ e ∧ e ≤ 4095
            · have m5 := fun N => in_t (w := w) (M := N) (a := e) (B := 0) (C := 4095) 0 4095 rfl rfl g5
              have w5 : ∀ N, F_X11_isPlan w N e = some (true, N) := fun N => by rw [f_pl, decide_eq_true g5]
              by_cases g6 : P.2.1.1 < 8
              · obtain ⟨A, N, a1, a2, a3, a4, a5⟩ := claim_in (w := w) h hc hb hv g6 hs (Or.inr (Or.inr ⟨rfl, g3⟩)) g4 g5
                have g7 : ¬ nI P.2.1.1 = 8 := fun x => by
                  have := (nI_eq (b := 8) (by omega) (by omega)).mp x
                  omega
                have g8 : nI (P.2.1.1 + 1) - 1 = nI P.2.1.1 := pk_sub (b := 1) (by omega)
                refine ⟨nI P.2.1.1, z_wI A 0 11 0, N, ?_, ?_, a5⟩
                · simp (maxSteps := 2000000) (decide := true) (disch := omega) only [F_X11_claim, F_X11_answer, s1, w1, w3, w4, w5, a1, a2, g8, bindS, wI_row, wI_slot, wI_same, wI_2, nI_p0, false_or, nle_f, nI_cl, n_lad, n_adl, nI_add, if_true, if_false, ite_true, ite_false, ↓reduceIte]
                · simp (maxSteps := 2000000) (decide := true) (disch := omega) only [F_X12_claim, F_X12_isPlan, s2, m1, m3, m4, m5, a3, g7, a4, bindS, wI_row, wI_slot, wI_same, wI_2, nI_p0, false_or, nle_f, nI_cl, n_lad, n_adl, nI_add, if_true, if_false, ite_true, ite_false, ↓reduceIte]
              · have h9 : P.2.1.1 = 8 := by omega
                have e9 := f_addR0 (w := w) hc.2.1 h9 a 2 c d e
                rw [h9] at b0
                have e8 : nI 8 = 8 := rfl
                exact ref 7 (by simp (maxSteps := 2000000) (decide := true) (disch := omega) only [F_X11_claim, F_X11_refuse, s1, w1, w3, w4, w5, e9, Bool.false_eq_true, bindS, wI_row, wI_slot, wI_same, wI_2, nI_p0, false_or, nle_f, nI_cl, n_lad, n_adl, nI_add, if_true, if_false, ite_true, ite_false, ↓reduceIte]) (by simp (maxSteps := 2000000) (decide := true) (disch := omega) only [F_X12_claim, F_X12_isPlan, F_X12_refuse, z_st, wI_wI, s2, m1, m3, m4, m5, b0, e8, Bool.false_eq_true, bindS, wI_row, wI_slot, wI_same, wI_2, nI_p0, false_or, nle_f, nI_cl, n_lad, n_adl, nI_add, if_true, if_false, ite_true, ite_false, ↓reduceIte])
            · have m5 := fun N => in_f (w := w) (M := N) (a := e) (B := 0) (C := 4095) 0 4095 rfl rfl g5
              have w5 : ∀ N, F_X11_isPlan w N e = some (false, N) := fun N => by rw [f_pl, decide_eq_false g5]
              exact ref 5 (by simp (maxSteps := 2000000) (decide := true) (disch := omega) only [F_X11_claim, F_X11_refuse, s1, w1, w3, w4, w5, Bool.false_eq_true, bindS, wI_row, wI_slot, wI_same, wI_2, nI_p0, false_or, nle_f, nI_cl, n_lad, n_adl, nI_add, if_true, if_false, ite_true, ite_false, ↓reduceIte]) (by simp (maxSteps := 2000000) (decide := true) (disch := omega) only [F_X12_claim, F_X12_isPlan, F_X12_refuse, z_st, wI_wI, s2, m1, m3, m4, m5, Bool.false_eq_true, bindS, wI_row, wI_slot, wI_same, wI_2, nI_p0, false_or, nle_f, nI_cl, n_lad, n_adl, nI_add, if_true, if_false, ite_true, ite_false, ↓reduceIte])
          · have m4 := fun N => in_f (w := w) (M := N) (a := d) (B := 1) (C := 50) 1 50 rfl rfl g4
            have w4 : ∀ N, F_X11_isWithin w N d 1 50 = some (false, N) := fun N => by rw [f_wi, decide_eq_false g4]
            exact ref 5 (by simp (maxSteps := 2000000) (decide := true) (disch := omega) only [F_X11_claim, F_X11_refuse, s1, w1, w3, w4, Bool.false_eq_true, bindS, wI_row, wI_slot, wI_same, wI_2, nI_p0, false_or, nle_f, nI_cl, n_lad, n_adl, nI_add, if_true, if_false, ite_true, ite_false, ↓reduceIte]) (by simp (maxSteps := 2000000) (decide := true) (disch := omega) only [F_X12_claim, F_X12_isPlan, F_X12_refuse, z_st, wI_wI, s2, m1, m3, m4, Bool.false_eq_true, bindS, wI_row, wI_slot, wI_same, wI_2, nI_p0, false_or, nle_f, nI_cl, n_lad, n_adl, nI_add, if_true, if_false, ite_true, ite_false, ↓reduceIte])
        · have m3 := fun N => in_f (w := w) (M := N) (a := c) (B := 1) (C := 6) 1 6 rfl rfl g3
          have w3 : ∀ N, F_X11_isWithin w N c 1 6 = some (false, N) := fun N => by rw [f_wi, decide_eq_false g3]
          exact ref 5 (by simp (maxSteps := 2000000) (decide := true) (disch := omega) only [F_X11_claim, F_X11_refuse, s1, w1, w3, Bool.false_eq_true, bindS, wI_row, wI_slot, wI_same, wI_2, nI_p0, false_or, nle_f, nI_cl, n_lad, n_adl, nI_add, if_true, if_false, ite_true, ite_false, ↓reduceIte]) (by simp (maxSteps := 2000000) (decide := true) (disch := omega) only [F_X12_claim, F_X12_isPlan, F_X12_refuse, z_st, wI_wI, s2, m1, m3, Bool.false_eq_true, bindS, wI_row, wI_slot, wI_same, wI_2, nI_p0, false_or, nle_f, nI_cl, n_lad, n_adl, nI_add, if_true, if_false, ite_true, ite_false, ↓reduceIte])
    · have m1 := fun N => in_f (w := w) (M := N) (a := b) (B := 0) (C := 2) 0 2 rfl rfl g1
      have w1 : ∀ N, F_X11_isWithin w N b 0 2 = some (false, N) := fun N => by rw [f_wi, decide_eq_false g1]
      have g2 : ¬ b = 2 := fun x => g1 (by rw [x]; decide)
      refine ref 5 ?_ (by simp (maxSteps := 2000000) (decide := true) (disch := omega) only [F_X12_claim, F_X12_isPlan, F_X12_refuse, z_st, wI_wI, s2, m1, Bool.false_eq_true, bindS, wI_row, wI_slot, wI_same, wI_2, nI_p0, false_or, nle_f, nI_cl, n_lad, n_adl, nI_add, if_true, if_false, ite_true, ite_false, ↓reduceIte])
      by_cases g3 : c = 0
      · simp (maxSteps := 2000000) (decide := true) (disch := omega) only [F_X11_claim, F_X11_refuse, s1, w1, g2, g3, Bool.false_eq_true, bindS, wI_row, wI_slot, wI_same, wI_2, nI_p0, false_or, nle_f, nI_cl, n_lad, n_adl, nI_add, if_true, if_false, ite_true, ite_false, ↓reduceIte]
      · simp (maxSteps := 2000000) (decide := true) (disch := omega) only [F_X11_claim, F_X11_refuse, s1, w1, g2, g3, Bool.false_eq_true, bindS, wI_row, wI_slot, wI_same, wI_2, nI_p0, false_or, nle_f, nI_cl, n_lad, n_adl, nI_add, if_true, if_false, ite_true, ite_false, ↓reduceIte]
  · have x := fun N => sd_f (w := w) (M := N) hs
    exact ref 2 (by simp (maxSteps := 2000000) (decide := true) (disch := omega) only [F_X11_claim, F_X11_refuse, (x _).1, Bool.false_eq_true, bindS, wI_row, wI_slot, wI_same, wI_2, nI_p0, false_or, nle_f, nI_cl, n_lad, n_adl, nI_add, if_true, if_false, ite_true, ite_false, ↓reduceIte]) (by simp (maxSteps := 2000000) (decide := true) (disch := omega) only [F_X12_claim, F_X12_refuse, (x _).2, z_st, wI_wI, Bool.false_eq_true, bindS, wI_row, wI_slot, wI_same, wI_2, nI_p0, false_or, nle_f, nI_cl, n_lad, n_adl, nI_add, if_true, if_false, ite_true, ite_false, ↓reduceIte])
/-! rules -/
theorem CS_set {r c s : Nat → Int32} (h : CS r c s) {k : Nat} (hk : k = 5 ∨ k = 6 ∨ k = 7) (v : Int32) : CS (fun j => if j = k then v else r j) c (sU s k v) := by
  obtain ⟨s5, s6, s7, s8, s9, s10, s11, s12, s13⟩ := h
  unfold CS sU z_lay
  unfold z_lay at s9
  rcases hk with rfl | rfl | rfl <;> simp [s5, s6, s7, s8, s9, s10, s11, s12, s13]
theorem BS_set {f s : Nat → Int32} (h : BS f s) {k : Nat} (hk : k = 5 ∨ k = 6 ∨ k = 7) (v : Int32) : BS (fun j => if j = k then v else f j) (sU s k v) := by
  obtain ⟨s5, s6, s7, s8, s9, s11, s12, s13, t1, t2, t3, t4, t5, t6⟩ := h
  unfold BS sU
  rcases hk with rfl | rfl | rfl <;> simp [s5, s6, s7, s8, s9, s11, s12, s13, t1, t2, t3, t4, t5, t6]
theorem VS_set {s : Nat → Int32} (h : VS s) {k : Nat} {v : Int32} (hk : (k = 5 ∧ 0 ≤ v ∧ v ≤ 16) ∨ (k = 6 ∧ 0 ≤ v ∧ v ≤ 99) ∨ (k = 7 ∧ 0 ≤ v ∧ v ≤ 99)) : VS (sU s k v) := by
  obtain ⟨s8, s14, s12, s13, s5, s6, s7⟩ := h
  have e : ∀ j, j ≠ k → sU s k v j = s j := fun j hj => sU_n hj
  rcases hk with ⟨rfl, hv⟩ | ⟨rfl, hv⟩ | ⟨rfl, hv⟩
  · refine ⟨?_, fun j hj => ?_, ?_, ?_, by rw [sU_s]; exact hv, ?_, ?_⟩
    · rw [e 8 (by omega)]; exact s8
    · rw [e _ (by omega)]; exact s14 j hj
    · rw [e 12 (by omega)]; exact s12
    · rw [e 13 (by omega)]; exact s13
    · rw [e 6 (by omega)]; exact s6
    · rw [e 7 (by omega)]; exact s7
  · refine ⟨?_, fun j hj => ?_, ?_, ?_, ?_, by rw [sU_s]; exact hv, ?_⟩
    · rw [e 8 (by omega)]; exact s8
    · rw [e _ (by omega)]; exact s14 j hj
    · rw [e 12 (by omega)]; exact s12
    · rw [e 13 (by omega)]; exact s13
    · rw [e 5 (by omega)]; exact s5
    · rw [e 7 (by omega)]; exact s7
  · refine ⟨?_, fun j hj => ?_, ?_, ?_, ?_, ?_, by rw [sU_s]; exact hv⟩
    · rw [e 8 (by omega)]; exact s8
    · rw [e _ (by omega)]; exact s14 j hj
    · rw [e 12 (by omega)]; exact s12
    · rw [e 13 (by omega)]; exact s13
    · rw [e 5 (by omega)]; exact s5
    · rw [e 6 (by omega)]; exact s6
theorem rule_in (h : r_Rel M) {k : Nat} {v : Int32} (hk : (k = 5 ∧ 0 ≤ v ∧ v ≤ 16) ∨ (k = 6 ∧ 0 ≤ v ∧ v ≤ 99) ∨ (k = 7 ∧ 0 ≤ v ∧ v ≤ 99)) : r_Rel (z_wI (z_wI (z_wI (z_wI (z_wI M 7 k v) 0 11 0) 137 1 0) 137 0 0) 142 k v) := by
  obtain ⟨P, hc, hb, hv⟩ := h.2.2.2.2.2.2.1
  have hk2 : k = 5 ∨ k = 6 ∨ k = 7 := by omega
  have k1 : Kc 7 M (z_wI M 7 k v) := ⟨fun a ha => wI_row (by omega), rfl⟩
  refine r_op (P := (sU P.1 k v, P.2)) h k1 ?_ ⟨fun a ha => wI_row ha, fun j hj => wI_slot (by omega), rfl⟩ ?_ ⟨VS_set hv.1 hk, hv.2⟩
  · obtain ⟨hS, hR, hD, hC, hY⟩ := hc
    refine ⟨?_, ?_, ?_, ?_, ?_⟩
    · rw [wI_fun, wI_row (by omega)]
      exact CS_set hS hk2 v
    · simp (maxSteps := 2000000) (decide := true) (disch := omega) only [bindS, wI_row, wI_slot, wI_same, wI_2, nI_p0, false_or, nle_f, nI_cl, n_lad, n_adl, nI_add, if_true, if_false, ite_true, ite_false, ↓reduceIte]
      exact hR
    · simp (maxSteps := 2000000) (decide := true) (disch := omega) only [bindS, wI_row, wI_slot, wI_same, wI_2, nI_p0, false_or, nle_f, nI_cl, n_lad, n_adl, nI_add, if_true, if_false, ite_true, ite_false, ↓reduceIte]
      exact hD
    · simp (maxSteps := 2000000) (decide := true) (disch := omega) only [bindS, wI_row, wI_slot, wI_same, wI_2, nI_p0, false_or, nle_f, nI_cl, n_lad, n_adl, nI_add, if_true, if_false, ite_true, ite_false, ↓reduceIte]
      exact hC
    · simp (maxSteps := 2000000) (decide := true) (disch := omega) only [bindS, wI_row, wI_slot, wI_same, wI_2, nI_p0, false_or, nle_f, nI_cl, n_lad, n_adl, nI_add, if_true, if_false, ite_true, ite_false, ↓reduceIte]
      exact hY
  · rw [wI_fun]
    have e : (z_wI (z_wI (z_wI (z_wI M 7 k v) 0 11 0) 137 1 0) 137 0 0).1 142 = M.1 142 := by simp (maxSteps := 2000000) (decide := true) (disch := omega) only [bindS, wI_row, wI_slot, wI_same, wI_2, nI_p0, false_or, nle_f, nI_cl, n_lad, n_adl, nI_add, if_true, if_false, ite_true, ite_false, ↓reduceIte]
    rw [e]
    obtain ⟨hS, hR, hD, hC, hY⟩ := hb
    obtain ⟨vS, vR, vD, vC, vY⟩ := hv
    exact ⟨BS_set hS hk2 v, BR_of hR vR (if_neg (by omega)) (fun j a b => if_neg (by omega)), BD_of hD vD (if_neg (by omega)) (if_neg (by omega)) (fun j a b => if_neg (by omega)), BC_of hC vC (fun j a b => if_neg (by omega)) (fun j a b => if_neg (by omega)), BY_of hY (fun j a b => if_neg (by omega)) vY⟩
theorem call_rule (h : r_Rel M) (a b : Int32) : r_ok (F_X11_rule w M a b) (fun M => F_X12_rule w M a b) := by
  have ref : ∀ v : Int32, F_X11_rule w M a b = some (false, z_wI M 0 11 v) → F_X12_rule w (z_wI M 0 11 v) a b = some (false, z_st M v) → r_ok (F_X11_rule w M a b) (fun M => F_X12_rule w M a b) := fun v e1 e2 => ⟨false, _, _, e1, e2, r_stv v h⟩
  have e5 : (5 : Int32).toNatClampNeg = 5 := rfl
  have e6 : (6 : Int32).toNatClampNeg = 6 := rfl
  have e7 : (7 : Int32).toNatClampNeg = 7 := rfl
  by_cases g5 : a = 5
  · subst g5
    have m1 := fun N => in_t (w := w) (M := N) (a := 5) (B := 5) (C := 7) 5 7 rfl rfl (by decide)
    by_cases g : (0 : Int32) ≤ b ∧ b ≤ 16
    · have m2 := fun N => in_t (w := w) (M := N) (a := b) (B := 0) (C := 16) 0 16 rfl rfl g
      have w2 : ∀ N, F_X11_isWithin w N b 0 16 = some (true, N) := fun N => by rw [f_wi, decide_eq_true g]
      refine ⟨true, z_wI (z_wI M 7 5 b) 0 11 0, _, ?_, ?_, rule_in (k := 5) h (Or.inl ⟨rfl, g⟩)⟩
      · simp (maxSteps := 2000000) (decide := true) (disch := omega) only [F_X11_rule, F_X11_allow, F_X3_setRule, w2, bindS, wI_row, wI_slot, wI_same, wI_2, nI_p0, false_or, nle_f, nI_cl, n_lad, n_adl, nI_add, if_true, if_false, ite_true, ite_false, ↓reduceIte]
      · simp (maxSteps := 2000000) (decide := true) (disch := omega) only [F_X12_rule, m1, m2, e5, bindS, wI_row, wI_slot, wI_same, wI_2, nI_p0, false_or, nle_f, nI_cl, n_lad, n_adl, nI_add, if_true, if_false, ite_true, ite_false, ↓reduceIte]
    · have m2 := fun N => in_f (w := w) (M := N) (a := b) (B := 0) (C := 16) 0 16 rfl rfl g
      have w2 : ∀ N, F_X11_isWithin w N b 0 16 = some (false, N) := fun N => by rw [f_wi, decide_eq_false g]
      exact ref 5 (by simp (maxSteps := 2000000) (decide := true) (disch := omega) only [F_X11_rule, F_X11_deny, w2, Bool.false_eq_true, bindS, wI_row, wI_slot, wI_same, wI_2, nI_p0, false_or, nle_f, nI_cl, n_lad, n_adl, nI_add, if_true, if_false, ite_true, ite_false, ↓reduceIte]) (by simp (maxSteps := 2000000) (decide := true) (disch := omega) only [F_X12_rule, F_X12_no, m1, m2, z_st, wI_wI, Bool.false_eq_true, bindS, wI_row, wI_slot, wI_same, wI_2, nI_p0, false_or, nle_f, nI_cl, n_lad, n_adl, nI_add, if_true, if_false, ite_true, ite_false, ↓reduceIte])
  · by_cases g6 : (6 : Int32) ≤ a ∧ a ≤ 7
    · have w1 : ∀ N, F_X11_isWithin w N a 6 7 = some (true, N) := fun N => by rw [f_wi, decide_eq_true g6]
      obtain ⟨k, k1, k2, rfl⟩ := (i_rng 6 7 (by omega) (by omega)).mp g6
      have hk : k = 6 ∨ k = 7 := by omega
      have m1 := fun N => in_t (w := w) (M := N) (a := nI k) (B := 5) (C := 7) 5 7 rfl rfl (by rcases hk with rfl | rfl <;> decide)
      by_cases g : (0 : Int32) ≤ b ∧ b ≤ 99
      · have m2 := fun N => in_t (w := w) (M := N) (a := b) (B := 0) (C := 99) 0 99 rfl rfl g
        have w2 : ∀ N, F_X11_isWithin w N b 0 99 = some (true, N) := fun N => by rw [f_wi, decide_eq_true g]
        refine ⟨true, z_wI (z_wI M 7 k b) 0 11 0, _, ?_, ?_, rule_in (k := k) h (by rcases hk with rfl | rfl; exact Or.inr (Or.inl ⟨rfl, g⟩); exact Or.inr (Or.inr ⟨rfl, g⟩))⟩
        · rcases hk with rfl | rfl
          · have x : nI 6 - 5 = 1 := by decide
            simp (maxSteps := 2000000) (decide := true) (disch := omega) only [F_X11_rule, F_X11_allow, F_X3_setRule, w1, w2, g5, x, bindS, wI_row, wI_slot, wI_same, wI_2, nI_p0, false_or, nle_f, nI_cl, n_lad, n_adl, nI_add, if_true, if_false, ite_true, ite_false, ↓reduceIte]
          · have x : nI 7 - 5 = 2 := by decide
            simp (maxSteps := 2000000) (decide := true) (disch := omega) only [F_X11_rule, F_X11_allow, F_X3_setRule, w1, w2, g5, x, bindS, wI_row, wI_slot, wI_same, wI_2, nI_p0, false_or, nle_f, nI_cl, n_lad, n_adl, nI_add, if_true, if_false, ite_true, ite_false, ↓reduceIte]
        · simp (maxSteps := 2000000) (decide := true) (disch := omega) only [F_X12_rule, m1, m2, g5, bindS, wI_row, wI_slot, wI_same, wI_2, nI_p0, false_or, nle_f, nI_cl, n_lad, n_adl, nI_add, if_true, if_false, ite_true, ite_false, ↓reduceIte]
      · have m2 := fun N => in_f (w := w) (M := N) (a := b) (B := 0) (C := 99) 0 99 rfl rfl g
        have w2 : ∀ N, F_X11_isWithin w N b 0 99 = some (false, N) := fun N => by rw [f_wi, decide_eq_false g]
        exact ref 5 (by simp (maxSteps := 2000000) (decide := true) (disch := omega) only [F_X11_rule, F_X11_deny, w1, w2, g5, Bool.false_eq_true, bindS, wI_row, wI_slot, wI_same, wI_2, nI_p0, false_or, nle_f, nI_cl, n_lad, n_adl, nI_add, if_true, if_false, ite_true, ite_false, ↓reduceIte]) (by simp (maxSteps := 2000000) (decide := true) (disch := omega) only [F_X12_rule, F_X12_no, m1, m2, g5, z_st, wI_wI, Bool.false_eq_true, bindS, wI_row, wI_slot, wI_same, wI_2, nI_p0, false_or, nle_f, nI_cl, n_lad, n_adl, nI_add, if_true, if_false, ite_true, ite_false, ↓reduceIte])
    · have w1 : ∀ N, F_X11_isWithin w N a 6 7 = some (false, N) := fun N => by rw [f_wi, decide_eq_false g6]
      have g7 : ¬ ((5 : Int32) ≤ a ∧ a ≤ 7) := fun x => by
        obtain ⟨k, k1, k2, rfl⟩ := (i_rng 5 7 (by omega) (by omega)).mp x
        have hk : k = 5 ∨ k = 6 ∨ k = 7 := by omega
        rcases hk with rfl | rfl | rfl
        · exact g5 rfl
        · exact g6 (by decide)
        · exact g6 (by decide)
      have m1 := fun N => in_f (w := w) (M := N) (a := a) (B := 5) (C := 7) 5 7 rfl rfl g7
      exact ref 5 (by simp (maxSteps := 2000000) (decide := true) (disch := omega) only [F_X11_rule, F_X11_deny, w1, g5, Bool.false_eq_true, bindS, wI_row, wI_slot, wI_same, wI_2, nI_p0, false_or, nle_f, nI_cl, n_lad, n_adl, nI_add, if_true, if_false, ite_true, ite_false, ↓reduceIte]) (by simp (maxSteps := 2000000) (decide := true) (disch := omega) only [F_X12_rule, F_X12_no, m1, z_st, wI_wI, Bool.false_eq_true, bindS, wI_row, wI_slot, wI_same, wI_2, nI_p0, false_or, nle_f, nI_cl, n_lad, n_adl, nI_add, if_true, if_false, ite_true, ite_false, ↓reduceIte])
theorem call_lived (h : r_Rel M) (a : Int32) : r_ok (F_X11_lived w M a) (fun M => F_X12_lived w M a) := by
  have ref : ∀ v : Int32, F_X11_lived w M a = some (-1, z_wI M 0 11 v) → F_X12_lived w (z_wI M 0 11 v) a = some (-1, z_st M v) → r_ok (F_X11_lived w M a) (fun M => F_X12_lived w M a) := fun v e1 e2 => ⟨-1, _, _, e1, e2, r_stv v h⟩
  have z0 : z_bb 0 = false := rfl
  have z1 : z_bb 1 = true := rfl
  by_cases g : (0 : Int32) ≤ a ∧ a ≤ 4
  · have m1 := fun N => in_t (w := w) (M := N) (a := a) (B := 0) (C := 4) 0 4 rfl rfl g
    have w1 : ∀ N, F_X11_isWithin w N a 0 4 = some (true, N) := fun N => by rw [f_wi, decide_eq_true g]
    rcases h.2.2.2.2.2.1 with ⟨l1, l2⟩ | ⟨l1, l2, l3, l4, l5, l6, l7⟩
    · exact ref 8 (by simp (maxSteps := 2000000) (decide := true) (disch := omega) only [F_X11_lived, F_X11_refuse, w1, l1, z0, Bool.false_eq_true, bindS, wI_row, wI_slot, wI_same, wI_2, nI_p0, false_or, nle_f, nI_cl, n_lad, n_adl, nI_add, if_true, if_false, ite_true, ite_false, ↓reduceIte]) (by simp (maxSteps := 2000000) (decide := true) (disch := omega) only [F_X12_lived, F_X12_refuse, m1, l2, z0, z_st, wI_wI, Bool.false_eq_true, bindS, wI_row, wI_slot, wI_same, wI_2, nI_p0, false_or, nle_f, nI_cl, n_lad, n_adl, nI_add, if_true, if_false, ite_true, ite_false, ↓reduceIte])
    · have q0 : (0 : Int32).toNatClampNeg = 0 := rfl
      have q1 : (1 : Int32).toNatClampNeg = 1 := rfl
      have q2 : (2 : Int32).toNatClampNeg = 2 := rfl
      have q3 : (3 : Int32).toNatClampNeg = 3 := rfl
      have q4 : (4 : Int32).toNatClampNeg = 4 := rfl
      have hq := r_stv 0 h
      rcases i_lit4 g with rfl | rfl | rfl | rfl | rfl
      · exact ⟨M.1 147 0, z_wI M 0 11 0, z_st M 0, by simp (maxSteps := 2000000) (decide := true) (disch := omega) only [F_X11_lived, F_X11_answer, w1, l1, z1, l3, bindS, wI_row, wI_slot, wI_same, wI_2, nI_p0, false_or, nle_f, nI_cl, n_lad, n_adl, nI_add, if_true, if_false, ite_true, ite_false, ↓reduceIte], by simp (maxSteps := 2000000) (decide := true) (disch := omega) only [F_X12_lived, m1, l2, z1, q0, z_st, bindS, wI_row, wI_slot, wI_same, wI_2, nI_p0, false_or, nle_f, nI_cl, n_lad, n_adl, nI_add, if_true, if_false, ite_true, ite_false, ↓reduceIte], hq⟩
      · exact ⟨M.1 147 1, z_wI M 0 11 0, z_st M 0, by simp (maxSteps := 2000000) (decide := true) (disch := omega) only [F_X11_lived, F_X11_answer, w1, l1, z1, l4, bindS, wI_row, wI_slot, wI_same, wI_2, nI_p0, false_or, nle_f, nI_cl, n_lad, n_adl, nI_add, if_true, if_false, ite_true, ite_false, ↓reduceIte], by simp (maxSteps := 2000000) (decide := true) (disch := omega) only [F_X12_lived, m1, l2, z1, q1, z_st, bindS, wI_row, wI_slot, wI_same, wI_2, nI_p0, false_or, nle_f, nI_cl, n_lad, n_adl, nI_add, if_true, if_false, ite_true, ite_false, ↓reduceIte], hq⟩
      · exact ⟨M.1 147 2, z_wI M 0 11 0, z_st M 0, by simp (maxSteps := 2000000) (decide := true) (disch := omega) only [F_X11_lived, F_X11_answer, w1, l1, z1, l5, bindS, wI_row, wI_slot, wI_same, wI_2, nI_p0, false_or, nle_f, nI_cl, n_lad, n_adl, nI_add, if_true, if_false, ite_true, ite_false, ↓reduceIte], by simp (maxSteps := 2000000) (decide := true) (disch := omega) only [F_X12_lived, m1, l2, z1, q2, z_st, bindS, wI_row, wI_slot, wI_same, wI_2, nI_p0, false_or, nle_f, nI_cl, n_lad, n_adl, nI_add, if_true, if_false, ite_true, ite_false, ↓reduceIte], hq⟩
      · exact ⟨M.1 147 3, z_wI M 0 11 0, z_st M 0, by simp (maxSteps := 2000000) (decide := true) (disch := omega) only [F_X11_lived, F_X11_answer, w1, l1, z1, l6, bindS, wI_row, wI_slot, wI_same, wI_2, nI_p0, false_or, nle_f, nI_cl, n_lad, n_adl, nI_add, if_true, if_false, ite_true, ite_false, ↓reduceIte], by simp (maxSteps := 2000000) (decide := true) (disch := omega) only [F_X12_lived, m1, l2, z1, q3, z_st, bindS, wI_row, wI_slot, wI_same, wI_2, nI_p0, false_or, nle_f, nI_cl, n_lad, n_adl, nI_add, if_true, if_false, ite_true, ite_false, ↓reduceIte], hq⟩
      · exact ⟨M.1 147 4, z_wI M 0 11 0, z_st M 0, by simp (maxSteps := 2000000) (decide := true) (disch := omega) only [F_X11_lived, F_X11_answer, w1, l1, z1, l7, bindS, wI_row, wI_slot, wI_same, wI_2, nI_p0, false_or, nle_f, nI_cl, n_lad, n_adl, nI_add, if_true, if_false, ite_true, ite_false, ↓reduceIte], by simp (maxSteps := 2000000) (decide := true) (disch := omega) only [F_X12_lived, m1, l2, z1, q4, z_st, bindS, wI_row, wI_slot, wI_same, wI_2, nI_p0, false_or, nle_f, nI_cl, n_lad, n_adl, nI_add, if_true, if_false, ite_true, ite_false, ↓reduceIte], hq⟩
  · have m1 := fun N => in_f (w := w) (M := N) (a := a) (B := 0) (C := 4) 0 4 rfl rfl g
    have w1 : ∀ N, F_X11_isWithin w N a 0 4 = some (false, N) := fun N => by rw [f_wi, decide_eq_false g]
    exact ref 5 (by simp (maxSteps := 2000000) (decide := true) (disch := omega) only [F_X11_lived, F_X11_refuse, w1, Bool.false_eq_true, bindS, wI_row, wI_slot, wI_same, wI_2, nI_p0, false_or, nle_f, nI_cl, n_lad, n_adl, nI_add, if_true, if_false, ite_true, ite_false, ↓reduceIte]) (by simp (maxSteps := 2000000) (decide := true) (disch := omega) only [F_X12_lived, F_X12_refuse, m1, z_st, wI_wI, Bool.false_eq_true, bindS, wI_row, wI_slot, wI_same, wI_2, nI_p0, false_or, nle_f, nI_cl, n_lad, n_adl, nI_add, if_true, if_false, ite_true, ite_false, ↓reduceIte])
theorem cl_bears {P : t_P} (hc : CP M 7 P) (hv : VP P) : ∀ (m i c : Nat), i + m = P.2.1.1 → m < c → L_X11_bears w c M (b_set P.1 P.2.1 i) (nI i) = some (b_set P.1 P.2.1 P.2.1.1, z_wI M 0 11 0) := by
  have h8 : P.2.1.1 ≤ 8 := hv.2.1.1
  have c0 : M.1 9 5 = nI P.2.1.1 := hc.2.1.1
  intro m
  induction m with
  | zero =>
    intro i c h1 h2
    obtain ⟨c, rfl⟩ : ∃ x, c = x + 1 := ⟨c - 1, by omega⟩
    obtain rfl : i = P.2.1.1 := by omega
    rw [L_X11_bears, c0, if_pos (nI_le (by omega) (by omega))]
    rfl
  | succ m ih =>
    intro i c h1 h2
    obtain ⟨c, rfl⟩ : ∃ x, c = x + 1 := ⟨c - 1, by omega⟩
    have e : F_X3_isBearing w M 7 (nI i) = _ := f_bear (w := w) hc.1 hc.2.1 hv.1 hv.2.1 (i := i) (by omega)
    have n := ih (i + 1) c (by omega) (by omega)
    rw [b_set] at n
    rw [L_X11_bears, c0, if_neg (nI_ge (by omega) (by omega)), e, bindS, nI_11]
    cases hb : b_bear P.1 P.2.1 i
    · rw [hb] at n
      simpa using n
    · rw [hb] at n
      simpa using n
theorem call_bears (hw : 1000 ≤ w) (h : r_Rel M) : r_ok (F_X11_bears w M) (F_X12_bears w) := by
  obtain ⟨P, hc, hb, hv⟩ := h.2.2.2.2.2.2.1
  have h8 : P.2.1.1 ≤ 8 := hv.2.1.1
  have e1 : F_X11_bears w M = _ := cl_bears (w := w) hc hv P.2.1.1 0 w (by omega) (by omega)
  have e2 : F_X12_borne w (z_st M 0) = _ := f_borne (w := w) (M := z_st M 0) (s := P.1) (r := P.2.1) (show BS (M.1 142) _ from hb.1) (show BR (M.1 142) _ from hb.2.1) hv.2.1 hw
  refine ⟨_, _, z_st M 0, e1, ?_, r_stv 0 h⟩
  unfold F_X12_bears
  rw [st_0, e2, bindS]
end
