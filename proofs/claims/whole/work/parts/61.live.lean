/-! ===== live, mean ===== -/
def yB (A : z_Mem) (l : Nat) (sd : Nat) (x y z : Int32) : z_Mem := z_wI (z_wI (z_wI (z_wI (z_wI (z_wI (z_wI (z_wI A l 1 (nI sd)) l 2 0) l 3 0) l 7 0) l 8 1) l 4 (-x)) l 5 (-y)) l 6 (-z)
def yN (N : z_Mem) (sd : Nat) (x y z : Int32) : z_Mem := z_wI (z_wI (z_wI (z_wI (z_wI (z_wI (z_wI (z_wI N 137 32 (nI sd)) 137 33 0) 137 34 0) 137 35 x) 137 36 y) 137 37 z) 137 38 0) 137 31 0
section
variable {w l p : Nat}
theorem i_ng (a b : Int32) : -a + b = b - a := by rw [Int32.add_comm, ← Int32.sub_eq_add_neg]
theorem y_fin (hlp : l + 1 < p ∨ p + 23 ≤ l) {A : z_Mem} {P : t_P} (c : CP A p P) {x y z : Int32} (h4 : A.1 l 4 = -x) (h5 : A.1 l 5 = -y) (h6 : A.1 l 6 = -z) : F_X2_finish w A l p = some ((), z_wI (z_wI (z_wI A l 4 (P.1 9 - x)) l 5 (P.1 11 - y)) l 6 (P.2.2.1.1 - z)) := by
  have e9 : A.1 p 10 = P.1 9 := c.1.2.2.2.2.2.1
  have e11 : A.1 p 11 = P.1 11 := c.1.2.2.2.2.2.2.1
  have e4 : A.1 (p + 8) 4 = P.2.2.1.1 := c.2.2.1.2.1
  unfold F_X2_finish
  rw [wI_row (a := l) (b := p) (by omega), wI_row (a := l) (b := p + 8) (by omega), wI_row (a := l) (b := p + 8) (by omega), h4, h5, h6, e9, e11, e4, i_ng, i_ng, i_ng]
theorem y_stop {A : z_Mem} {T at' x : Nat} (hT : A.1 (p + 17) 5 = nI T) (h60 : T ≤ 60) {lf : Int32} (h7 : A.1 l 7 = lf) (ho : (at' = T) ∨ lf = 1) (c : Nat) {B : z_Mem} (hf : F_X2_finish w A l p = some ((), B)) : L_X2_run w l p (c + 1) A (nI at') (nI x) = some ((), B) := by
  rw [L_X2_run, hT, h7, hf, bindS]
  rcases ho with rfl | rfl
  · rw [if_pos (nI_le (Nat.le_refl _) (by omega))]
    split <;> rfl
  · rw [if_neg (by decide : ¬ (1 : Int32) = 0)]
    split
    · rfl
    · split <;> rfl
theorem y_run (hw : 100000 ≤ w) (hlp : l + 1 < p ∨ p + 23 ≤ l) {A N : z_Mem} {P : t_P} {y : List t_Y} (c : CP A p P) (b : BP (N.1 142) P) (v : VP P) (hy : P.2.2.2.2 = (true, y)) {sd : Nat} (hs : sd < 65536) : ∃ A' N' P' st ms lf, F_X2_run w A l p (nI sd) = some ((), A') ∧ F_X12_runsYears w N (nI sd) = some ((), N') ∧ CP A' p P' ∧ BP (N'.1 142) P' ∧ VP P' ∧ P'.2.2.2 = P.2.2.2 ∧ (A'.1 l 2 = st ∧ N'.1 137 33 = st) ∧ (A'.1 l 3 = ms ∧ N'.1 137 34 = ms) ∧ (A'.1 l 7 = lf ∧ N'.1 137 38 = lf) ∧ (A'.1 l 4 = P'.1 9 - P.1 9 ∧ A'.1 l 5 = P'.1 11 - P.1 11 ∧ A'.1 l 6 = P'.2.2.1.1 - P.2.2.1.1 ∧ A'.1 l 8 = 1) ∧ (N'.1 137 35 = P.1 9 ∧ N'.1 137 36 = P.1 11 ∧ N'.1 137 37 = P.2.2.1.1) ∧ (∀ x, x ≠ l → x ≠ l + 1 → (x < p ∨ p + 23 ≤ x) → A'.1 x = A.1 x) ∧ A'.2 = A.2 ∧ (∀ x, x ≠ 137 → x ≠ 142 → N'.1 x = N.1 x) ∧ (∀ k, k < 31 → N'.1 137 k = N.1 137 k) ∧ (∀ k, 103 ≤ k → N'.1 142 k = N.1 142 k) ∧ N'.2 = N.2 := by
  obtain ⟨h60, h30, hwf, hdep⟩ := row_v v hy
  have e9 : A.1 p 10 = P.1 9 := c.1.2.2.2.2.2.1
  have e11 : A.1 p 11 = P.1 11 := c.1.2.2.2.2.2.2.1
  have e4 : A.1 (p + 8) 4 = P.2.2.1.1 := c.2.2.1.2.1
  have m9 : N.1 142 9 = P.1 9 := b.1.2.2.2.2.1
  have m11 : N.1 142 11 = P.1 11 := b.1.2.2.2.2.2.1
  have m10 : N.1 142 10 = P.2.2.1.1 := b.2.2.1.2.1
  have eb : F_X2_begin w A l p (nI sd) = some ((), yB A l sd (P.1 9) (P.1 11) P.2.2.1.1) := by
    unfold F_X2_begin yB
    simp (maxSteps := 2000000) (decide := true) (disch := omega) only [e9, e11, e4, bindS, wI_row, wI_slot, wI_same, wI_2, nI_p0, false_or, nle_f, nI_cl, n_lad, n_adl, nI_add, if_true, if_false, ite_true, ite_false, ↓reduceIte]
  have hst : Lst l p (yB A l sd (P.1 9) (P.1 11) P.2.2.1.1) (yN N sd (P.1 9) (P.1 11) P.2.2.1.1) P sd 0 0 0 false := by
    unfold yB yN
    refine ⟨⟨CP_of c (fun x h1 h2 => ?_), ?_, v, hs, ?_, ?_⟩, ⟨?_, ?_⟩, ⟨?_, ?_⟩, ⟨?_, ?_⟩, ?_, by omega⟩
    · simp (maxSteps := 2000000) (decide := true) (disch := omega) only [bindS, wI_row, wI_slot, wI_same, wI_2, nI_p0, false_or, nle_f, nI_cl, n_lad, n_adl, nI_add, if_true, if_false, ite_true, ite_false, ↓reduceIte]
    · simp (maxSteps := 2000000) (decide := true) (disch := omega) only [bindS, wI_row, wI_slot, wI_same, wI_2, nI_p0, false_or, nle_f, nI_cl, n_lad, n_adl, nI_add, if_true, if_false, ite_true, ite_false, ↓reduceIte]
      exact b
    · simp (maxSteps := 2000000) (decide := true) (disch := omega) only [bindS, wI_row, wI_slot, wI_same, wI_2, nI_p0, false_or, nle_f, nI_cl, n_lad, n_adl, nI_add, if_true, if_false, ite_true, ite_false, ↓reduceIte]
    · simp (maxSteps := 2000000) (decide := true) (disch := omega) only [bindS, wI_row, wI_slot, wI_same, wI_2, nI_p0, false_or, nle_f, nI_cl, n_lad, n_adl, nI_add, if_true, if_false, ite_true, ite_false, ↓reduceIte]
    · simp (maxSteps := 2000000) (decide := true) (disch := omega) only [bindS, wI_row, wI_slot, wI_same, wI_2, nI_p0, false_or, nle_f, nI_cl, n_lad, n_adl, nI_add, if_true, if_false, ite_true, ite_false, ↓reduceIte]
    · simp (maxSteps := 2000000) (decide := true) (disch := omega) only [bindS, wI_row, wI_slot, wI_same, wI_2, nI_p0, false_or, nle_f, nI_cl, n_lad, n_adl, nI_add, if_true, if_false, ite_true, ite_false, ↓reduceIte]
    · simp (maxSteps := 2000000) (decide := true) (disch := omega) only [bindS, wI_row, wI_slot, wI_same, wI_2, nI_p0, false_or, nle_f, nI_cl, n_lad, n_adl, nI_add, if_true, if_false, ite_true, ite_false, ↓reduceIte]
    · simp (maxSteps := 2000000) (decide := true) (disch := omega) only [bindS, wI_row, wI_slot, wI_same, wI_2, nI_p0, false_or, nle_f, nI_cl, n_lad, n_adl, nI_add, if_true, if_false, ite_true, ite_false, ↓reduceIte]
    · simp (maxSteps := 2000000) (decide := true) (disch := omega) only [bindS, wI_row, wI_slot, wI_same, wI_2, nI_p0, false_or, nle_f, nI_cl, n_lad, n_adl, nI_add, if_true, if_false, ite_true, ite_false, ↓reduceIte]
    · simp (maxSteps := 2000000) (decide := true) (disch := omega) only [bindS, wI_row, wI_slot, wI_same, wI_2, nI_p0, false_or, nle_f, nI_cl, n_lad, n_adl, nI_add, if_true, if_false, ite_true, ite_false, ↓reduceIte]
    · simp (maxSteps := 2000000) (decide := true) (disch := omega) only [bindS, wI_row, wI_slot, wI_same, wI_2, nI_p0, false_or, nle_f, nI_cl, n_lad, n_adl, nI_add, if_true, if_false, ite_true, ite_false, ↓reduceIte]
  obtain ⟨A1, N1, P1, d1, st1, ms1, lf1, ov1, at1, K1, r1, r2, r3, r4, r5, r6, r7, r8, r9⟩ := seg (w := w) (by omega) hlp h60 h30 hdep 60 (by omega) 0 y.length 9 w _ _ P sd 0 0 hwf (Nat.le_refl _) (by omega) (by omega) hy hst
  have hy1 : P1.2.2.2.2 = (true, y) := by rw [r4]; exact hy
  have hst1 := r3.2.2.2.2.2
  have g4 : A1.1 l 4 = -(P.1 9) := by rw [r5.2.1 4 (by omega) (by omega) (by omega) (by omega)]; unfold yB; simp (maxSteps := 2000000) (decide := true) (disch := omega) only [bindS, wI_row, wI_slot, wI_same, wI_2, nI_p0, false_or, nle_f, nI_cl, n_lad, n_adl, nI_add, if_true, if_false, ite_true, ite_false, ↓reduceIte]
  have g5 : A1.1 l 5 = -(P.1 11) := by rw [r5.2.1 5 (by omega) (by omega) (by omega) (by omega)]; unfold yB; simp (maxSteps := 2000000) (decide := true) (disch := omega) only [bindS, wI_row, wI_slot, wI_same, wI_2, nI_p0, false_or, nle_f, nI_cl, n_lad, n_adl, nI_add, if_true, if_false, ite_true, ite_false, ↓reduceIte]
  have g6 : A1.1 l 6 = -P.2.2.1.1 := by rw [r5.2.1 6 (by omega) (by omega) (by omega) (by omega)]; unfold yB; simp (maxSteps := 2000000) (decide := true) (disch := omega) only [bindS, wI_row, wI_slot, wI_same, wI_2, nI_p0, false_or, nle_f, nI_cl, n_lad, n_adl, nI_add, if_true, if_false, ite_true, ite_false, ↓reduceIte]
  have g8 : A1.1 l 8 = 1 := by rw [r5.2.1 8 (by omega) (by omega) (by omega) (by omega)]; unfold yB; simp (maxSteps := 2000000) (decide := true) (disch := omega) only [bindS, wI_row, wI_slot, wI_same, wI_2, nI_p0, false_or, nle_f, nI_cl, n_lad, n_adl, nI_add, if_true, if_false, ite_true, ite_false, ↓reduceIte]
  have fin := y_fin (w := w) hlp r3.1.1 g4 g5 g6
  have hT := (row_c r3.1.1 hy1).1
  have ho : at1 = y.length ∨ lf1 = 1 := by
    rcases r9 with ⟨_, q, _⟩ | ⟨_, q⟩ | ⟨_, _, q⟩
    · exact Or.inl q
    · exact Or.inr q
    · exact Or.inl q
  obtain ⟨cc, hcc⟩ : ∃ cc, w = cc + 1 + K1 := ⟨w - 1 - K1, by omega⟩
  refine ⟨z_wI (z_wI (z_wI A1 l 4 (P1.1 9 - P.1 9)) l 5 (P1.1 11 - P.1 11)) l 6 (P1.2.2.1.1 - P.2.2.1.1), N1, P1, nI st1, ms1, lf1, ?_, ?_, CP_of r3.1.1 (fun x h1 h2 => by simp (maxSteps := 2000000) (decide := true) (disch := omega) only [bindS, wI_row, wI_slot, wI_same, wI_2, nI_p0, false_or, nle_f, nI_cl, n_lad, n_adl, nI_add, if_true, if_false, ite_true, ite_false, ↓reduceIte]), r3.1.2.1, r3.1.2.2.1, r4, ⟨by simp (maxSteps := 2000000) (decide := true) (disch := omega) only [r3.2.1.1, bindS, wI_row, wI_slot, wI_same, wI_2, nI_p0, false_or, nle_f, nI_cl, n_lad, n_adl, nI_add, if_true, if_false, ite_true, ite_false, ↓reduceIte], r3.2.1.2⟩, ⟨by simp (maxSteps := 2000000) (decide := true) (disch := omega) only [r3.2.2.1.1, bindS, wI_row, wI_slot, wI_same, wI_2, nI_p0, false_or, nle_f, nI_cl, n_lad, n_adl, nI_add, if_true, if_false, ite_true, ite_false, ↓reduceIte], r3.2.2.1.2⟩, ⟨by simp (maxSteps := 2000000) (decide := true) (disch := omega) only [r3.2.2.2.1.1, bindS, wI_row, wI_slot, wI_same, wI_2, nI_p0, false_or, nle_f, nI_cl, n_lad, n_adl, nI_add, if_true, if_false, ite_true, ite_false, ↓reduceIte], r3.2.2.2.1.2⟩, ⟨by simp (maxSteps := 2000000) (decide := true) (disch := omega) only [bindS, wI_row, wI_slot, wI_same, wI_2, nI_p0, false_or, nle_f, nI_cl, n_lad, n_adl, nI_add, if_true, if_false, ite_true, ite_false, ↓reduceIte], by simp (maxSteps := 2000000) (decide := true) (disch := omega) only [bindS, wI_row, wI_slot, wI_same, wI_2, nI_p0, false_or, nle_f, nI_cl, n_lad, n_adl, nI_add, if_true, if_false, ite_true, ite_false, ↓reduceIte], by simp (maxSteps := 2000000) (decide := true) (disch := omega) only [bindS, wI_row, wI_slot, wI_same, wI_2, nI_p0, false_or, nle_f, nI_cl, n_lad, n_adl, nI_add, if_true, if_false, ite_true, ite_false, ↓reduceIte], by simp (maxSteps := 2000000) (decide := true) (disch := omega) only [g8, bindS, wI_row, wI_slot, wI_same, wI_2, nI_p0, false_or, nle_f, nI_cl, n_lad, n_adl, nI_add, if_true, if_false, ite_true, ite_false, ↓reduceIte]⟩, ⟨?_, ?_, ?_⟩, fun x h1 h2 h3 => ?_, ?_, fun x h1 h2 => ?_, fun k hk => ?_, fun k hk => ?_, ?_⟩
  · have e0 := r2 (cc + 1) 0 (by omega)
    rw [← hcc, Nat.zero_add, y_stop (w := w) hT h60 r3.2.2.2.1.1 ho cc fin] at e0
    unfold F_X2_run
    rw [eb, bindS]
    exact e0
  · have e0 : L_X12_doAll w (Fb_X12_doOne w (F_X12_doAll w 9)) w (yN N sd (P.1 9) (P.1 11) P.2.2.1.1) (nI (y_steps y)) 0 = some ((), N1) := by
      rw [no_l, no_0] at r1
      exact r1
    unfold F_X12_runsYears
    rw [F_X12_doAll]
    unfold Fb_X12_doAll
    rw [m9, m11, m10, (row_b b hy).1]
    show (L_X12_doAll w (Fb_X12_doOne w (F_X12_doAll w 9)) w (yN N sd (P.1 9) (P.1 11) P.2.2.1.1) (nI (y_steps y)) 0).bind _ = _
    rw [e0, bindS]
  · rw [r5.2.2.2.2.2.1 35 (by omega) (by omega) (by omega) (by omega) (by omega)]; unfold yN; simp (maxSteps := 2000000) (decide := true) (disch := omega) only [bindS, wI_row, wI_slot, wI_same, wI_2, nI_p0, false_or, nle_f, nI_cl, n_lad, n_adl, nI_add, if_true, if_false, ite_true, ite_false, ↓reduceIte]
  · rw [r5.2.2.2.2.2.1 36 (by omega) (by omega) (by omega) (by omega) (by omega)]; unfold yN; simp (maxSteps := 2000000) (decide := true) (disch := omega) only [bindS, wI_row, wI_slot, wI_same, wI_2, nI_p0, false_or, nle_f, nI_cl, n_lad, n_adl, nI_add, if_true, if_false, ite_true, ite_false, ↓reduceIte]
  · rw [r5.2.2.2.2.2.1 37 (by omega) (by omega) (by omega) (by omega) (by omega)]; unfold yN; simp (maxSteps := 2000000) (decide := true) (disch := omega) only [bindS, wI_row, wI_slot, wI_same, wI_2, nI_p0, false_or, nle_f, nI_cl, n_lad, n_adl, nI_add, if_true, if_false, ite_true, ite_false, ↓reduceIte]
  · simp (maxSteps := 2000000) (decide := true) (disch := omega) only [bindS, wI_row, wI_slot, wI_same, wI_2, nI_p0, false_or, nle_f, nI_cl, n_lad, n_adl, nI_add, if_true, if_false, ite_true, ite_false, ↓reduceIte]
    rw [r5.1 x h1 h2 h3]
    unfold yB
    simp (maxSteps := 2000000) (decide := true) (disch := omega) only [bindS, wI_row, wI_slot, wI_same, wI_2, nI_p0, false_or, nle_f, nI_cl, n_lad, n_adl, nI_add, if_true, if_false, ite_true, ite_false, ↓reduceIte]
  · show A1.2 = A.2
    rw [r5.2.2.2.1]; rfl
  · rw [r5.2.2.2.2.1 x h1 h2]
    unfold yN
    simp (maxSteps := 2000000) (decide := true) (disch := omega) only [bindS, wI_row, wI_slot, wI_same, wI_2, nI_p0, false_or, nle_f, nI_cl, n_lad, n_adl, nI_add, if_true, if_false, ite_true, ite_false, ↓reduceIte]
  · rw [r5.2.2.2.2.2.1 k (by omega) (by omega) (by omega) (by omega) (by omega)]
    unfold yN
    simp (maxSteps := 2000000) (decide := true) (disch := omega) only [bindS, wI_row, wI_slot, wI_same, wI_2, nI_p0, false_or, nle_f, nI_cl, n_lad, n_adl, nI_add, if_true, if_false, ite_true, ite_false, ↓reduceIte]
  · rw [r5.2.2.2.2.2.2.1 k hk]
    unfold yN
    simp (maxSteps := 2000000) (decide := true) (disch := omega) only [bindS, wI_row, wI_slot, wI_same, wI_2, nI_p0, false_or, nle_f, nI_cl, n_lad, n_adl, nI_add, if_true, if_false, ite_true, ite_false, ↓reduceIte]
  · rw [r5.2.2.2.2.2.2.2]; rfl
end
section
variable {w : Nat} {M : z_Mem}
theorem z_bb1 : z_bb (z_tb true) = true ∧ ¬ z_bb (z_tb false) = true ∧ ¬ z_tb true = 0 ∧ z_tb false = 0 := by decide
theorem call_live (hw : 100000 ≤ w) (h : r_Rel M) (a : Int32) : r_ok (F_X11_live w M a) (fun M => F_X12_live w M a) := by
  have hR := h
  obtain ⟨h1, h2, h3, h4, h5, h6, ⟨P, hc, hb, hv⟩, h8⟩ := h
  have y7 : M.1 24 7 = z_tb P.2.2.2.2.1 := hc.2.2.2.2.2.2.1
  have y103 : M.1 142 103 = z_tb P.2.2.2.2.1 := hb.2.2.2.2.1
  have ref : ∀ v : Int32, F_X11_live w M a = some (-1, z_wI M 0 11 v) → F_X12_live w (z_wI M 0 11 v) a = some (-1, z_st M v) → r_ok (F_X11_live w M a) (fun M => F_X12_live w M a) := fun v e1 e2 => ⟨-1, _, _, e1, e2, r_stv v hR⟩
  by_cases g : (0 : Int32) ≤ a ∧ a ≤ 9999
  · have m1 := fun N => in_t (w := w) (M := N) (a := a) (B := 0) (C := 9999) 0 9999 rfl rfl g
    have w1 : ∀ N, F_X11_isWithin w N a 0 9999 = some (true, N) := fun N => by rw [f_wi, decide_eq_true g]
    obtain ⟨sd, _, hs, rfl⟩ := (i_rng 0 9999 (by omega) (by omega)).mp g
    cases ht : P.2.2.2.2.1
    · rw [ht] at y7 y103
      exact ref 8 (by simp (maxSteps := 2000000) (decide := true) (disch := omega) only [F_X11_live, F_X11_refuse, w1, y7, z_bb1.2.1, bindS, wI_row, wI_slot, wI_same, wI_2, nI_p0, false_or, nle_f, nI_cl, n_lad, n_adl, nI_add, if_true, if_false, ite_true, ite_false, ↓reduceIte]) (by simp (maxSteps := 2000000) (decide := true) (disch := omega) only [F_X12_live, F_X12_refuse, m1, y103, z_bb1.2.2.2, z_st, wI_wI, bindS, wI_row, wI_slot, wI_same, wI_2, nI_p0, false_or, nle_f, nI_cl, n_lad, n_adl, nI_add, if_true, if_false, ite_true, ite_false, ↓reduceIte])
    · have hy : P.2.2.2.2 = (true, P.2.2.2.2.2) := by rw [← ht]
      rw [ht] at y7 y103
      -- class first: its memory is where the reference begins
      obtain ⟨A, _, _, _, _, _, a1, _⟩ := y_run (w := w) (l := 64) (p := 7) (N := M) hw (by omega) hc hb hv hy (sd := sd) (by omega)
      have fr : (∀ x, x ≠ 64 → x ≠ 65 → (x < 7 ∨ 30 ≤ x) → A.1 x = M.1 x) ∧ A.2 = M.2 := by
        obtain ⟨A', _, _, _, _, _, b1, b2⟩ := y_run (w := w) (l := 64) (p := 7) (N := M) hw (by omega) hc hb hv hy (sd := sd) (by omega)
        rw [a1] at b1
        simp only [Option.some.injEq, Prod.mk.injEq, true_and] at b1
        subst b1
        obtain ⟨_, _, _, _, _, _, _, _, _, _, f1, f2, _⟩ := b2
        exact ⟨f1, f2⟩
      obtain ⟨A', N, P', st, ms, lf, b1, n1, c1, c2, c3, c4, ⟨s1, s2⟩, ⟨s3, s4⟩, ⟨s5, s6⟩, ⟨u1, u2, u3, u4⟩, ⟨v1, v2, v3⟩, f1, f2, f3, f4, f5, f6⟩ := y_run (w := w) (l := 64) (p := 7) (N := z_wI (z_wI (z_wI A 0 11 0) 137 1 0) 137 0 0) hw (by omega) hc (by rw [wI_row (by omega), wI_row (by omega), wI_row (by omega), fr.1 142 (by omega) (by omega) (by omega)]; exact hb) hv hy (sd := sd) (by omega)
      obtain rfl : A' = A := by
        rw [a1] at b1
        simp only [Option.some.injEq, Prod.mk.injEq, true_and] at b1
        exact b1.symm
      have f6' : N.2 = M.2 := by rw [f6]; exact fr.2
      have m9 : N.1 142 9 = P'.1 9 := c2.1.2.2.2.2.1
      have m11 : N.1 142 11 = P'.1 11 := c2.1.2.2.2.2.2.1
      have m10 : N.1 142 10 = P'.2.2.1.1 := c2.2.2.1.2.1
      have kN : ∀ x, x ≠ 0 → x ≠ 137 → x ≠ 142 → x ≠ 64 → x ≠ 65 → (x < 7 ∨ 30 ≤ x) → N.1 x = M.1 x := by
        intro x h1 h2 h3 h4 h5 h6
        rw [f3 x h2 h3]
        simp (maxSteps := 2000000) (decide := true) (disch := omega) only [bindS, wI_row, wI_slot, wI_same, wI_2, nI_p0, false_or, nle_f, nI_cl, n_lad, n_adl, nI_add, if_true, if_false, ite_true, ite_false, ↓reduceIte]
        exact fr.1 x h4 h5 h6
      have k137 : ∀ k, k ≠ 0 → k ≠ 1 → k < 31 → N.1 137 k = M.1 137 k := by
        intro k h1 h2 h3
        rw [f4 k h3]
        simp (maxSteps := 2000000) (decide := true) (disch := omega) only [bindS, wI_row, wI_slot, wI_same, wI_2, nI_p0, false_or, nle_f, nI_cl, n_lad, n_adl, nI_add, if_true, if_false, ite_true, ite_false, ↓reduceIte]
        rw [fr.1 137 (by omega) (by omega) (by omega)]
      have k0 : ∀ k, k ≠ 11 → N.1 0 k = M.1 0 k := by
        intro k h1
        rw [f3 0 (by omega) (by omega)]
        simp (maxSteps := 2000000) (decide := true) (disch := omega) only [bindS, wI_row, wI_slot, wI_same, wI_2, nI_p0, false_or, nle_f, nI_cl, n_lad, n_adl, nI_add, if_true, if_false, ite_true, ite_false, ↓reduceIte]
        rw [fr.1 0 (by omega) (by omega) (by omega)]
      have z0 : N.1 0 11 = 0 ∧ N.1 137 0 = 0 := by
        constructor
        · rw [f3 0 (by omega) (by omega)]
          simp (maxSteps := 2000000) (decide := true) (disch := omega) only [bindS, wI_row, wI_slot, wI_same, wI_2, nI_p0, false_or, nle_f, nI_cl, n_lad, n_adl, nI_add, if_true, if_false, ite_true, ite_false, ↓reduceIte]
        · rw [f4 0 (by omega)]
          simp (maxSteps := 2000000) (decide := true) (disch := omega) only [bindS, wI_row, wI_slot, wI_same, wI_2, nI_p0, false_or, nle_f, nI_cl, n_lad, n_adl, nI_add, if_true, if_false, ite_true, ite_false, ↓reduceIte]
      have n64 : N.1 64 = A'.1 64 := by
        rw [f3 64 (by omega) (by omega)]
        simp (maxSteps := 2000000) (decide := true) (disch := omega) only [bindS, wI_row, wI_slot, wI_same, wI_2, nI_p0, false_or, nle_f, nI_cl, n_lad, n_adl, nI_add, if_true, if_false, ite_true, ite_false, ↓reduceIte]
      refine ⟨st, z_wI A' 0 11 0, z_wI (z_wI (z_wI (z_wI (z_wI (z_wI N 147 0 ms) 147 1 (P'.1 9 - P.1 9)) 147 2 (P'.1 11 - P.1 11)) 147 3 (P'.2.2.1.1 - P.2.2.1.1)) 147 4 lf) 137 30 1, ?_, ?_, ?_⟩
      · simp (maxSteps := 2000000) (decide := true) (disch := omega) only [F_X11_live, F_X11_answer, w1, y7, z_bb1.1, a1, s1, bindS, wI_row, wI_slot, wI_same, wI_2, nI_p0, false_or, nle_f, nI_cl, n_lad, n_adl, nI_add, if_true, if_false, ite_true, ite_false, ↓reduceIte]
      · have y103' : A'.1 142 103 = z_tb true := by rw [fr.1 142 (by omega) (by omega) (by omega)]; exact y103
        simp (maxSteps := 2000000) (decide := true) (disch := omega) only [F_X12_live, m1, y103', z_bb1.2.2.1, n1, s2, s4, s6, m9, m11, m10, v1, v2, v3, bindS, wI_row, wI_slot, wI_same, wI_2, nI_p0, false_or, nle_f, nI_cl, n_lad, n_adl, nI_add, if_true, if_false, ite_true, ite_false, ↓reduceIte]
      · refine ⟨?_, ?_, ?_, ?_, ?_, ?_, ?_, ?_⟩
        · simp (maxSteps := 2000000) (decide := true) (disch := omega) only [z0.1, z0.2, bindS, wI_row, wI_slot, wI_same, wI_2, nI_p0, false_or, nle_f, nI_cl, n_lad, n_adl, nI_add, if_true, if_false, ite_true, ite_false, ↓reduceIte]
        · unfold r_Tr at h2 ⊢
          simp (maxSteps := 2000000) (decide := true) (disch := omega) only [bindS, wI_row, wI_slot, wI_same, wI_2, nI_p0, false_or, nle_f, nI_cl, n_lad, n_adl, nI_add, if_true, if_false, ite_true, ite_false, ↓reduceIte]
          rw [kN 3 (by omega) (by omega) (by omega) (by omega) (by omega) (by omega), kN 4 (by omega) (by omega) (by omega) (by omega) (by omega) (by omega), kN 138 (by omega) (by omega) (by omega) (by omega) (by omega) (by omega), kN 139 (by omega) (by omega) (by omega) (by omega) (by omega) (by omega), f6']
          exact h2
        · unfold r_Fr at h3 ⊢
          simp (maxSteps := 2000000) (decide := true) (disch := omega) only [bindS, wI_row, wI_slot, wI_same, wI_2, nI_p0, false_or, nle_f, nI_cl, n_lad, n_adl, nI_add, if_true, if_false, ite_true, ite_false, ↓reduceIte]
          rw [f6']
          exact h3
        · unfold r_Ta at h4 ⊢
          simp (maxSteps := 2000000) (decide := true) (disch := omega) only [bindS, wI_row, wI_slot, wI_same, wI_2, nI_p0, false_or, nle_f, nI_cl, n_lad, n_adl, nI_add, if_true, if_false, ite_true, ite_false, ↓reduceIte]
          rw [kN 5 (by omega) (by omega) (by omega) (by omega) (by omega) (by omega), k137 8 (by omega) (by omega) (by omega), kN 6 (by omega) (by omega) (by omega) (by omega) (by omega) (by omega), kN 141 (by omega) (by omega) (by omega) (by omega) (by omega) (by omega)]
          exact h4
        · unfold r_Fa at h5 ⊢
          simp (maxSteps := 2000000) (decide := true) (disch := omega) only [bindS, wI_row, wI_slot, wI_same, wI_2, nI_p0, false_or, nle_f, nI_cl, n_lad, n_adl, nI_add, if_true, if_false, ite_true, ite_false, ↓reduceIte]
          rw [k0 14 (by omega), k0 15 (by omega), k0 16 (by omega), k137 10 (by omega) (by omega) (by omega), k137 11 (by omega) (by omega) (by omega)]
          exact h5
        · right
          refine ⟨?_, ?_, ?_, ?_, ?_, ?_, ?_⟩
          · simp (maxSteps := 2000000) (decide := true) (disch := omega) only [n64, bindS, wI_row, wI_slot, wI_same, wI_2, nI_p0, false_or, nle_f, nI_cl, n_lad, n_adl, nI_add, if_true, if_false, ite_true, ite_false, ↓reduceIte]
            exact u4
          · exact wI_same
          · simp (maxSteps := 2000000) (decide := true) (disch := omega) only [n64, bindS, wI_row, wI_slot, wI_same, wI_2, nI_p0, false_or, nle_f, nI_cl, n_lad, n_adl, nI_add, if_true, if_false, ite_true, ite_false, ↓reduceIte]
            exact s3
          · simp (maxSteps := 2000000) (decide := true) (disch := omega) only [n64, bindS, wI_row, wI_slot, wI_same, wI_2, nI_p0, false_or, nle_f, nI_cl, n_lad, n_adl, nI_add, if_true, if_false, ite_true, ite_false, ↓reduceIte]
            exact u1
          · simp (maxSteps := 2000000) (decide := true) (disch := omega) only [n64, bindS, wI_row, wI_slot, wI_same, wI_2, nI_p0, false_or, nle_f, nI_cl, n_lad, n_adl, nI_add, if_true, if_false, ite_true, ite_false, ↓reduceIte]
            exact u2
          · simp (maxSteps := 2000000) (decide := true) (disch := omega) only [n64, bindS, wI_row, wI_slot, wI_same, wI_2, nI_p0, false_or, nle_f, nI_cl, n_lad, n_adl, nI_add, if_true, if_false, ite_true, ite_false, ↓reduceIte]
            exact u3
          · simp (maxSteps := 2000000) (decide := true) (disch := omega) only [n64, bindS, wI_row, wI_slot, wI_same, wI_2, nI_p0, false_or, nle_f, nI_cl, n_lad, n_adl, nI_add, if_true, if_false, ite_true, ite_false, ↓reduceIte]
            exact s5
        · refine ⟨P', CP_of c1 (fun x g1 g2 => ?_), ?_, c3⟩
          · simp (maxSteps := 2000000) (decide := true) (disch := omega) only [bindS, wI_row, wI_slot, wI_same, wI_2, nI_p0, false_or, nle_f, nI_cl, n_lad, n_adl, nI_add, if_true, if_false, ite_true, ite_false, ↓reduceIte]
            rw [f3 x (by omega) (by omega)]
            simp (maxSteps := 2000000) (decide := true) (disch := omega) only [bindS, wI_row, wI_slot, wI_same, wI_2, nI_p0, false_or, nle_f, nI_cl, n_lad, n_adl, nI_add, if_true, if_false, ite_true, ite_false, ↓reduceIte]
          · simp (maxSteps := 2000000) (decide := true) (disch := omega) only [bindS, wI_row, wI_slot, wI_same, wI_2, nI_p0, false_or, nle_f, nI_cl, n_lad, n_adl, nI_add, if_true, if_false, ite_true, ite_false, ↓reduceIte]
            exact c2
        · obtain ⟨n, hn, q1, q2, q3⟩ := h8
          refine ⟨n, hn, ?_, ?_, fun i hi => ?_⟩
          · simp (maxSteps := 2000000) (decide := true) (disch := omega) only [bindS, wI_row, wI_slot, wI_same, wI_2, nI_p0, false_or, nle_f, nI_cl, n_lad, n_adl, nI_add, if_true, if_false, ite_true, ite_false, ↓reduceIte]
            rw [k0 10 (by omega)]; exact q1
          · simp (maxSteps := 2000000) (decide := true) (disch := omega) only [bindS, wI_row, wI_slot, wI_same, wI_2, nI_p0, false_or, nle_f, nI_cl, n_lad, n_adl, nI_add, if_true, if_false, ite_true, ite_false, ↓reduceIte]
            rw [k137 23 (by omega) (by omega) (by omega)]; exact q2
          · obtain ⟨Q, d1, d2, d3⟩ := q3 i hi
            refine ⟨Q, CP_of d1 (fun x g1 g2 => ?_), ?_, d3⟩
            · simp (maxSteps := 2000000) (decide := true) (disch := omega) only [bindS, wI_row, wI_slot, wI_same, wI_2, nI_p0, false_or, nle_f, nI_cl, n_lad, n_adl, nI_add, if_true, if_false, ite_true, ite_false, ↓reduceIte]
              exact kN x (by omega) (by omega) (by omega) (by omega) (by omega) (by omega)
            · refine BP_ext d2 d3 (fun k hk => ?_)
              simp (maxSteps := 2000000) (decide := true) (disch := omega) only [bindS, wI_row, wI_slot, wI_same, wI_2, nI_p0, false_or, nle_f, nI_cl, n_lad, n_adl, nI_add, if_true, if_false, ite_true, ite_false, ↓reduceIte]
              rw [f5 _ (by omega)]
              simp (maxSteps := 2000000) (decide := true) (disch := omega) only [bindS, wI_row, wI_slot, wI_same, wI_2, nI_p0, false_or, nle_f, nI_cl, n_lad, n_adl, nI_add, if_true, if_false, ite_true, ite_false, ↓reduceIte]
              rw [fr.1 142 (by omega) (by omega) (by omega)]
  · have m1 := fun N => in_f (w := w) (M := N) (a := a) (B := 0) (C := 9999) 0 9999 rfl rfl g
    have w1 : ∀ N, F_X11_isWithin w N a 0 9999 = some (false, N) := fun N => by rw [f_wi, decide_eq_false g]
    exact ref 5 (by simp (maxSteps := 2000000) (decide := true) (disch := omega) only [F_X11_live, F_X11_refuse, w1, Bool.false_eq_true, bindS, wI_row, wI_slot, wI_same, wI_2, nI_p0, false_or, nle_f, nI_cl, n_lad, n_adl, nI_add, if_true, if_false, ite_true, ite_false, ↓reduceIte]) (by simp (maxSteps := 2000000) (decide := true) (disch := omega) only [F_X12_live, F_X12_refuse, m1, z_st, wI_wI, Bool.false_eq_true, bindS, wI_row, wI_slot, wI_same, wI_2, nI_p0, false_or, nle_f, nI_cl, n_lad, n_adl, nI_add, if_true, if_false, ite_true, ite_false, ↓reduceIte])
end
