/-! ===== mark, back, chestIn, tollIn ===== -/
theorem BP_ext {f g : Nat → Int32} {P : t_P} (h : BP f P) (hv : VP P) (k : ∀ k, k < 375 → g k = f k) : BP g P := by
  obtain ⟨hS, hR, hD, hC, hY⟩ := h
  obtain ⟨vS, vR, vD, vC, vY⟩ := hv
  exact ⟨BS_of hS (fun j a b _ => k j (by omega)), BR_of hR vR (k 0 (by omega)) (fun j a b => k j (by omega)), BD_of hD vD (k 1 (by omega)) (k 10 (by omega)) (fun j a b => k j (by omega)), BC_of hC vC (fun j a b => k j (by omega)) (fun j a b => k j (by omega)), BY_of hY (fun j a b => k j (by omega)) vY⟩
theorem r_gen {M M' : z_Mem} (h : r_Rel M) (hs : M'.1 0 11 = M'.1 137 0) (k0 : ∀ k, k = 14 ∨ k = 15 ∨ k = 16 → M'.1 0 k = M.1 0 k) (k1 : ∀ k, k = 8 ∨ k = 10 ∨ k = 11 ∨ k = 30 → M'.1 137 k = M.1 137 k) (ka : ∀ a, a = 3 ∨ a = 4 ∨ a = 5 ∨ a = 6 ∨ a = 64 ∨ a = 138 ∨ a = 139 ∨ a = 141 ∨ a = 147 → M'.1 a = M.1 a) (kl : M'.2 = M.2) (hp : r_Pa M') (hm : r_Ma M') : r_Rel M' := by
  obtain ⟨h1, h2, h3, h4, h5, h6, h7, h8⟩ := h
  refine ⟨hs, ?_, ?_, ?_, ?_, ?_, hp, hm⟩
  · unfold r_Tr at h2 ⊢
    rw [ka 3 (by omega), ka 4 (by omega), ka 138 (by omega), ka 139 (by omega), kl]
    exact h2
  · unfold r_Fr at h3 ⊢
    rw [kl]
    exact h3
  · unfold r_Ta at h4 ⊢
    rw [ka 5 (by omega), k1 8 (by omega), ka 6 (by omega), ka 141 (by omega)]
    exact h4
  · unfold r_Fa at h5 ⊢
    rw [k0 14 (by omega), k0 15 (by omega), k0 16 (by omega), k1 10 (by omega), k1 11 (by omega)]
    exact h5
  · unfold r_Li at h6 ⊢
    rw [ka 64 (by omega), ka 147 (by omega), k1 30 (by omega)]
    exact h6
section
variable {w : Nat}
theorem ml_copy {s t : Nat} (hs : s ≤ 4) (ht : t ≤ 4) (hne : s ≠ t) (f : Nat → Int32) : ∀ (m i c : Nat) (M : z_Mem), i + m = 375 → m < c → (∀ k, M.1 142 k = if 375 * t ≤ k ∧ k < 375 * t + i then f (375 * s + (k - 375 * t)) else f k) → ∃ M', L_X12_copy w c M (nI s) (nI t) (nI i) = some ((), M') ∧ (∀ a, a ≠ 142 → M'.1 a = M.1 a) ∧ M'.2 = M.2 ∧ ∀ k, M'.1 142 k = if 375 * t ≤ k ∧ k < 375 * t + 375 then f (375 * s + (k - 375 * t)) else f k := by
  intro m
  induction m with
  | zero =>
    intro i c M h1 h2 h3
    obtain ⟨c, rfl⟩ : ∃ x, c = x + 1 := ⟨c - 1, by omega⟩
    obtain rfl : i = 375 := by omega
    refine ⟨M, ?_, fun _ _ => rfl, rfl, h3⟩
    rw [L_X12_copy, if_pos (by decide)]
  | succ m ih =>
    intro i c M h1 h2 h3
    obtain ⟨c, rfl⟩ : ∃ x, c = x + 1 := ⟨c - 1, by omega⟩
    have e0 : M.1 142 (375 * s + i) = f (375 * s + i) := by rw [h3, if_neg (by omega)]
    obtain ⟨M', r1, r2, r3, r4⟩ := ih (i + 1) c (z_wI M 142 (375 * t + i) (f (375 * s + i))) (by omega) (by omega) (fun k => by
      rw [wI_rd, h3]
      by_cases e : k = 375 * t + i
      · rw [if_pos ⟨rfl, e⟩, if_pos (by omega), e, show 375 * s + (375 * t + i - 375 * t) = 375 * s + i by omega]
      · rw [if_neg (by omega)]
        by_cases e2 : 375 * t ≤ k ∧ k < 375 * t + i
        · rw [if_pos e2, if_pos (by omega)]
        · rw [if_neg e2, if_neg (by omega)])
    refine ⟨M', ?_, fun a ha => (r2 a ha).trans (wI_row ha), r3, r4⟩
    rw [L_X12_copy, if_neg (show ¬ (375 : Int32) ≤ nI i from nI_ge (b := 375) (by omega) (by omega))]
    simp only [show (375 : Int32) = nI 375 from rfl, g_nmul]
    simp (maxSteps := 2000000) (decide := true) (disch := omega) only [nI_11, e0, bindS, wI_row, wI_slot, wI_same, wI_2, nI_p0, false_or, nle_f, nI_cl, n_lad, n_adl, nI_add, if_true, if_false, ite_true, ite_false, ↓reduceIte]
    exact r1
theorem f_copy12 (hw : 1000 ≤ w) {s t : Nat} (hs : s ≤ 4) (ht : t ≤ 4) (hne : s ≠ t) (M : z_Mem) : ∃ M', F_X12_copy w M (nI s) (nI t) = some ((), M') ∧ (∀ a, a ≠ 142 → M'.1 a = M.1 a) ∧ M'.2 = M.2 ∧ ∀ k, M'.1 142 k = if 375 * t ≤ k ∧ k < 375 * t + 375 then M.1 142 (375 * s + (k - 375 * t)) else M.1 142 k :=
  ml_copy hs ht hne (M.1 142) 375 0 w M (by omega) (by omega) (fun k => by rw [if_neg (by omega)])
theorem z_mpN {n : Nat} (h : n < 2 ^ 31) : z_mp (nI n) = 68 + 23 * n := by unfold z_mp; rw [nI_clamp h]
variable {M : z_Mem}
theorem call_mark (hw : 1000 ≤ w) (h : r_Rel M) : r_ok (F_X11_mark w M) (F_X12_mark w) := by
  obtain ⟨P, hc, hb, hv⟩ := h.2.2.2.2.2.2.1
  obtain ⟨n, hn, a0, b0, hm⟩ := h.2.2.2.2.2.2.2
  by_cases g : n < 3
  · have g1 : nI n < (3 : Int32) := nI_lt (b := 3) g (by omega)
    have g2 : ¬ nI n = (3 : Int32) := fun e => by
      have := (nI_eq (b := 3) (by omega) (by omega)).mp e
      omega
    obtain ⟨A, a1, a2, a3⟩ := c_copy (w := w) (p := 68 + 23 * n) (q := 7) (by omega) hc hv hw
    have A0 : A.1 0 10 = nI n := by rw [a3.1 0 (by omega)]; exact a0
    have kA : ∀ x, x < 68 + 23 * n ∨ 68 + 23 * n + 23 ≤ x → A.1 x = M.1 x := fun x hx => a3.1 x (by omega)
    obtain ⟨N, n1, n2, n3, n4⟩ := f_copy12 (w := w) hw (s := 0) (t := n + 1) (by omega) (by omega) (by omega) (z_wI (z_wI (z_wI (z_wI (z_wI A 0 10 (nI (n + 1))) 0 11 0) 137 1 0) 137 0 0) 137 23 (nI (n + 1)))
    have n1' : F_X12_copy w (z_wI (z_wI (z_wI (z_wI (z_wI A 0 10 (nI (n + 1))) 0 11 0) 137 1 0) 137 0 0) 137 23 (nI (n + 1))) 0 (nI (n + 1)) = _ := n1
    have e142 : (z_wI (z_wI (z_wI (z_wI (z_wI A 0 10 (nI (n + 1))) 0 11 0) 137 1 0) 137 0 0) 137 23 (nI (n + 1))).1 142 = M.1 142 := by
      simp (maxSteps := 2000000) (decide := true) (disch := omega) only [kA, bindS, wI_row, wI_slot, wI_same, wI_2, nI_p0, false_or, nle_f, nI_cl, n_lad, n_adl, nI_add, if_true, if_false, ite_true, ite_false, ↓reduceIte]
    rw [e142] at n4
    have N23 : N.1 137 23 = nI (n + 1) := by
      rw [n2 137 (by omega)]
      simp (maxSteps := 2000000) (decide := true) (disch := omega) only [bindS, wI_row, wI_slot, wI_same, wI_2, nI_p0, false_or, nle_f, nI_cl, n_lad, n_adl, nI_add, if_true, if_false, ite_true, ite_false, ↓reduceIte]
    have kN : ∀ x, x ≠ 0 → x ≠ 137 → x ≠ 142 → x < 68 + 23 * n ∨ 68 + 23 * n + 23 ≤ x → N.1 x = M.1 x := by
      intro x h1 h2 h3 h4
      rw [n2 x h3]
      simp (maxSteps := 2000000) (decide := true) (disch := omega) only [kA, bindS, wI_row, wI_slot, wI_same, wI_2, nI_p0, false_or, nle_f, nI_cl, n_lad, n_adl, nI_add, if_true, if_false, ite_true, ite_false, ↓reduceIte]
    refine ⟨nI (n + 1), z_wI (z_wI A 0 10 (nI (n + 1))) 0 11 0, N, ?_, ?_, r_gen h ?_ ?_ ?_ ?_ ?_ ⟨P, ?_, ?_, hv⟩ ⟨n + 1, by omega, ?_, N23, fun i hi => ?_⟩⟩
    · have mp := z_mpN (n := n) (by omega)
      simp (maxSteps := 2000000) (decide := true) (disch := omega) only [F_X11_mark, F_X11_answer, a0, g1, mp, a1, A0, nI_11, bindS, wI_row, wI_slot, wI_same, wI_2, nI_p0, false_or, nle_f, nI_cl, n_lad, n_adl, nI_add, if_true, if_false, ite_true, ite_false, ↓reduceIte]
    · have b1 : (z_wI (z_wI A 0 10 (nI (n + 1))) 0 11 0).1 137 23 = nI n := by
        simp (maxSteps := 2000000) (decide := true) (disch := omega) only [kA, bindS, wI_row, wI_slot, wI_same, wI_2, nI_p0, false_or, nle_f, nI_cl, n_lad, n_adl, nI_add, if_true, if_false, ite_true, ite_false, ↓reduceIte]
        exact b0
      unfold F_X12_mark
      rw [b1, if_neg g2, nI_11, n1', bindS, N23]
    · rw [n2 0 (by omega), n2 137 (by omega)]
      simp (maxSteps := 2000000) (decide := true) (disch := omega) only [bindS, wI_row, wI_slot, wI_same, wI_2, nI_p0, false_or, nle_f, nI_cl, n_lad, n_adl, nI_add, if_true, if_false, ite_true, ite_false, ↓reduceIte]
    · intro k hk
      rw [n2 0 (by omega)]
      simp (maxSteps := 2000000) (decide := true) (disch := omega) only [kA, bindS, wI_row, wI_slot, wI_same, wI_2, nI_p0, false_or, nle_f, nI_cl, n_lad, n_adl, nI_add, if_true, if_false, ite_true, ite_false, ↓reduceIte]
    · intro k hk
      rw [n2 137 (by omega)]
      simp (maxSteps := 2000000) (decide := true) (disch := omega) only [kA, bindS, wI_row, wI_slot, wI_same, wI_2, nI_p0, false_or, nle_f, nI_cl, n_lad, n_adl, nI_add, if_true, if_false, ite_true, ite_false, ↓reduceIte]
    · intro x hx
      exact kN x (by omega) (by omega) (by omega) (by omega)
    · rw [n3]
      exact a3.2
    · exact CP_of hc (fun x h1 h2 => kN x (by omega) (by omega) (by omega) (by omega))
    · exact BP_ext hb hv (fun k hk => by rw [n4, if_neg (by omega)])
    · rw [n2 0 (by omega)]
      simp (maxSteps := 2000000) (decide := true) (disch := omega) only [bindS, wI_row, wI_slot, wI_same, wI_2, nI_p0, false_or, nle_f, nI_cl, n_lad, n_adl, nI_add, if_true, if_false, ite_true, ite_false, ↓reduceIte]
    · by_cases e : i = n
      · subst e
        refine ⟨P, CP_of a2 (fun x h1 h2 => ?_), BP_ext hb hv (fun k hk => ?_), hv⟩
        · rw [n2 x (by omega)]
          simp (maxSteps := 2000000) (decide := true) (disch := omega) only [bindS, wI_row, wI_slot, wI_same, wI_2, nI_p0, false_or, nle_f, nI_cl, n_lad, n_adl, nI_add, if_true, if_false, ite_true, ite_false, ↓reduceIte]
        · rw [n4, if_pos (by omega), show 375 * 0 + (375 * (i + 1) + k - 375 * (i + 1)) = k by omega]
      · obtain ⟨P', c1, c2, c3⟩ := hm i (by omega)
        refine ⟨P', CP_of c1 (fun x h1 h2 => kN x (by omega) (by omega) (by omega) (by omega)), BP_ext c2 c3 (fun k hk => ?_), c3⟩
        rw [n4, if_neg (by omega)]
  · obtain rfl : n = 3 := by omega
    have x3 : nI 3 = 3 := rfl
    refine ⟨-1, z_wI M 0 11 7, z_st M 7, ?_, ?_, r_stv 7 h⟩
    · simp (maxSteps := 2000000) (decide := true) (disch := omega) only [F_X11_mark, F_X11_refuse, a0, x3, bindS, wI_row, wI_slot, wI_same, wI_2, nI_p0, false_or, nle_f, nI_cl, n_lad, n_adl, nI_add, if_true, if_false, ite_true, ite_false, ↓reduceIte]
    · simp (maxSteps := 2000000) (decide := true) (disch := omega) only [F_X12_mark, F_X12_refuse, b0, x3, z_st, wI_wI, bindS, wI_row, wI_slot, wI_same, wI_2, nI_p0, false_or, nle_f, nI_cl, n_lad, n_adl, nI_add, if_true, if_false, ite_true, ite_false, ↓reduceIte]
theorem call_back (hw : 1000 ≤ w) (h : r_Rel M) : r_ok (F_X11_back w M) (F_X12_back w) := by
  obtain ⟨n, hn, a0, b0, hm⟩ := h.2.2.2.2.2.2.2
  by_cases g : 0 < n
  · obtain ⟨m, rfl⟩ : ∃ m, n = m + 1 := ⟨n - 1, by omega⟩
    obtain ⟨P, c1, c2, c3⟩ := hm m (by omega)
    have g1 : (0 : Int32) < nI (m + 1) := nI_lt (a := 0) g (by omega)
    have g2 : ¬ nI (m + 1) = (0 : Int32) := fun e => by
      have := (nI_eq (b := 0) (by omega) (by omega)).mp e
      omega
    have g3 : nI (m + 1) - 1 = nI m := pk_sub (b := 1) (by omega)
    have c1' : CP (z_wI M 0 10 (nI m)) (68 + 23 * m) P := CP_of c1 (fun x h1 h2 => wI_row (by omega))
    obtain ⟨A, a1, a2, a3⟩ := c_copy (w := w) (p := 7) (q := 68 + 23 * m) (by omega) c1' c3 hw
    have A0 : A.1 0 10 = nI m := by rw [a3.1 0 (by omega)]; exact wI_same
    have kA : ∀ x, x ≠ 0 → x < 7 ∨ 30 ≤ x → A.1 x = M.1 x := fun x h0 hx => by rw [a3.1 x (by omega), wI_row h0]
    have kA0 : ∀ k, k ≠ 10 → A.1 0 k = M.1 0 k := fun k h0 => by rw [a3.1 0 (by omega), wI_slot h0]
    obtain ⟨N, n1, n2, n3, n4⟩ := f_copy12 (w := w) hw (s := m + 1) (t := 0) (by omega) (by omega) (by omega) (z_wI (z_wI (z_wI A 0 11 0) 137 1 0) 137 0 0)
    have n1' : F_X12_copy w (z_wI (z_wI (z_wI A 0 11 0) 137 1 0) 137 0 0) (nI (m + 1)) 0 = _ := n1
    have e142 : (z_wI (z_wI (z_wI A 0 11 0) 137 1 0) 137 0 0).1 142 = M.1 142 := by
      simp (maxSteps := 2000000) (decide := true) (disch := omega) only [kA, bindS, wI_row, wI_slot, wI_same, wI_2, nI_p0, false_or, nle_f, nI_cl, n_lad, n_adl, nI_add, if_true, if_false, ite_true, ite_false, ↓reduceIte]
    rw [e142] at n4
    have N23 : N.1 137 23 = nI (m + 1) := by
      rw [n2 137 (by omega)]
      simp (maxSteps := 2000000) (decide := true) (disch := omega) only [kA, bindS, wI_row, wI_slot, wI_same, wI_2, nI_p0, false_or, nle_f, nI_cl, n_lad, n_adl, nI_add, if_true, if_false, ite_true, ite_false, ↓reduceIte]
      exact b0
    have kN : ∀ x, x ≠ 0 → x ≠ 137 → x ≠ 142 → x < 7 ∨ 30 ≤ x → N.1 x = M.1 x := by
      intro x h1 h2 h3 h4
      rw [n2 x h3]
      simp (maxSteps := 2000000) (decide := true) (disch := omega) only [kA, bindS, wI_row, wI_slot, wI_same, wI_2, nI_p0, false_or, nle_f, nI_cl, n_lad, n_adl, nI_add, if_true, if_false, ite_true, ite_false, ↓reduceIte]
    refine ⟨nI m, z_wI A 0 11 0, z_wI N 137 23 (nI m), ?_, ?_, r_gen h ?_ ?_ ?_ ?_ ?_ ⟨P, ?_, ?_, c3⟩ ⟨m, by omega, ?_, ?_, fun i hi => ?_⟩⟩
    · have mp := z_mpN (n := m) (by omega)
      simp (maxSteps := 2000000) (decide := true) (disch := omega) only [F_X11_back, F_X11_answer, a0, g1, g3, mp, a1, A0, bindS, wI_row, wI_slot, wI_same, wI_2, nI_p0, false_or, nle_f, nI_cl, n_lad, n_adl, nI_add, if_true, if_false, ite_true, ite_false, ↓reduceIte]
    · have b1 : (z_wI A 0 11 0).1 137 23 = nI (m + 1) := by
        simp (maxSteps := 2000000) (decide := true) (disch := omega) only [kA, bindS, wI_row, wI_slot, wI_same, wI_2, nI_p0, false_or, nle_f, nI_cl, n_lad, n_adl, nI_add, if_true, if_false, ite_true, ite_false, ↓reduceIte]
        exact b0
      unfold F_X12_back
      rw [b1, if_neg g2, n1', bindS, N23, g3]
    · simp (maxSteps := 2000000) (decide := true) (disch := omega) only [n2, bindS, wI_row, wI_slot, wI_same, wI_2, nI_p0, false_or, nle_f, nI_cl, n_lad, n_adl, nI_add, if_true, if_false, ite_true, ite_false, ↓reduceIte]
    · intro k hk
      simp (maxSteps := 2000000) (decide := true) (disch := omega) only [n2, kA0, bindS, wI_row, wI_slot, wI_same, wI_2, nI_p0, false_or, nle_f, nI_cl, n_lad, n_adl, nI_add, if_true, if_false, ite_true, ite_false, ↓reduceIte]
    · intro k hk
      simp (maxSteps := 2000000) (decide := true) (disch := omega) only [n2, kA, bindS, wI_row, wI_slot, wI_same, wI_2, nI_p0, false_or, nle_f, nI_cl, n_lad, n_adl, nI_add, if_true, if_false, ite_true, ite_false, ↓reduceIte]
    · intro x hx
      rw [wI_row (by omega)]
      exact kN x (by omega) (by omega) (by omega) (by omega)
    · rw [wI_2, n3]
      exact a3.2
    · refine CP_of a2 (fun x h1 h2 => ?_)
      rw [wI_row (by omega), n2 x (by omega)]
      simp (maxSteps := 2000000) (decide := true) (disch := omega) only [bindS, wI_row, wI_slot, wI_same, wI_2, nI_p0, false_or, nle_f, nI_cl, n_lad, n_adl, nI_add, if_true, if_false, ite_true, ite_false, ↓reduceIte]
    · rw [wI_row (by omega)]
      refine BP_ext c2 c3 (fun k hk => ?_)
      rw [n4, if_pos (by omega), show k - 375 * 0 = k by omega]
    · rw [wI_row (by omega), n2 0 (by omega)]
      simp (maxSteps := 2000000) (decide := true) (disch := omega) only [A0, bindS, wI_row, wI_slot, wI_same, wI_2, nI_p0, false_or, nle_f, nI_cl, n_lad, n_adl, nI_add, if_true, if_false, ite_true, ite_false, ↓reduceIte]
    · exact wI_same
    · obtain ⟨P', d1, d2, d3⟩ := hm i (by omega)
      refine ⟨P', CP_of d1 (fun x h1 h2 => ?_), ?_, d3⟩
      · rw [wI_row (by omega)]
        exact kN x (by omega) (by omega) (by omega) (by omega)
      · rw [wI_row (by omega)]
        refine BP_ext d2 d3 (fun k hk => ?_)
        rw [n4, if_neg (by omega)]
  · obtain rfl : n = 0 := by omega
    have x3 : nI 0 = 0 := rfl
    refine ⟨-1, z_wI M 0 11 8, z_st M 8, ?_, ?_, r_stv 8 h⟩
    · simp (maxSteps := 2000000) (decide := true) (disch := omega) only [F_X11_back, F_X11_refuse, a0, x3, bindS, wI_row, wI_slot, wI_same, wI_2, nI_p0, false_or, nle_f, nI_cl, n_lad, n_adl, nI_add, if_true, if_false, ite_true, ite_false, ↓reduceIte]
    · simp (maxSteps := 2000000) (decide := true) (disch := omega) only [F_X12_back, F_X12_refuse, b0, x3, z_st, wI_wI, bindS, wI_row, wI_slot, wI_same, wI_2, nI_p0, false_or, nle_f, nI_cl, n_lad, n_adl, nI_add, if_true, if_false, ite_true, ite_false, ↓reduceIte]
/-! months ahead -/
theorem ge103 {k : Nat} (h : k < 103) : ¬ (103 : Int32) ≤ nI k := nI_ge (b := 103) h (by omega)
theorem ml_keeps : ∀ (m i c : Nat) (M : z_Mem), i + m = 103 → m < c → ∃ M', L_X12_keeps w c M (nI i) = some ((), M') ∧ (∀ a, a ≠ 143 → M'.1 a = M.1 a) ∧ M'.2 = M.2 ∧ (∀ k, i ≤ k → k < 103 → M'.1 143 k = M.1 142 k) ∧ ∀ k, k < i → M'.1 143 k = M.1 143 k := by
  intro m
  induction m with
  | zero =>
    intro i c M h1 h2
    obtain ⟨c, rfl⟩ : ∃ x, c = x + 1 := ⟨c - 1, by omega⟩
    obtain rfl : i = 103 := by omega
    refine ⟨M, ?_, fun _ _ => rfl, rfl, fun k h1 h2 => by omega, fun _ _ => rfl⟩
    rw [L_X12_keeps, if_pos (by decide)]
  | succ m ih =>
    intro i c M h1 h2
    obtain ⟨c, rfl⟩ : ∃ x, c = x + 1 := ⟨c - 1, by omega⟩
    obtain ⟨M', r1, r2, r3, r4, r5⟩ := ih (i + 1) c (z_wI M 143 i (M.1 142 i)) (by omega) (by omega)
    refine ⟨M', ?_, fun a ha => (r2 a ha).trans (wI_row ha), r3, fun k h3 h4 => ?_, fun k h3 => ?_⟩
    · rw [L_X12_keeps, if_neg (ge103 (by omega))]
      simp (maxSteps := 2000000) (decide := true) (disch := omega) only [nI_11, bindS, wI_row, wI_slot, wI_same, wI_2, nI_p0, false_or, nle_f, nI_cl, n_lad, n_adl, nI_add, if_true, if_false, ite_true, ite_false, ↓reduceIte]
      exact r1
    · by_cases e : k = i
      · subst e
        rw [r5 k (by omega)]
        exact wI_same
      · rw [r4 k (by omega) h4]
        exact congrFun (wI_row (by omega)) k
    · rw [r5 k (by omega)]
      exact wI_slot (by omega)
theorem ml_rest : ∀ (m i c : Nat) (M : z_Mem), i + m = 103 → m < c → ∃ M', L_X12_restores w c M (nI i) = some ((), M') ∧ (∀ a, a ≠ 142 → M'.1 a = M.1 a) ∧ M'.2 = M.2 ∧ (∀ k, i ≤ k → k < 103 → M'.1 142 k = M.1 143 k) ∧ ∀ k, k < i ∨ 103 ≤ k → M'.1 142 k = M.1 142 k := by
  intro m
  induction m with
  | zero =>
    intro i c M h1 h2
    obtain ⟨c, rfl⟩ : ∃ x, c = x + 1 := ⟨c - 1, by omega⟩
    obtain rfl : i = 103 := by omega
    refine ⟨M, ?_, fun _ _ => rfl, rfl, fun k h1 h2 => by omega, fun _ _ => rfl⟩
    rw [L_X12_restores, if_pos (by decide)]
  | succ m ih =>
    intro i c M h1 h2
    obtain ⟨c, rfl⟩ : ∃ x, c = x + 1 := ⟨c - 1, by omega⟩
    obtain ⟨M', r1, r2, r3, r4, r5⟩ := ih (i + 1) c (z_wI M 142 i (M.1 143 i)) (by omega) (by omega)
    refine ⟨M', ?_, fun a ha => (r2 a ha).trans (wI_row ha), r3, fun k h3 h4 => ?_, fun k h3 => ?_⟩
    · rw [L_X12_restores, if_neg (ge103 (by omega))]
      simp (maxSteps := 2000000) (decide := true) (disch := omega) only [nI_11, bindS, wI_row, wI_slot, wI_same, wI_2, nI_p0, false_or, nle_f, nI_cl, n_lad, n_adl, nI_add, if_true, if_false, ite_true, ite_false, ↓reduceIte]
      exact r1
    · by_cases e : k = i
      · subst e
        rw [r5 k (by omega)]
        exact wI_same
      · rw [r4 k (by omega) h4]
        exact congrFun (wI_row (by omega)) k
    · rw [r5 k (by omega)]
      exact wI_slot (by omega)
theorem f_keeps (hw : 1000 ≤ w) (M : z_Mem) : ∃ M', F_X12_keeps w M = some ((), M') ∧ (∀ a, a ≠ 143 → M'.1 a = M.1 a) ∧ M'.2 = M.2 ∧ ∀ k, k < 103 → M'.1 143 k = M.1 142 k := by
  obtain ⟨M', r1, r2, r3, r4, _⟩ := ml_keeps (w := w) 103 0 w M (by omega) (by omega)
  exact ⟨M', r1, r2, r3, fun k hk => r4 k (by omega) hk⟩
/-- what was kept comes back -/
theorem f_rest (hw : 1000 ≤ w) {M A B : z_Mem} (h2 : ∀ a, a ≠ 143 → A.1 a = M.1 a) (h3 : A.2 = M.2) (h4 : ∀ k, k < 103 → A.1 143 k = M.1 142 k) (hk : Km A B) : ∃ C, F_X12_restores w B = some ((), C) ∧ (∀ a, a ≠ 143 → C.1 a = M.1 a) ∧ C.2 = M.2 ∧ ∀ k, k < 103 → C.1 143 k = M.1 142 k := by
  obtain ⟨C, r1, r2, r3, r4, r5⟩ := ml_rest (w := w) 103 0 w B (by omega) (by omega)
  refine ⟨C, r1, fun a ha => ?_, ?_, fun k hk2 => ?_⟩
  · by_cases e : a = 142
    · subst e
      funext k
      by_cases g : k < 103
      · rw [r4 k (by omega) g, hk.1 143 (by omega), h4 k g]
      · rw [r5 k (by omega), hk.2.1 k (by omega), h2 142 (by omega)]
    · rw [r2 a e, hk.1 a e, h2 a ha]
  · rw [r3, hk.2.2, h3]
  · rw [r2 143 (by omega), hk.1 143 (by omega), h4 k hk2]
theorem cl_chestIn (hw : 1000 ≤ w) {s : Nat} (hs : s < 2) : ∀ (m i c : Nat) (M : z_Mem) (P : t_P), i + m ≤ 60 → m < c → CP M 30 P → VP P → ∃ B, L_X11_chestIn w c M (nI s) (nI (i + m)) (nI i) = some ((p_iter m P).1 (12 + s), z_wI B 0 11 0) ∧ Kc 30 M B := by
  intro m
  induction m with
  | zero =>
    intro i c M P h1 h2 h hv
    obtain ⟨c, rfl⟩ : ∃ x, c = x + 1 := ⟨c - 1, by omega⟩
    refine ⟨M, ?_, Kc_r⟩
    have e : M.1 31 s = P.1 (12 + s) := by
      rcases (show s = 0 ∨ s = 1 by omega) with rfl | rfl
      · exact h.1.2.2.2.2.2.2.2.1
      · exact h.1.2.2.2.2.2.2.2.2
    rw [L_X11_chestIn, if_pos (nI_le (by omega) (by omega))]
    simp (maxSteps := 2000000) (decide := true) (disch := omega) only [F_X11_answer, e, bindS, wI_row, wI_slot, wI_same, wI_2, nI_p0, false_or, nle_f, nI_cl, n_lad, n_adl, nI_add, if_true, if_false, ite_true, ite_false, ↓reduceIte]
    rfl
  | succ m ih =>
    intro i c M P h1 h2 h hv
    obtain ⟨c, rfl⟩ : ∃ x, c = x + 1 := ⟨c - 1, by omega⟩
    obtain ⟨N, n1, n2, n3⟩ := c_pass (w := w) h hv hw
    obtain ⟨B, r1, r2⟩ := ih (i + 1) c N (p_pass P) (by omega) (by omega) n2 (v_pass hv)
    refine ⟨B, ?_, Kc_t n3 r2⟩
    rw [L_X11_chestIn, if_neg (nI_ge (by omega) (by omega)), n1, bindS, nI_11, show i + (m + 1) = i + 1 + m by omega]
    exact r1
theorem ml_chestIn (hw : 1000 ≤ w) {s : Nat} (hs : s < 2) : ∀ (m i c : Nat) (M : z_Mem) (P : t_P), i + m ≤ 60 → m < c → BP (M.1 142) P → VP P → ∃ B, Km M B ∧ ∀ C, F_X12_restores w B = some ((), C) → L_X12_chestIn w c M (nI s) (nI (i + m)) (nI i) = some ((p_iter m P).1 (12 + s), C) := by
  intro m
  induction m with
  | zero =>
    intro i c M P h1 h2 h hv
    obtain ⟨c, rfl⟩ : ∃ x, c = x + 1 := ⟨c - 1, by omega⟩
    refine ⟨M, Km_r, fun C hC => ?_⟩
    have e : M.1 142 (12 + s) = P.1 (12 + s) := by
      rcases (show s = 0 ∨ s = 1 by omega) with rfl | rfl
      · exact h.1.2.2.2.2.2.2.1
      · exact h.1.2.2.2.2.2.2.2.1
    rw [L_X12_chestIn, if_pos (nI_le (by omega) (by omega))]
    simp (maxSteps := 2000000) (decide := true) (disch := omega) only [k_12, hC, e, bindS, wI_row, wI_slot, wI_same, wI_2, nI_p0, false_or, nle_f, nI_cl, n_lad, n_adl, nI_add, if_true, if_false, ite_true, ite_false, ↓reduceIte]
    rfl
  | succ m ih =>
    intro i c M P h1 h2 h hv
    obtain ⟨c, rfl⟩ : ∃ x, c = x + 1 := ⟨c - 1, by omega⟩
    obtain ⟨N, n1, n2, n3⟩ := m_pass (w := w) h hv hw
    obtain ⟨B, r1, r2⟩ := ih (i + 1) c N (p_pass P) (by omega) (by omega) n2 (v_pass hv)
    refine ⟨B, Km_t n3 r1, fun C hC => ?_⟩
    rw [L_X12_chestIn, if_neg (nI_ge (by omega) (by omega)), n1, bindS, nI_11, show i + (m + 1) = i + 1 + m by omega]
    exact r2 C hC
/-- behind a call that looked ahead: the class in its spare parish, the reference on its row, taken back -/
theorem r_look {B C : z_Mem} (h : r_Rel M) (v : Int32) (hB : Kc 30 M B) (hC : ∀ a, a ≠ 143 → C.1 a = (z_wI (z_wI (z_wI B 0 11 v) 137 1 0) 137 0 v).1 a) (hl : C.2 = M.2) : r_Rel C := by
  refine r_q h ?_ ?_ ?_ ?_ ?_ ?_
  · simp (maxSteps := 2000000) (decide := true) (disch := omega) only [hC, bindS, wI_row, wI_slot, wI_same, wI_2, nI_p0, false_or, nle_f, nI_cl, n_lad, n_adl, nI_add, if_true, if_false, ite_true, ite_false, ↓reduceIte]
  · intro k hk
    rw [hC 0 (by omega)]
    simp (maxSteps := 2000000) (decide := true) (disch := omega) only [bindS, wI_row, wI_slot, wI_same, wI_2, nI_p0, false_or, nle_f, nI_cl, n_lad, n_adl, nI_add, if_true, if_false, ite_true, ite_false, ↓reduceIte]
    rw [hB.1 0 (by omega)]
  · intro k hk
    rw [hC 137 (by omega)]
    simp (maxSteps := 2000000) (decide := true) (disch := omega) only [bindS, wI_row, wI_slot, wI_same, wI_2, nI_p0, false_or, nle_f, nI_cl, n_lad, n_adl, nI_add, if_true, if_false, ite_true, ite_false, ↓reduceIte]
    rw [hB.1 137 (by omega)]
  · rw [hC 5 (by omega)]
    simp (maxSteps := 2000000) (decide := true) (disch := omega) only [bindS, wI_row, wI_slot, wI_same, wI_2, nI_p0, false_or, nle_f, nI_cl, n_lad, n_adl, nI_add, if_true, if_false, ite_true, ite_false, ↓reduceIte]
    rw [hB.1 5 (by omega)]
  · intro a ha
    unfold r_core at ha
    rw [hC a (by omega)]
    simp (maxSteps := 2000000) (decide := true) (disch := omega) only [bindS, wI_row, wI_slot, wI_same, wI_2, nI_p0, false_or, nle_f, nI_cl, n_lad, n_adl, nI_add, if_true, if_false, ite_true, ite_false, ↓reduceIte]
    rw [hB.1 a (by omega)]
  · intro a k _
    rw [hl]
theorem call_chestIn (hw : 1000 ≤ w) (h : r_Rel M) (a b : Int32) : r_ok (F_X11_chestIn w M a b) (fun M => F_X12_chestIn w M a b) := by
  obtain ⟨P, hc, hb, hv⟩ := h.2.2.2.2.2.2.1
  have ref : ∀ v : Int32, F_X11_chestIn w M a b = some (-1, z_wI M 0 11 v) → F_X12_chestIn w (z_wI M 0 11 v) a b = some (-1, z_st M v) → r_ok (F_X11_chestIn w M a b) (fun M => F_X12_chestIn w M a b) := fun v e1 e2 => ⟨-1, _, _, e1, e2, r_stv v h⟩
  by_cases hs : a = 0 ∨ a = 1
  · have s1 : ∀ N, F_X11_isSide w N a = some (true, N) := fun N => by rcases hs with rfl | rfl <;> rfl
    have s2 : ∀ N, F_X12_isSideAt w N a = some (true, N) := fun N => by rcases hs with rfl | rfl <;> rfl
    obtain ⟨s, hs2, rfl⟩ : ∃ s, s < 2 ∧ a = nI s := by
      rcases hs with e | e
      · exact ⟨0, by omega, e⟩
      · exact ⟨1, by omega, e⟩
    by_cases g : (0 : Int32) ≤ b ∧ b ≤ 60
    · have m1 := fun N => in_t (w := w) (M := N) (a := b) (B := 0) (C := 60) 0 60 rfl rfl g
      have w1 : ∀ N, F_X11_isWithin w N b 0 60 = some (true, N) := fun N => by rw [f_wi, decide_eq_true g]
      obtain ⟨n, _, hn, rfl⟩ := (i_rng 0 60 (by omega) (by omega)).mp g
      obtain ⟨A, a1, a2, a3⟩ := c_copy (w := w) (p := 30) (q := 7) (by omega) hc hv hw
      obtain ⟨B, b1, b2⟩ := cl_chestIn (w := w) hw hs2 n 0 w A P (by omega) (by omega) a2 hv
      rw [Nat.zero_add] at b1
      have b1' : L_X11_chestIn w w A (nI s) (nI n) 0 = _ := b1
      have kB := Kc_t a3 b2
      obtain ⟨K, k1, k2, k3, k4⟩ := f_keeps (w := w) hw (z_wI (z_wI (z_wI B 0 11 0) 137 1 0) 137 0 0)
      have e142 : K.1 142 = M.1 142 := by
        rw [k2 142 (by omega)]
        simp (maxSteps := 2000000) (decide := true) (disch := omega) only [bindS, wI_row, wI_slot, wI_same, wI_2, nI_p0, false_or, nle_f, nI_cl, n_lad, n_adl, nI_add, if_true, if_false, ite_true, ite_false, ↓reduceIte]
        rw [kB.1 142 (by omega)]
      obtain ⟨L, l1, l2⟩ := ml_chestIn (w := w) hw hs2 n 0 w K P (by omega) (by omega) (by rw [e142]; exact hb) hv
      obtain ⟨C, c1, c2, c3, _⟩ := f_rest (w := w) hw k2 k3 k4 l1
      have l3 := l2 C c1
      rw [Nat.zero_add] at l3
      have l3' : L_X12_chestIn w w K (nI s) (nI n) 0 = _ := l3
      refine ⟨(p_iter n P).1 (12 + s), z_wI B 0 11 0, C, ?_, ?_, r_look h 0 kB c2 ?_⟩
      · simp (maxSteps := 2000000) (decide := true) (disch := omega) only [F_X11_chestIn, s1, w1, a1, b1', bindS, wI_row, wI_slot, wI_same, wI_2, nI_p0, false_or, nle_f, nI_cl, n_lad, n_adl, nI_add, if_true, if_false, ite_true, ite_false, ↓reduceIte]
      · simp (maxSteps := 2000000) (decide := true) (disch := omega) only [F_X12_chestIn, s2, m1, k1, l3', bindS, wI_row, wI_slot, wI_same, wI_2, nI_p0, false_or, nle_f, nI_cl, n_lad, n_adl, nI_add, if_true, if_false, ite_true, ite_false, ↓reduceIte]
      · rw [c3]
        exact kB.2
    · have m1 := fun N => in_f (w := w) (M := N) (a := b) (B := 0) (C := 60) 0 60 rfl rfl g
      have w1 : ∀ N, F_X11_isWithin w N b 0 60 = some (false, N) := fun N => by rw [f_wi, decide_eq_false g]
      exact ref 5 (by simp (maxSteps := 2000000) (decide := true) (disch := omega) only [F_X11_chestIn, F_X11_refuse, s1, w1, Bool.false_eq_true, bindS, wI_row, wI_slot, wI_same, wI_2, nI_p0, false_or, nle_f, nI_cl, n_lad, n_adl, nI_add, if_true, if_false, ite_true, ite_false, ↓reduceIte]) (by simp (maxSteps := 2000000) (decide := true) (disch := omega) only [F_X12_chestIn, F_X12_refuse, s2, m1, z_st, wI_wI, Bool.false_eq_true, bindS, wI_row, wI_slot, wI_same, wI_2, nI_p0, false_or, nle_f, nI_cl, n_lad, n_adl, nI_add, if_true, if_false, ite_true, ite_false, ↓reduceIte])
  · have x := fun N => sd_f (w := w) (M := N) hs
    exact ref 2 (by simp (maxSteps := 2000000) (decide := true) (disch := omega) only [F_X11_chestIn, F_X11_refuse, (x _).1, Bool.false_eq_true, bindS, wI_row, wI_slot, wI_same, wI_2, nI_p0, false_or, nle_f, nI_cl, n_lad, n_adl, nI_add, if_true, if_false, ite_true, ite_false, ↓reduceIte]) (by simp (maxSteps := 2000000) (decide := true) (disch := omega) only [F_X12_chestIn, F_X12_refuse, (x _).2, z_st, wI_wI, Bool.false_eq_true, bindS, wI_row, wI_slot, wI_same, wI_2, nI_p0, false_or, nle_f, nI_cl, n_lad, n_adl, nI_add, if_true, if_false, ite_true, ite_false, ↓reduceIte])
theorem pass_k {P : t_P} (hv : VP P) {k : Nat} (hk : k < 9 ∨ k = 10 ∨ k = 11) : (p_pass P).1 k = P.1 k := by
  show sU (b_shift (b_upto P.1 P.2.1 P.2.1.1)) 9 (P.1 9 + 1) k = _
  rw [sU_n (by omega)]
  unfold b_shift
  rw [if_neg (by omega), if_neg (by omega), up_n _ _ _ _ (by omega) (fun i hi => (hv.2.1.2 i hi).1)]
theorem lw_toll (hw : 1000 ≤ w) {l : Nat} (hl : l < 2) : ∀ (m i c c' : Nat) (A N : z_Mem) (P : t_P), i + m = 61 → m < c → m + 1 < c' → CP A 30 P → BP (N.1 142) P → VP P → P.1 8 = nI l →
    (∃ r B K, L_X11_tollIn w c A (nI (1 - l)) (nI i) = some (nI r, z_wI B 0 11 0) ∧ Kc 30 A B ∧ Km N K ∧ ∀ C, F_X12_restores w K = some ((), C) → L_X12_tollIn w c' N (-1) (nI i) = some (nI r, C)) ∨
    (∃ B K, L_X11_tollIn w c A (nI (1 - l)) (nI i) = some (-1, z_wI B 0 11 8) ∧ Kc 30 A B ∧ Km N K ∧ ∀ C, F_X12_restores w K = some ((), C) → L_X12_tollIn w c' N (-1) (nI i) = some (-1, z_wI C 137 0 8)) := by
  intro m
  induction m with
  | zero =>
    intro i c c' A N P h1 h2 h3 hc hb hv h8
    obtain ⟨c, rfl⟩ : ∃ x, c = x + 1 := ⟨c - 1, by omega⟩
    obtain ⟨c', rfl⟩ : ∃ x, c' = x + 1 := ⟨c' - 1, by omega⟩
    obtain rfl : i = 61 := by omega
    right
    refine ⟨A, N, ?_, Kc_r, Km_r, fun C hC => ?_⟩
    · rw [L_X11_tollIn, if_pos (by decide)]
      rfl
    · rw [L_X12_tollIn, if_pos (by decide), hC, bindS, if_neg (by decide)]
      rfl
  | succ m ih =>
    intro i c c' A N P h1 h2 h3 hc hb hv h8
    obtain ⟨c, rfl⟩ : ∃ x, c = x + 1 := ⟨c - 1, by omega⟩
    obtain ⟨c', rfl⟩ : ∃ x, c' = x + 2 := ⟨c' - 2, by omega⟩
    obtain ⟨x, hx, hy⟩ : ∃ x, A.1 31 (1 - l) = x ∧ N.1 142 (13 - l) = x := by
      rcases (show l = 0 ∨ l = 1 by omega) with rfl | rfl
      · exact ⟨P.1 13, hc.1.2.2.2.2.2.2.2.2, hb.1.2.2.2.2.2.2.2.1⟩
      · exact ⟨P.1 12, hc.1.2.2.2.2.2.2.2.1, hb.1.2.2.2.2.2.2.1⟩
    have t1 : A.1 30 6 = P.1 6 := hc.1.2.1
    have t2 : N.1 142 6 = P.1 6 := hb.1.2.1
    have t3 : N.1 142 8 = nI l := by rw [hb.1.2.2.2.1]; exact h8
    have t4 : (13 : Int32) - nI l = nI (13 - l) := pk_sub (a := 13) (by omega)
    have q1 : ¬ (60 : Int32) < nI i := i_nlt.mpr (nI_le (b := 60) (by omega) (by omega))
    have q2 : (0 : Int32) ≤ nI i := nI_pos' (by omega)
    by_cases g : x < P.1 6
    · obtain ⟨A', a1, a2, a3⟩ := c_pass (w := w) hc hv hw
      obtain ⟨N', n1, n2, n3⟩ := m_pass (w := w) hb hv hw
      have ht : F_X12_hasToll w N = some (false, N) := by
        simp (maxSteps := 2000000) (decide := true) (disch := omega) only [F_X12_hasToll, t3, t4, hy, t2, g, bindS, wI_row, wI_slot, wI_same, wI_2, nI_p0, false_or, nle_f, nI_cl, n_lad, n_adl, nI_add, if_true, if_false, ite_true, ite_false, ↓reduceIte]
      have e1 : L_X11_tollIn w (c + 1) A (nI (1 - l)) (nI i) = L_X11_tollIn w c A' (nI (1 - l)) (nI (i + 1)) := by
        rw [L_X11_tollIn]
        simp (maxSteps := 2000000) (decide := true) (disch := omega) only [q1, hx, t1, g, a1, nI_11, bindS, wI_row, wI_slot, wI_same, wI_2, nI_p0, false_or, nle_f, nI_cl, n_lad, n_adl, nI_add, if_true, if_false, ite_true, ite_false, ↓reduceIte]
      have e2 : L_X12_tollIn w (c' + 2) N (-1) (nI i) = L_X12_tollIn w (c' + 1) N' (-1) (nI (i + 1)) := by
        rw [L_X12_tollIn]
        simp (maxSteps := 2000000) (decide := true) (disch := omega) only [q1, ht, n1, nI_11, Bool.false_eq_true, bindS, wI_row, wI_slot, wI_same, wI_2, nI_p0, false_or, nle_f, nI_cl, n_lad, n_adl, nI_add, if_true, if_false, ite_true, ite_false, ↓reduceIte]
      rw [e1, e2]
      rcases ih (i + 1) c (c' + 1) A' N' (p_pass P) (by omega) (by omega) (by omega) a2 n2 (v_pass hv) (by rw [pass_k hv (by omega)]; exact h8) with ⟨r, B, K, r1, r2, r3, r4⟩ | ⟨B, K, r1, r2, r3, r4⟩
      · exact Or.inl ⟨r, B, K, r1, Kc_t a3 r2, Km_t n3 r3, r4⟩
      · exact Or.inr ⟨B, K, r1, Kc_t a3 r2, Km_t n3 r3, r4⟩
    · obtain ⟨N', n1, n2, n3⟩ := m_pass (w := w) hb hv hw
      have ht : F_X12_hasToll w N = some (true, N) := by
        simp (maxSteps := 2000000) (decide := true) (disch := omega) only [F_X12_hasToll, t3, t4, hy, t2, g, bindS, wI_row, wI_slot, wI_same, wI_2, nI_p0, false_or, nle_f, nI_cl, n_lad, n_adl, nI_add, if_true, if_false, ite_true, ite_false, ↓reduceIte]
      refine Or.inl ⟨i, A, N', ?_, Kc_r, n3, fun C hC => ?_⟩
      · rw [L_X11_tollIn]
        simp (maxSteps := 2000000) (decide := true) (disch := omega) only [q1, hx, t1, g, F_X11_answer, bindS, wI_row, wI_slot, wI_same, wI_2, nI_p0, false_or, nle_f, nI_cl, n_lad, n_adl, nI_add, if_true, if_false, ite_true, ite_false, ↓reduceIte]
      · rw [L_X12_tollIn]
        simp (maxSteps := 2000000) (decide := true) (disch := omega) only [q1, ht, n1, nI_11, bindS, wI_row, wI_slot, wI_same, wI_2, nI_p0, false_or, nle_f, nI_cl, n_lad, n_adl, nI_add, if_true, if_false, ite_true, ite_false, ↓reduceIte]
        rw [L_X12_tollIn]
        by_cases g2 : (60 : Int32) < nI (i + 1)
        · simp (maxSteps := 2000000) (decide := true) (disch := omega) only [g2, hC, q2, bindS, wI_row, wI_slot, wI_same, wI_2, nI_p0, false_or, nle_f, nI_cl, n_lad, n_adl, nI_add, if_true, if_false, ite_true, ite_false, ↓reduceIte]
        · simp (maxSteps := 2000000) (decide := true) (disch := omega) only [g2, hC, q2, bindS, wI_row, wI_slot, wI_same, wI_2, nI_p0, false_or, nle_f, nI_cl, n_lad, n_adl, nI_add, if_true, if_false, ite_true, ite_false, ↓reduceIte]
theorem call_tollIn (hw : 1000 ≤ w) (h : r_Rel M) : r_ok (F_X11_tollIn w M) (F_X12_tollIn w) := by
  obtain ⟨P, hc, hb, hv⟩ := h.2.2.2.2.2.2.1
  obtain ⟨A, a1, a2, a3⟩ := c_copy (w := w) (p := 30) (q := 7) (by omega) hc hv hw
  obtain ⟨l, hl, h8⟩ : ∃ l, l < 2 ∧ P.1 8 = nI l := by
    rcases hv.1.1 with e | e
    · exact ⟨0, by omega, e⟩
    · exact ⟨1, by omega, e⟩
  have t1 : A.1 30 8 = nI l := by rw [a2.1.2.2.2.1]; exact h8
  have t2 : (1 : Int32) - nI l = nI (1 - l) := pk_sub (a := 1) (by omega)
  have key : ∀ (N : z_Mem), N.1 142 = M.1 142 → _ := fun N hN => lw_toll (w := w) hw hl 61 0 w w A N P (by omega) (by omega) (by omega) a2 (by rw [hN]; exact hb) hv h8
  have mk : ∀ (B : z_Mem) (v : Int32), Kc 30 A B → ∃ K, F_X12_keeps w (z_wI (z_wI (z_wI B 0 11 v) 137 1 0) 137 0 0) = some ((), K) ∧ (∀ a, a ≠ 143 → K.1 a = (z_wI (z_wI (z_wI B 0 11 v) 137 1 0) 137 0 0).1 a) ∧ K.2 = B.2 ∧ (∀ k, k < 103 → K.1 143 k = (z_wI (z_wI (z_wI B 0 11 v) 137 1 0) 137 0 0).1 142 k) ∧ K.1 142 = M.1 142 := by
    intro B v hB
    obtain ⟨K, k1, k2, k3, k4⟩ := f_keeps (w := w) hw (z_wI (z_wI (z_wI B 0 11 v) 137 1 0) 137 0 0)
    refine ⟨K, k1, k2, k3, k4, ?_⟩
    rw [k2 142 (by omega)]
    simp (maxSteps := 2000000) (decide := true) (disch := omega) only [bindS, wI_row, wI_slot, wI_same, wI_2, nI_p0, false_or, nle_f, nI_cl, n_lad, n_adl, nI_add, if_true, if_false, ite_true, ite_false, ↓reduceIte]
    rw [hB.1 142 (by omega), a3.1 142 (by omega)]
  rcases key M rfl with ⟨r, B, K0, b1, b2, _, _⟩ | ⟨B, K0, b1, b2, _, _⟩
  · obtain ⟨K, k1, k2, k3, k4, k5⟩ := mk B 0 b2
    have b1' : L_X11_tollIn w w A (nI (1 - l)) 0 = _ := b1
    have kB := Kc_t a3 b2
    rcases key K k5 with ⟨r', B', K1, d1, d2, d3, d4⟩ | ⟨B', K1, d1, d2, d3, d4⟩
    · rw [d1] at b1
      simp only [Option.some.injEq, Prod.mk.injEq] at b1
      obtain ⟨C, c1, c2, c3, _⟩ := f_rest (w := w) (M := z_wI (z_wI (z_wI B 0 11 0) 137 1 0) 137 0 0) hw k2 k3 k4 d3
      have d5 : L_X12_tollIn w w K (-1) 0 = _ := d4 C c1
      refine ⟨nI r, z_wI B 0 11 0, C, ?_, ?_, r_look h 0 kB c2 (by rw [c3]; exact kB.2)⟩
      · simp (maxSteps := 2000000) (decide := true) (disch := omega) only [F_X11_tollIn, a1, t1, t2, b1', bindS, wI_row, wI_slot, wI_same, wI_2, nI_p0, false_or, nle_f, nI_cl, n_lad, n_adl, nI_add, if_true, if_false, ite_true, ite_false, ↓reduceIte]
      · simp (maxSteps := 2000000) (decide := true) (disch := omega) only [F_X12_tollIn, k1, d5, b1.1, bindS, wI_row, wI_slot, wI_same, wI_2, nI_p0, false_or, nle_f, nI_cl, n_lad, n_adl, nI_add, if_true, if_false, ite_true, ite_false, ↓reduceIte]
    · rw [d1] at b1
      simp only [Option.some.injEq, Prod.mk.injEq] at b1
      have x1 := congrFun (congrFun (congrArg Prod.fst b1.2) 0) 11
      rw [wI_same, wI_same] at x1
      exact absurd x1 (by decide)
  · obtain ⟨K, k1, k2, k3, k4, k5⟩ := mk B 8 b2
    have b1' : L_X11_tollIn w w A (nI (1 - l)) 0 = _ := b1
    have kB := Kc_t a3 b2
    rcases key K k5 with ⟨r', B', K1, d1, d2, d3, d4⟩ | ⟨B', K1, d1, d2, d3, d4⟩
    · rw [d1] at b1
      simp only [Option.some.injEq, Prod.mk.injEq] at b1
      have x1 := congrFun (congrFun (congrArg Prod.fst b1.2) 0) 11
      rw [wI_same, wI_same] at x1
      exact absurd x1 (by decide)
    · obtain ⟨C, c1, c2, c3, _⟩ := f_rest (w := w) (M := z_wI (z_wI (z_wI B 0 11 8) 137 1 0) 137 0 0) hw k2 k3 k4 d3
      have d5 : L_X12_tollIn w w K (-1) 0 = _ := d4 C c1
      refine ⟨-1, z_wI B 0 11 8, z_wI C 137 0 8, ?_, ?_, r_look h 8 kB ?_ ?_⟩
      · simp (maxSteps := 2000000) (decide := true) (disch := omega) only [F_X11_tollIn, a1, t1, t2, b1', bindS, wI_row, wI_slot, wI_same, wI_2, nI_p0, false_or, nle_f, nI_cl, n_lad, n_adl, nI_add, if_true, if_false, ite_true, ite_false, ↓reduceIte]
      · simp (maxSteps := 2000000) (decide := true) (disch := omega) only [F_X12_tollIn, k1, d5, bindS, wI_row, wI_slot, wI_same, wI_2, nI_p0, false_or, nle_f, nI_cl, n_lad, n_adl, nI_add, if_true, if_false, ite_true, ite_false, ↓reduceIte]
      · intro a ha
        funext k
        rw [wI_rd, wI_rd, c2 a ha, wI_rd]
        by_cases e : a = 137 ∧ k = 0
        · rw [if_pos e, if_pos e]
        · rw [if_neg e, if_neg e, if_neg e]
      · rw [wI_2, c3]
        exact kB.2
end
