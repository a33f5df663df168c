/-! ===== calls: price, grant, claim, rule, bears ===== -/
def rU (r : t_R) (k i : Nat) (v : Int32) : t_R := (r.1, fun a j => if a = k ∧ j = i then v else r.2 a j)
theorem CP_r {M M' : z_Mem} {p : Nat} {P : t_P} {r' : t_R} (h : CP M p P) (hr : R_c M' p r') (k : Kr (p + 2) (p + 8) M M') : CP M' p (P.1, r', P.2.2) := by
  obtain ⟨hS, _, hD, hC, hY⟩ := h
  refine ⟨?_, hr, ?_, ?_, ?_⟩
  · rw [k.1 p (by omega), k.1 (p + 1) (by omega)]
    exact hS
  · rw [k.1 (p + 8) (by omega), k.1 (p + 9) (by omega), k.1 (p + 10) (by omega), k.1 (p + 11) (by omega)]
    exact hD
  · rw [k.1 (p + 12) (by omega), k.1 (p + 13) (by omega), k.1 (p + 14) (by omega), k.1 (p + 15) (by omega), k.1 (p + 16) (by omega)]
    exact hC
  · rw [k.1 (p + 17) (by omega), k.1 (p + 18) (by omega), k.1 (p + 19) (by omega), k.1 (p + 20) (by omega), k.1 (p + 21) (by omega), k.1 (p + 22) (by omega)]
    exact hY
theorem BS_of {f g : Nat → Int32} {s : Nat → Int32} (h : BS f s) (e : ∀ j, 5 ≤ j → j < 20 → j ≠ 10 → g j = f j) : BS g s := by
  obtain ⟨s5, s6, s7, s8, s9, s11, s12, s13, t1, t2, t3, t4, t5, t6⟩ := h
  refine ⟨?_, ?_, ?_, ?_, ?_, ?_, ?_, ?_, ?_, ?_, ?_, ?_, ?_, ?_⟩
  all_goals
    simp (decide := true) (disch := omega) only [e, Option.bind_some, wI_row, wI_slot, wI_same, wI_2, nI_p0, false_or, nle_f, nI_cl, n_lad, n_adl, nI_add, if_true, if_false, ite_true, ite_false]
    assumption
theorem BP_r {f f' : Nat → Int32} {P : t_P} {r' : t_R} (h : BP f P) (hv : VP P) (hr : BR f' r') (k : ∀ k, k ≠ 0 → (k < 20 ∨ 60 ≤ k) → f' k = f k) : BP f' (P.1, r', P.2.2) := by
  obtain ⟨hS, _, hD, hC, hY⟩ := h
  obtain ⟨_, _, vD, vC, vY⟩ := hv
  exact ⟨BS_of hS (fun j a b _ => k j (by omega) (by omega)), hr, BD_of hD vD (k 1 (by omega) (by omega)) (k 10 (by omega) (by omega)) (fun j a b => k j (by omega) (by omega)), BC_of hC vC (fun j a b => k j (by omega) (by omega)) (fun j a b => k j (by omega) (by omega)), BY_of hY (fun j a b => k j (by omega) (by omega)) vY⟩
theorem Kc_k {p : Nat} {M M' : z_Mem} (k : Kr (p + 2) (p + 8) M M') : Kc p M M' := ⟨fun a ha => k.1 a (by omega), k.2⟩
/-- what a right's cell becomes -/
theorem rU_c {M : z_Mem} {p : Nat} {r : t_R} (h : R_c M p r) (k i : Nat) (v : Int32) (hk : k < 5) : R_c (z_wI M (p + 3 + k) i v) p (rU r k i v) := by
  have hh : k = 0 ∨ k = 1 ∨ k = 2 ∨ k = 3 ∨ k = 4 := by omega
  refine ⟨?_, fun j hj => ?_⟩
  · rw [wI_row (by omega)]; exact h.1
  · obtain ⟨g0, g1, g2, g3, g4⟩ := h.2 j hj
    unfold rU
    simp only [wI_rd]
    rcases hh with rfl | rfl | rfl | rfl | rfl <;> by_cases e : j = i <;> simp [e, g0, g1, g2, g3, g4] <;> simp [← e, g0, g1, g2, g3, g4]
theorem rU_b {f : Nat → Int32} {r : t_R} (h : BR f r) (hr : r.1 ≤ 8) (k i : Nat) (v : Int32) (hk : k < 5) (hi : i < 8) : BR (fun j => if j = 20 + 8 * k + i then v else f j) (rU r k i v) := by
  have hh : k = 0 ∨ k = 1 ∨ k = 2 ∨ k = 3 ∨ k = 4 := by omega
  refine ⟨?_, fun j hj => ?_⟩
  · dsimp only; rw [if_neg (by omega)]; exact h.1
  · obtain ⟨g0, g1, g2, g3, g4⟩ := h.2 j hj
    have hj2 : j < r.1 := hj
    clear hj
    rcases hh with rfl | rfl | rfl | rfl | rfl
    · refine ⟨?_, ?_, ?_, ?_, ?_⟩
      · by_cases e : j = i
        · dsimp only; rw [if_pos (by omega)]; simp [rU, e]
        · dsimp only; rw [if_neg (by omega), g0]; simp [rU, e]
      · dsimp only; rw [if_neg (by omega), g1]; simp [rU]
      · dsimp only; rw [if_neg (by omega), g2]; simp [rU]
      · dsimp only; rw [if_neg (by omega), g3]; simp [rU]
      · dsimp only; rw [if_neg (by omega), g4]; simp [rU]
    · refine ⟨?_, ?_, ?_, ?_, ?_⟩
      · dsimp only; rw [if_neg (by omega), g0]; simp [rU]
      · by_cases e : j = i
        · dsimp only; rw [if_pos (by omega)]; simp [rU, e]
        · dsimp only; rw [if_neg (by omega), g1]; simp [rU, e]
      · dsimp only; rw [if_neg (by omega), g2]; simp [rU]
      · dsimp only; rw [if_neg (by omega), g3]; simp [rU]
      · dsimp only; rw [if_neg (by omega), g4]; simp [rU]
    · refine ⟨?_, ?_, ?_, ?_, ?_⟩
      · dsimp only; rw [if_neg (by omega), g0]; simp [rU]
      · dsimp only; rw [if_neg (by omega), g1]; simp [rU]
      · by_cases e : j = i
        · dsimp only; rw [if_pos (by omega)]; simp [rU, e]
        · dsimp only; rw [if_neg (by omega), g2]; simp [rU, e]
      · dsimp only; rw [if_neg (by omega), g3]; simp [rU]
      · dsimp only; rw [if_neg (by omega), g4]; simp [rU]
    · refine ⟨?_, ?_, ?_, ?_, ?_⟩
      · dsimp only; rw [if_neg (by omega), g0]; simp [rU]
      · dsimp only; rw [if_neg (by omega), g1]; simp [rU]
      · dsimp only; rw [if_neg (by omega), g2]; simp [rU]
      · by_cases e : j = i
        · dsimp only; rw [if_pos (by omega)]; simp [rU, e]
        · dsimp only; rw [if_neg (by omega), g3]; simp [rU, e]
      · dsimp only; rw [if_neg (by omega), g4]; simp [rU]
    · refine ⟨?_, ?_, ?_, ?_, ?_⟩
      · dsimp only; rw [if_neg (by omega), g0]; simp [rU]
      · dsimp only; rw [if_neg (by omega), g1]; simp [rU]
      · dsimp only; rw [if_neg (by omega), g2]; simp [rU]
      · dsimp only; rw [if_neg (by omega), g3]; simp [rU]
      · by_cases e : j = i
        · dsimp only; rw [if_pos (by omega)]; simp [rU, e]
        · dsimp only; rw [if_neg (by omega), g4]; simp [rU, e]
theorem wI_fun {M : z_Mem} {a k : Nat} {v : Int32} : (z_wI M a k v).1 a = fun j => if j = k then v else M.1 a j := by
  funext j
  rw [wI_rd]
  by_cases e : j = k <;> simp [e]
/-- behind a call that wrote one cell of a right -/
theorem r_cell {M : z_Mem} {P : t_P} (h : r_Rel M) (hc : CP M 7 P) (hb : BP (M.1 142) P) (hv : VP P) {k i : Nat} (hk : k < 5) (hi : i < 8) (v : Int32) (hn : VR (rU P.2.1 k i v)) : r_Rel (z_wI (z_wI (z_wI (z_wI (z_wI M (10 + k) i v) 0 11 0) 137 1 0) 137 0 0) 142 (20 + 8 * k + i) v) := by
  have k1 : Kr 9 15 M (z_wI M (10 + k) i v) := ⟨fun a ha => wI_row (by omega), rfl⟩
  have c1 : CP (z_wI M (10 + k) i v) 7 (P.1, rU P.2.1 k i v, P.2.2) := CP_r (p := 7) hc (by have := rU_c (p := 7) hc.2.1 k i v hk; exact this) k1
  refine r_op (P := (P.1, rU P.2.1 k i v, P.2.2)) h (Kc_k (p := 7) k1) c1 ?_ ?_ ⟨hv.1, hn, hv.2.2⟩
  · refine ⟨fun a ha => wI_row ha, fun j hj => wI_slot (by omega), rfl⟩
  · rw [wI_fun]
    have e : (z_wI (z_wI (z_wI (z_wI M (10 + k) i v) 0 11 0) 137 1 0) 137 0 0).1 142 = M.1 142 := by
      rw [wI_row (by omega), wI_row (by omega), wI_row (by omega), wI_row (by omega)]
    rw [e]
    exact BP_r hb hv (rU_b hb.2.1 hv.2.1.1 k i v hk hi) (fun j h1 h2 => if_neg (by omega))
section
variable {w : Nat} {M : z_Mem}
theorem call_price (h : r_Rel M) (a b : Int32) : r_ok (F_X11_price w M a b) (fun M => F_X12_price w M a b) := by
  obtain ⟨P, hc, hb, hv⟩ := h.2.2.2.2.2.2.1
  have h8 : P.2.1.1 ≤ 8 := hv.2.1.1
  have c0 := hc.2.1.1
  have b0 := hb.2.1.1
  by_cases hx : ∃ j, j < P.2.1.1 ∧ a = nI j
  · obtain ⟨j, hj, rfl⟩ := hx
    have e1 : F_X6_isThere w M 7 (nI j) = some (true, M) := thR_t c0 (by omega) hj
    have m1 : ∀ N, F_X12_isIn w N (nI j).toInt64 0 ((nI P.2.1.1 - 1).toInt64) = some (true, N) := fun N => is_t hj (by omega)
    obtain ⟨_, _, _, c3, _⟩ := hc.2.1.2 j hj
    obtain ⟨_, _, _, b3, _⟩ := hb.2.1.2 j hj
    simp only [Nat.reduceAdd] at c3
    by_cases hr : (1 : Int32) ≤ b ∧ b ≤ 50
    · have m2 := fun N => in_t (w := w) (M := N) (B := 1) (C := 50) 1 50 rfl rfl hr
      have w2 : ∀ N, F_X11_isWithin w N b 1 50 = some (true, N) := fun N => by rw [f_wi, decide_eq_true hr]
      have hn : VR (rU P.2.1 3 j b) := by
        refine ⟨h8, fun i hi => ?_⟩
        obtain ⟨v1, v2, v3, v4⟩ := hv.2.1.2 i hi
        refine ⟨by simp [rU]; exact v1, by simp [rU]; exact v2, ?_, by simp [rU]; exact v4⟩
        by_cases e : i = j
        · simp [rU, e]; exact hr
        · simp [rU, e]; exact v3
      refine ⟨P.2.1.2 3 j, z_wI (z_wI M 13 j b) 0 11 0, _, ?_, ?_, r_cell h hc hb hv (k := 3) (i := j) (by omega) (by omega) b hn⟩
      · simp (decide := true) (disch := omega) only [F_X11_price, F_X11_answer, e1, w2, c3, Option.bind_some, wI_row, wI_slot, wI_same, wI_2, nI_p0, false_or, nle_f, nI_cl, n_lad, n_adl, nI_add, if_true, if_false, ite_true, ite_false]
      · simp (decide := true) (disch := omega) only [F_X12_price, F_X12_isRightAt, m1, m2, b0, b3, k_44, Nat.reduceAdd, Nat.reduceMul, Option.bind_some, wI_row, wI_slot, wI_same, wI_2, nI_p0, false_or, nle_f, nI_cl, n_lad, n_adl, nI_add, if_true, if_false, ite_true, ite_false]
    · have m2 := fun N => in_f (w := w) (M := N) (B := 1) (C := 50) 1 50 rfl rfl hr
      have w2 : ∀ N, F_X11_isWithin w N b 1 50 = some (false, N) := fun N => by rw [f_wi, decide_eq_false hr]
      refine ⟨-1, z_wI M 0 11 5, z_st M 5, ?_, ?_, r_stv 5 h⟩
      · simp (decide := true) (disch := omega) only [F_X11_price, F_X11_refuse, e1, w2, Bool.false_eq_true, Option.bind_some, wI_row, wI_slot, wI_same, wI_2, nI_p0, false_or, nle_f, nI_cl, n_lad, n_adl, nI_add, if_true, if_false, ite_true, ite_false]
      · simp (decide := true) (disch := omega) only [F_X12_price, F_X12_isRightAt, F_X12_refuse, m1, m2, b0, z_st, wI_wI, Bool.false_eq_true, Option.bind_some, wI_row, wI_slot, wI_same, wI_2, nI_p0, false_or, nle_f, nI_cl, n_lad, n_adl, nI_add, if_true, if_false, ite_true, ite_false]
  · refine ⟨-1, z_wI M 0 11 2, z_st M 2, ?_, ?_, r_stv 2 h⟩
    · have e1 := thR_f (w := w) c0 (by omega) hx
      simp (decide := true) (disch := omega) only [F_X11_price, F_X11_refuse, e1, Bool.false_eq_true, Option.bind_some, wI_row, wI_slot, wI_same, wI_2, nI_p0, false_or, nle_f, nI_cl, n_lad, n_adl, nI_add, if_true, if_false, ite_true, ite_false]
    · have m1 := fun N => is_f (w := w) (M := N) hx (by omega)
      simp (decide := true) (disch := omega) only [F_X12_price, F_X12_isRightAt, F_X12_refuse, m1, b0, z_st, wI_wI, Bool.false_eq_true, Option.bind_some, wI_row, wI_slot, wI_same, wI_2, nI_p0, false_or, nle_f, nI_cl, n_lad, n_adl, nI_add, if_true, if_false, ite_true, ite_false]
theorem x_in {x : Int32} (h : 0 ≤ x ∧ x ≤ 4095) {m : Nat} (hm : m < 12) : 0 ≤ x ^^^ ((1 : Int32) <<< (nI m &&& 31)) ∧ x ^^^ ((1 : Int32) <<< (nI m &&& 31)) ≤ 4095 := by
  have hbt : ∀ y : Int32, (0 ≤ y ∧ y ≤ 4095) ↔ ∀ i, 12 ≤ i → bt y i = false := by
    intro y
    constructor
    · intro hy i hi
      obtain ⟨k, _, hk, rfl⟩ := (i_rng 0 4095 (by omega) (by omega)).mp hy
      unfold bt
      rcases Nat.lt_or_ge i 32 with g | g
      · show (BitVec.ofNat 32 k).getLsbD i = false
        rw [BitVec.getLsbD_ofNat, Nat.testBit_lt_two_pow]
        · simp
        · exact Nat.lt_of_lt_of_le (show k < 2 ^ 12 by omega) (Nat.pow_le_pow_right (by omega) hi)
      · exact BitVec.getLsbD_of_ge _ _ g
    · intro hy
      have e : y = nI (y.toBitVec.toNat) := by
        apply Int32.toBitVec_inj.mp
        show y.toBitVec = BitVec.ofNat 32 y.toBitVec.toNat
        simp
      have hlt : y.toBitVec.toNat < 2 ^ 12 := by
        apply Nat.lt_pow_two_of_testBit
        intro i hi
        exact hy i hi
      rw [e]
      exact (i_rng 0 4095 (by omega) (by omega)).mpr ⟨_, by omega, by omega, rfl⟩
  rw [hbt] at h ⊢
  intro i hi
  rw [b_xor, h i hi]
  rcases Nat.lt_or_ge i 32 with g | g
  · rw [bt_sh (by omega) g, decide_eq_false (by omega)]; rfl
  · rw [b_big g]; rfl
theorem call_grant (h : r_Rel M) (a b c : Int32) : r_ok (F_X11_grant w M a b c) (fun M => F_X12_grant w M a b c) := by
  obtain ⟨P, hc, hb, hv⟩ := h.2.2.2.2.2.2.1
  have h8 : P.2.1.1 ≤ 8 := hv.2.1.1
  have c0 := hc.2.1.1
  have b0 := hb.2.1.1
  by_cases hx : ∃ j, j < P.2.1.1 ∧ a = nI j
  · obtain ⟨j, hj, rfl⟩ := hx
    have e1 : F_X6_isThere w M 7 (nI j) = some (true, M) := thR_t c0 (by omega) hj
    have m1 : ∀ N, F_X12_isIn w N (nI j).toInt64 0 ((nI P.2.1.1 - 1).toInt64) = some (true, N) := fun N => is_t hj (by omega)
    obtain ⟨_, _, _, _, c3⟩ := hc.2.1.2 j hj
    obtain ⟨_, _, _, _, b3⟩ := hb.2.1.2 j hj
    simp only [Nat.reduceAdd] at c3
    by_cases hr : (0 : Int32) ≤ b ∧ b ≤ 11
    · have m2 := fun N => in_t (w := w) (M := N) (B := 0) (C := 11) 0 11 rfl rfl hr
      have w2 : ∀ N, F_X11_isWithin w N b 0 11 = some (true, N) := fun N => by rw [f_wi, decide_eq_true hr]
      obtain ⟨m, _, hm, rfl⟩ := (i_rng 0 11 (by omega) (by omega)).mp hr
      have f1 : ∀ N : z_Mem, N.1 14 j = P.2.1.2 4 j → F_X6_isIn w N 7 (nI j) (nI m) = some (bt (P.2.1.2 4 j) m, N) := by
        intro N hN
        unfold F_X6_isIn
        simp (decide := true) (disch := omega) only [Nat.reduceAdd, hN, b_bit, Option.bind_some, wI_row, wI_slot, wI_same, wI_2, nI_p0, false_or, nle_f, nI_cl, n_lad, n_adl, nI_add, if_true, if_false, ite_true, ite_false]
        cases bt (P.2.1.2 4 j) m <;> simp
      have f2 : ∀ N : z_Mem, F_X12_has w N (P.2.1.2 4 j) (nI m) = some (bt (P.2.1.2 4 j) m, N) := by
        intro N
        unfold F_X12_has
        simp (decide := true) (disch := omega) only [b_bit, Option.bind_some, wI_row, wI_slot, wI_same, wI_2, nI_p0, false_or, nle_f, nI_cl, n_lad, n_adl, nI_add, if_true, if_false, ite_true, ite_false]
        cases bt (P.2.1.2 4 j) m <;> simp
      have f1M := f1 M c3
      by_cases q : z_tb (bt (P.2.1.2 4 j) m) = c
      · refine ⟨false, z_wI M 0 11 9, z_st M 9, ?_, ?_, r_stv 9 h⟩
        · simp (decide := true) (disch := omega) only [F_X11_grant, F_X11_deny, e1, w2, f1M, q, Option.bind_some, wI_row, wI_slot, wI_same, wI_2, nI_p0, false_or, nle_f, nI_cl, n_lad, n_adl, nI_add, if_true, if_false, ite_true, ite_false]
        · simp (decide := true) (disch := omega) only [F_X12_grant, F_X12_isRightAt, F_X12_no, m1, m2, b0, b3, k_52, f2, q, z_st, wI_wI, Option.bind_some, wI_row, wI_slot, wI_same, wI_2, nI_p0, false_or, nle_f, nI_cl, n_lad, n_adl, nI_add, if_true, if_false, ite_true, ite_false]
      · have hn : VR (rU P.2.1 4 j (P.2.1.2 4 j ^^^ ((1 : Int32) <<< (nI m &&& 31)))) := by
          refine ⟨h8, fun i hi => ?_⟩
          obtain ⟨v1, v2, v3, v4⟩ := hv.2.1.2 i hi
          refine ⟨by simp [rU]; exact v1, by simp [rU]; exact v2, by simp [rU]; exact v3, ?_⟩
          by_cases e : i = j
          · subst e
            simp only [rU, and_self, if_true]
            exact x_in v4 (by omega)
          · simp [rU, e]; exact v4
        refine ⟨true, z_wI (z_wI M 14 j (P.2.1.2 4 j ^^^ ((1 : Int32) <<< (nI m &&& 31)))) 0 11 0, _, ?_, ?_, r_cell h hc hb hv (k := 4) (i := j) (by omega) (by omega) _ hn⟩
        · simp (decide := true) (disch := omega) only [F_X11_grant, F_X11_allow, e1, w2, f1M, q, c3, Option.bind_some, wI_row, wI_slot, wI_same, wI_2, nI_p0, false_or, nle_f, nI_cl, n_lad, n_adl, nI_add, if_true, if_false, ite_true, ite_false]
        · simp (decide := true) (disch := omega) only [F_X12_grant, F_X12_isRightAt, m1, m2, b0, b3, k_52, f2, q, Nat.reduceAdd, Nat.reduceMul, Option.bind_some, wI_row, wI_slot, wI_same, wI_2, nI_p0, false_or, nle_f, nI_cl, n_lad, n_adl, nI_add, if_true, if_false, ite_true, ite_false]
    · have m2 := fun N => in_f (w := w) (M := N) (B := 0) (C := 11) 0 11 rfl rfl hr
      have w2 : ∀ N, F_X11_isWithin w N b 0 11 = some (false, N) := fun N => by rw [f_wi, decide_eq_false hr]
      refine ⟨false, z_wI M 0 11 5, z_st M 5, ?_, ?_, r_stv 5 h⟩
      · simp (decide := true) (disch := omega) only [F_X11_grant, F_X11_deny, e1, w2, Bool.false_eq_true, Option.bind_some, wI_row, wI_slot, wI_same, wI_2, nI_p0, false_or, nle_f, nI_cl, n_lad, n_adl, nI_add, if_true, if_false, ite_true, ite_false]
      · simp (decide := true) (disch := omega) only [F_X12_grant, F_X12_isRightAt, F_X12_no, m1, m2, b0, z_st, wI_wI, Bool.false_eq_true, Option.bind_some, wI_row, wI_slot, wI_same, wI_2, nI_p0, false_or, nle_f, nI_cl, n_lad, n_adl, nI_add, if_true, if_false, ite_true, ite_false]
  · refine ⟨false, z_wI M 0 11 2, z_st M 2, ?_, ?_, r_stv 2 h⟩
    · have e1 := thR_f (w := w) c0 (by omega) hx
      simp (decide := true) (disch := omega) only [F_X11_grant, F_X11_deny, e1, Bool.false_eq_true, Option.bind_some, wI_row, wI_slot, wI_same, wI_2, nI_p0, false_or, nle_f, nI_cl, n_lad, n_adl, nI_add, if_true, if_false, ite_true, ite_false]
    · have m1 := fun N => is_f (w := w) (M := N) hx (by omega)
      simp (decide := true) (disch := omega) only [F_X12_grant, F_X12_isRightAt, F_X12_no, m1, b0, z_st, wI_wI, Bool.false_eq_true, Option.bind_some, wI_row, wI_slot, wI_same, wI_2, nI_p0, false_or, nle_f, nI_cl, n_lad, n_adl, nI_add, if_true, if_false, ite_true, ite_false]
end
