/-! ===== a month goes by ===== -/
def sU (s : Nat → Int32) (k : Nat) (v : Int32) : Nat → Int32 := fun j => if j = k then v else s j
theorem sU_s {s : Nat → Int32} {k : Nat} {v : Int32} : sU s k v k = v := if_pos rfl
theorem sU_n {s : Nat → Int32} {k j : Nat} {v : Int32} (h : j ≠ k) : sU s k v j = s j := if_neg h
def b_ago (s : Nat → Int32) (x : Int32) : Int32 := if x = 0 then s 8 else s (13 + x.toNatClampNeg)
def b_mon (s : Nat → Int32) : Int32 := s 9 - s 9 / 12 * 12
def b_bear (s : Nat → Int32) (r : t_R) (i : Nat) : Bool :=
  if ((r.2 4 i >>> (b_mon s &&& 31)) &&& 1) = 1 then (if r.2 1 i = 0 then decide (s 8 = r.2 0 i) else if r.2 1 i = 1 then !decide (s 8 = r.2 0 i) else decide (b_ago s (r.2 2 i) = r.2 0 i)) else false
def b_cap (x : Int32) : Int32 := if x < 9999 then x else 9999
def b_bring (s : Nat → Int32) (x v : Int32) : Nat → Int32 := sU s (12 + x.toNatClampNeg) (b_cap (s (12 + x.toNatClampNeg) + v))
def b_upto (s : Nat → Int32) (r : t_R) : Nat → (Nat → Int32)
  | 0 => s
  | i + 1 => if b_bear s r i then b_bring (b_upto s r i) (r.2 0 i) (r.2 3 i) else b_upto s r i
def b_shift (s : Nat → Int32) : Nat → Int32 := fun j => if j = 14 then s 8 else if 15 ≤ j ∧ j ≤ 19 then s (j - 1) else s j
def p_pass (P : t_P) : t_P := (sU (b_shift (b_upto P.1 P.2.1 P.2.1.1)) 9 (P.1 9 + 1), P.2.1, (P.2.2.1.1 + nI (P.2.2.1.2.length - (b_age P.2.2.1.2).length), b_age P.2.2.1.2), P.2.2.2.1, P.2.2.2.2)
theorem z_01 {x : Int32} (h : x = 0 ∨ x = 1) : ∃ b : Bool, x = z_tb b := by
  rcases h with rfl | rfl
  · exact ⟨false, rfl⟩
  · exact ⟨true, rfl⟩
theorem lay_d : ∀ (b0 b1 b2 b3 b4 b5 : Bool), (((z_tb b0 + 2 * z_tb b1 + 4 * z_tb b2 + 8 * z_tb b3 + 16 * z_tb b4 + 32 * z_tb b5) >>> (nI 0 &&& 31)) &&& 1 = z_tb b0) ∧ (((z_tb b0 + 2 * z_tb b1 + 4 * z_tb b2 + 8 * z_tb b3 + 16 * z_tb b4 + 32 * z_tb b5) >>> (nI 1 &&& 31)) &&& 1 = z_tb b1) ∧ (((z_tb b0 + 2 * z_tb b1 + 4 * z_tb b2 + 8 * z_tb b3 + 16 * z_tb b4 + 32 * z_tb b5) >>> (nI 2 &&& 31)) &&& 1 = z_tb b2) ∧ (((z_tb b0 + 2 * z_tb b1 + 4 * z_tb b2 + 8 * z_tb b3 + 16 * z_tb b4 + 32 * z_tb b5) >>> (nI 3 &&& 31)) &&& 1 = z_tb b3) ∧ (((z_tb b0 + 2 * z_tb b1 + 4 * z_tb b2 + 8 * z_tb b3 + 16 * z_tb b4 + 32 * z_tb b5) >>> (nI 4 &&& 31)) &&& 1 = z_tb b4) ∧ (((z_tb b0 + 2 * z_tb b1 + 4 * z_tb b2 + 8 * z_tb b3 + 16 * z_tb b4 + 32 * z_tb b5) >>> (nI 5 &&& 31)) &&& 1 = z_tb b5) := by decide +kernel
theorem lay_s : ∀ (l b0 b1 b2 b3 b4 b5 : Bool), (((z_tb b0 + 2 * z_tb b1 + 4 * z_tb b2 + 8 * z_tb b3 + 16 * z_tb b4 + 32 * z_tb b5) <<< ((1 : Int32) &&& 31)) ||| z_tb l) &&& 63 = z_tb l + 2 * z_tb b0 + 4 * z_tb b1 + 8 * z_tb b2 + 16 * z_tb b3 + 32 * z_tb b4 := by decide +kernel
theorem lay_bit {s : Nat → Int32} (h : VS s) {m : Nat} (hm : m < 6) : (z_lay s >>> (nI m &&& 31)) &&& 1 = s (14 + m) := by
  obtain ⟨b0, e0⟩ := z_01 (h.2.1 0 (by omega))
  obtain ⟨b1, e1⟩ := z_01 (h.2.1 1 (by omega))
  obtain ⟨b2, e2⟩ := z_01 (h.2.1 2 (by omega))
  obtain ⟨b3, e3⟩ := z_01 (h.2.1 3 (by omega))
  obtain ⟨b4, e4⟩ := z_01 (h.2.1 4 (by omega))
  obtain ⟨b5, e5⟩ := z_01 (h.2.1 5 (by omega))
  simp only [Nat.reduceAdd] at e0 e1 e2 e3 e4 e5
  obtain ⟨d0, d1, d2, d3, d4, d5⟩ := lay_d b0 b1 b2 b3 b4 b5
  unfold z_lay
  rw [e0, e1, e2, e3, e4, e5]
  have hh : m = 0 ∨ m = 1 ∨ m = 2 ∨ m = 3 ∨ m = 4 ∨ m = 5 := by omega
  rcases hh with rfl | rfl | rfl | rfl | rfl | rfl
  · rw [d0]; exact e0.symm
  · rw [d1]; exact e1.symm
  · rw [d2]; exact e2.symm
  · rw [d3]; exact e3.symm
  · rw [d4]; exact e4.symm
  · rw [d5]; exact e5.symm
theorem lay_sh {s : Nat → Int32} (h : VS s) : ((z_lay s <<< ((1 : Int32) &&& 31)) ||| s 8) &&& 63 = z_lay (b_shift s) := by
  obtain ⟨b0, e0⟩ := z_01 (h.2.1 0 (by omega))
  obtain ⟨b1, e1⟩ := z_01 (h.2.1 1 (by omega))
  obtain ⟨b2, e2⟩ := z_01 (h.2.1 2 (by omega))
  obtain ⟨b3, e3⟩ := z_01 (h.2.1 3 (by omega))
  obtain ⟨b4, e4⟩ := z_01 (h.2.1 4 (by omega))
  obtain ⟨b5, e5⟩ := z_01 (h.2.1 5 (by omega))
  obtain ⟨l, el⟩ := z_01 h.1
  simp only [Nat.reduceAdd] at e0 e1 e2 e3 e4 e5
  show ((z_lay s <<< ((1 : Int32) &&& 31)) ||| s 8) &&& 63 = s 8 + 2 * s 14 + 4 * s 15 + 8 * s 16 + 16 * s 17 + 32 * s 18
  unfold z_lay
  rw [e0, e1, e2, e3, e4, e5, el]
  exact lay_s l b0 b1 b2 b3 b4 b5
theorem vr_kind {r : t_R} (h : VR r) {i : Nat} (hi : i < r.1) : r.2 1 i = 0 ∨ r.2 1 i = 1 ∨ (¬ r.2 1 i = 0 ∧ ¬ r.2 1 i = 1 ∧ ∃ k, 1 ≤ k ∧ k ≤ 6 ∧ r.2 2 i = nI k) := by
  rcases (h.2 i hi).2.1 with ⟨g, _⟩ | ⟨g, _⟩ | ⟨g, g1, g2⟩
  · exact Or.inl g
  · exact Or.inr (Or.inl g)
  · obtain ⟨k, k1, k2, k3⟩ := (i_rng 1 6 (by omega) (by omega)).mp ⟨g1, g2⟩
    exact Or.inr (Or.inr ⟨by rw [g]; decide, by rw [g]; decide, k, k1, k2, k3⟩)
section
variable {w : Nat}
theorem f_ago {M : z_Mem} {p : Nat} {s : Nat → Int32} (h : CS (M.1 p) (M.1 (p + 1)) s) (hv : VS s) {k : Nat} (hk : k ≤ 6) : F_X3_sideAgo w M p (nI k) = some (b_ago s (nI k), M) := by
  obtain ⟨_, _, _, s8, s9, _⟩ := h
  unfold F_X3_sideAgo b_ago
  rw [s8, s9]
  by_cases h0 : k = 0
  · subst h0; rw [if_pos nI_0, if_pos nI_0]
  · obtain ⟨m, rfl⟩ : ∃ m, k = m + 1 := ⟨k - 1, by omega⟩
    rw [if_neg (nI_ne0 (by omega) (by omega)), if_neg (nI_ne0 (by omega) (by omega)), nI_pred, lay_bit hv (by omega), nI_clamp (by omega)]
    rw [show 14 + m = 13 + (m + 1) by omega]
theorem f_layOf {M : z_Mem} {s : Nat → Int32} (h : BS (M.1 142) s) {k : Nat} (hk : k ≤ 6) : F_X12_layOf w M (nI k) = some (b_ago s (nI k), M) := by
  obtain ⟨_, _, _, s8, _, _, _, _, a1, a2, a3, a4, a5, a6⟩ := h
  unfold F_X12_layOf b_ago
  by_cases h0 : k = 0
  · subst h0; rw [if_pos nI_0, if_pos nI_0, s8]
  · rw [if_neg (nI_ne0 (by omega) (by omega)), if_neg (nI_ne0 (by omega) (by omega))]
    simp (decide := true) (disch := omega) only [k_13, Option.bind_some, wI_row, wI_slot, wI_same, wI_2, nI_p0, false_or, nle_f, nI_cl, n_lad, n_adl, nI_add, if_true, if_false, ite_true, ite_false]
    have hh : k = 1 ∨ k = 2 ∨ k = 3 ∨ k = 4 ∨ k = 5 ∨ k = 6 := by omega
    rcases hh with rfl | rfl | rfl | rfl | rfl | rfl
    · exact congrArg (fun v => some (v, M)) a1
    · exact congrArg (fun v => some (v, M)) a2
    · exact congrArg (fun v => some (v, M)) a3
    · exact congrArg (fun v => some (v, M)) a4
    · exact congrArg (fun v => some (v, M)) a5
    · exact congrArg (fun v => some (v, M)) a6
def R_c (M : z_Mem) (p : Nat) (r : t_R) : Prop := CR (M.1 (p + 2)) (M.1 (p + 3)) (M.1 (p + 4)) (M.1 (p + 5)) (M.1 (p + 6)) (M.1 (p + 7)) r
theorem f_bear {M : z_Mem} {p : Nat} {s : Nat → Int32} {r : t_R} (h : CS (M.1 p) (M.1 (p + 1)) s) (hr : R_c M p r) (hv : VS s) (hw : VR r) {i : Nat} (hi : i < r.1) : F_X3_isBearing w M p (nI i) = some (b_bear s r i, M) := by
  obtain ⟨g0, g1, g2, g3, g4⟩ := hr.2 i hi
  have h8 : M.1 p 8 = s 8 := h.2.2.2.1
  have h10 : M.1 p 10 = s 9 := h.2.2.2.2.2.1
  have hi8 : r.1 ≤ 8 := hw.1
  unfold F_X3_isBearing F_X6_isIn b_bear b_mon
  simp (decide := true) (disch := omega) only [h10, g4, Option.bind_some, wI_row, wI_slot, wI_same, wI_2, nI_p0, false_or, nle_f, nI_cl, n_lad, n_adl, nI_add, if_true, if_false, ite_true, ite_false]
  by_cases hm : ((r.2 4 i >>> ((s 9 - s 9 / 12 * 12) &&& 31)) &&& 1) = 1
  · simp (decide := true) (disch := omega) only [hm, g1, h8, g0, g2, Option.bind_some, wI_row, wI_slot, wI_same, wI_2, nI_p0, false_or, nle_f, nI_cl, n_lad, n_adl, nI_add, if_true, if_false, ite_true, ite_false]
    rcases vr_kind hw hi with k | k | ⟨k1, k2, m, m1, m2, m3⟩
    · by_cases q : s 8 = r.2 0 i
      · simp (decide := true) (disch := omega) only [k, q, decide_true, Option.bind_some, wI_row, wI_slot, wI_same, wI_2, nI_p0, false_or, nle_f, nI_cl, n_lad, n_adl, nI_add, if_true, if_false, ite_true, ite_false]
      · simp (decide := true) (disch := omega) only [k, q, decide_false, Option.bind_some, wI_row, wI_slot, wI_same, wI_2, nI_p0, false_or, nle_f, nI_cl, n_lad, n_adl, nI_add, if_true, if_false, ite_true, ite_false]
    · by_cases q : s 8 = r.2 0 i
      · simp (decide := true) (disch := omega) only [k, q, decide_true, Bool.not_true, Option.bind_some, wI_row, wI_slot, wI_same, wI_2, nI_p0, false_or, nle_f, nI_cl, n_lad, n_adl, nI_add, if_true, if_false, ite_true, ite_false]
      · simp (decide := true) (disch := omega) only [k, q, decide_false, Bool.not_false, Option.bind_some, wI_row, wI_slot, wI_same, wI_2, nI_p0, false_or, nle_f, nI_cl, n_lad, n_adl, nI_add, if_true, if_false, ite_true, ite_false]
    · have e := f_ago (w := w) h hv m2
      by_cases q : b_ago s (nI m) = r.2 0 i
      · simp (decide := true) (disch := omega) only [k1, k2, m3, e, q, decide_true, Option.bind_some, wI_row, wI_slot, wI_same, wI_2, nI_p0, false_or, nle_f, nI_cl, n_lad, n_adl, nI_add, if_true, if_false, ite_true, ite_false]
      · simp (decide := true) (disch := omega) only [k1, k2, m3, e, q, decide_false, Option.bind_some, wI_row, wI_slot, wI_same, wI_2, nI_p0, false_or, nle_f, nI_cl, n_lad, n_adl, nI_add, if_true, if_false, ite_true, ite_false]
  · simp (decide := true) (disch := omega) only [hm, Option.bind_some, wI_row, wI_slot, wI_same, wI_2, nI_p0, false_or, nle_f, nI_cl, n_lad, n_adl, nI_add, if_true, if_false, ite_true, ite_false]
theorem f_borne1 {M : z_Mem} {s : Nat → Int32} {r : t_R} (h : BS (M.1 142) s) (hr : BR (M.1 142) r) (hw : VR r) {i : Nat} (hi : i < r.1) : F_X12_isBorne w M (nI i) = some (b_bear s r i, M) := by
  obtain ⟨g0, g1, g2, g3, g4⟩ := hr.2 i hi
  have h8 : M.1 142 8 = s 8 := h.2.2.2.1
  have h9 : M.1 142 9 = s 9 := h.2.2.2.2.1
  have hi8 : r.1 ≤ 8 := hw.1
  unfold F_X12_isBorne F_X12_has b_bear b_mon
  simp (decide := true) (disch := omega) only [h9, g4, k_20, k_52, k_28, k_36, Option.bind_some, wI_row, wI_slot, wI_same, wI_2, nI_p0, false_or, nle_f, nI_cl, n_lad, n_adl, nI_add, if_true, if_false, ite_true, ite_false]
  by_cases hm : ((r.2 4 i >>> ((s 9 - s 9 / 12 * 12) &&& 31)) &&& 1) = 1
  · simp (decide := true) (disch := omega) only [hm, g1, h8, g0, g2, Option.bind_some, wI_row, wI_slot, wI_same, wI_2, nI_p0, false_or, nle_f, nI_cl, n_lad, n_adl, nI_add, if_true, if_false, ite_true, ite_false]
    rcases vr_kind hw hi with k | k | ⟨k1, k2, m, m1, m2, m3⟩
    · by_cases q : s 8 = r.2 0 i
      · simp (decide := true) (disch := omega) only [k, q, decide_true, Option.bind_some, wI_row, wI_slot, wI_same, wI_2, nI_p0, false_or, nle_f, nI_cl, n_lad, n_adl, nI_add, if_true, if_false, ite_true, ite_false]
      · simp (decide := true) (disch := omega) only [k, q, decide_false, Option.bind_some, wI_row, wI_slot, wI_same, wI_2, nI_p0, false_or, nle_f, nI_cl, n_lad, n_adl, nI_add, if_true, if_false, ite_true, ite_false]
    · by_cases q : s 8 = r.2 0 i
      · simp (decide := true) (disch := omega) only [k, q, decide_true, Bool.not_true, Option.bind_some, wI_row, wI_slot, wI_same, wI_2, nI_p0, false_or, nle_f, nI_cl, n_lad, n_adl, nI_add, if_true, if_false, ite_true, ite_false]
      · simp (decide := true) (disch := omega) only [k, q, decide_false, Bool.not_false, Option.bind_some, wI_row, wI_slot, wI_same, wI_2, nI_p0, false_or, nle_f, nI_cl, n_lad, n_adl, nI_add, if_true, if_false, ite_true, ite_false]
    · have e := f_layOf (w := w) h m2
      by_cases q : b_ago s (nI m) = r.2 0 i
      · simp (decide := true) (disch := omega) only [k1, k2, m3, e, q, decide_true, Option.bind_some, wI_row, wI_slot, wI_same, wI_2, nI_p0, false_or, nle_f, nI_cl, n_lad, n_adl, nI_add, if_true, if_false, ite_true, ite_false]
      · simp (decide := true) (disch := omega) only [k1, k2, m3, e, q, decide_false, Option.bind_some, wI_row, wI_slot, wI_same, wI_2, nI_p0, false_or, nle_f, nI_cl, n_lad, n_adl, nI_add, if_true, if_false, ite_true, ite_false]
  · simp (decide := true) (disch := omega) only [hm, Option.bind_some, wI_row, wI_slot, wI_same, wI_2, nI_p0, false_or, nle_f, nI_cl, n_lad, n_adl, nI_add, if_true, if_false, ite_true, ite_false]
end
