/-! ===== a month goes by: the reference, and both whole ===== -/
def Km (M M' : z_Mem) : Prop := (∀ a, a ≠ 142 → M'.1 a = M.1 a) ∧ (∀ k, 103 ≤ k → M'.1 142 k = M.1 142 k) ∧ M'.2 = M.2
theorem Km_r {M : z_Mem} : Km M M := ⟨fun _ _ => rfl, fun _ _ => rfl, rfl⟩
theorem Km_t {M N L : z_Mem} (h : Km M N) (g : Km N L) : Km M L := ⟨fun a ha => (g.1 a ha).trans (h.1 a ha), fun k hk => (g.2.1 k hk).trans (h.2.1 k hk), g.2.2.trans h.2.2⟩
theorem BR_of {f g : Nat → Int32} {r : t_R} (h : BR f r) (hr : VR r) (h0 : g 0 = f 0) (hk : ∀ k, 20 ≤ k → k < 60 → g k = f k) : BR g r := by
  have := hr.1
  refine ⟨by rw [h0]; exact h.1, fun i hi => ?_⟩
  rw [hk (20 + i) (by omega) (by omega), hk (28 + i) (by omega) (by omega), hk (36 + i) (by omega) (by omega), hk (44 + i) (by omega) (by omega), hk (52 + i) (by omega) (by omega)]
  exact h.2 i hi
theorem BC_of {f g : Nat → Int32} {c : t_C} (h : BC f c) (hv : VC c) (h0 : ∀ k, 2 ≤ k → k < 5 → g k = f k) (hk : ∀ k, 75 ≤ k → k < 103 → g k = f k) : BC g c := by
  obtain ⟨a1, a2, a3, a4, a5⟩ := h
  obtain ⟨v1, v2, v3, _⟩ := hv
  refine ⟨by rw [h0 2 (by omega) (by omega)]; exact a1, by rw [h0 3 (by omega) (by omega)]; exact a2, by rw [h0 4 (by omega) (by omega)]; exact a3, fun i hi => ?_, fun i hi => ?_⟩
  · rw [hk (75 + i) (by omega) (by omega), hk (83 + i) (by omega) (by omega)]; exact a4 i hi
  · rw [hk (91 + i) (by omega) (by omega), hk (97 + i) (by omega) (by omega)]; exact a5 i hi
theorem BD_of {f g : Nat → Int32} {d : Int32 × List t_D} (h : BD f d) (hv : VD d.2) (h1 : g 1 = f 1) (h10 : g 10 = f 10) (hk : ∀ k, 60 ≤ k → k < 75 → g k = f k) : BD g d := by
  refine ⟨by rw [h1]; exact h.1, by rw [h10]; exact h.2.1, fun i x hx => ?_⟩
  have h1 := d_lt hx
  have h2 := hv.1
  rw [hk (60 + i) (by omega) (by omega), hk (65 + i) (by omega) (by omega), hk (70 + i) (by omega) (by omega)]
  exact h.2.2 i x hx
theorem BY_of {f g : Nat → Int32} {y : t_Ys} (h : BY f y) (hk : ∀ k, 103 ≤ k → k < 375 → g k = f k) (hv : VY y) : BY g y := by
  refine ⟨by rw [hk 103 (by omega) (by omega)]; exact h.1, fun ht => ?_⟩
  obtain ⟨h1, h2⟩ := h.2 ht
  refine ⟨by rw [hk 104 (by omega) (by omega)]; exact h1, fun i r hi hn => ?_⟩
  have hb := h2 i r hi hn
  have hlt : y_no y.2 i < 30 := by
    have h30 := hv.2.1
    unfold y_no
    have e : y_steps y.2 = y_steps (y.2.take i) + y_steps (y.2.drop i) := by
      unfold y_steps
      rw [← List.length_append, ← List.filter_append, List.take_append_drop]
    have hil : i < y.2.length := by
      rcases Nat.lt_or_ge i y.2.length with q | q
      · exact q
      · rw [List.getElem?_eq_none q] at hi; cases hi
    have e2 : y.2.drop i = r :: y.2.drop (i + 1) := by
      rw [List.drop_eq_getElem_cons hil]
      rw [List.getElem?_eq_getElem hil] at hi
      cases hi
      rfl
    have e3 : 1 ≤ y_steps (y.2.drop i) := by
      rw [e2]
      unfold y_steps
      rw [List.filter_cons]
      have : (!(r.1 == 28)) = true := by simp [hn]
      rw [if_pos this, List.length_cons]
      omega
    omega
  unfold BYr at hb ⊢
  rw [hk (105 + 9 * y_no y.2 i) (by omega) (by omega), hk (106 + 9 * y_no y.2 i) (by omega) (by omega), hk (107 + 9 * y_no y.2 i) (by omega) (by omega), hk (108 + 9 * y_no y.2 i) (by omega) (by omega), hk (110 + 9 * y_no y.2 i) (by omega) (by omega), hk (111 + 9 * y_no y.2 i) (by omega) (by omega), hk (112 + 9 * y_no y.2 i) (by omega) (by omega), hk (113 + 9 * y_no y.2 i) (by omega) (by omega)]
  exact hb
section
variable {w : Nat}
theorem f_brings {M : z_Mem} {s : Nat → Int32} (h : BS (M.1 142) s) {x v : Int32} (hx : x = 0 ∨ x = 1) : ∃ M', F_X12_brings w M x v = some ((), M') ∧ BS (M'.1 142) (b_bring s x v) ∧ (∀ a, a ≠ 142 → M'.1 a = M.1 a) ∧ (∀ k, k < 12 ∨ 14 ≤ k → M'.1 142 k = M.1 142 k) ∧ M'.2 = M.2 := by
  obtain ⟨s5, s6, s7, s8, s9, s11, s12, s13, t1, t2, t3, t4, t5, t6⟩ := h
  rcases hx with rfl | rfl
  · refine ⟨z_wI M 142 12 (b_cap (s 12 + v)), ?_, ⟨?_, ?_, ?_, ?_, ?_, ?_, ?_, ?_, ?_, ?_, ?_, ?_, ?_, ?_⟩, fun a ha => wI_row ha, fun k hk => wI_slot (by omega), rfl⟩
    · show some ((), z_wI M 142 12 (b_cap (M.1 142 12 + v))) = _
      rw [s12]
    all_goals
      simp only [b_bring, show (0 : Int32).toNatClampNeg = 0 from rfl]
      simp (decide := true) (disch := omega) only [sU_n, sU_s, s5, s6, s7, s8, s9, s11, s12, s13, t1, t2, t3, t4, t5, t6, Nat.add_zero, Option.bind_some, wI_row, wI_slot, wI_same, wI_2, nI_p0, false_or, nle_f, nI_cl, n_lad, n_adl, nI_add, if_true, if_false, ite_true, ite_false]
  · refine ⟨z_wI M 142 13 (b_cap (s 13 + v)), ?_, ⟨?_, ?_, ?_, ?_, ?_, ?_, ?_, ?_, ?_, ?_, ?_, ?_, ?_, ?_⟩, fun a ha => wI_row ha, fun k hk => wI_slot (by omega), rfl⟩
    · show some ((), z_wI M 142 13 (b_cap (M.1 142 13 + v))) = _
      rw [s13]
    all_goals
      simp only [b_bring, show (1 : Int32).toNatClampNeg = 1 from rfl]
      simp (decide := true) (disch := omega) only [sU_n, sU_s, s5, s6, s7, s8, s9, s11, s12, s13, t1, t2, t3, t4, t5, t6, Nat.reduceAdd, Option.bind_some, wI_row, wI_slot, wI_same, wI_2, nI_p0, false_or, nle_f, nI_cl, n_lad, n_adl, nI_add, if_true, if_false, ite_true, ite_false]
theorem ml_pass0 {s : Nat → Int32} {r : t_R} (hr : VR r) : ∀ (m i c : Nat) (M : z_Mem), i + m = r.1 → m + 40 < c → BS (M.1 142) (b_upto s r i) → BR (M.1 142) r →
    ∃ c' M', 39 < c' ∧ L_X12_passes w c 0 M (b_set s r r.1) (nI i) = L_X12_passes w c' 1 M' 0 (M'.1 142 1 - 1) ∧ BS (M'.1 142) (b_upto s r r.1) ∧ (∀ a, a ≠ 142 → M'.1 a = M.1 a) ∧ (∀ k, k < 12 ∨ 14 ≤ k → M'.1 142 k = M.1 142 k) ∧ M'.2 = M.2 := by
  have hi8 : r.1 ≤ 8 := hr.1
  intro m
  induction m with
  | zero =>
    intro i c M h1 h2 hS hR
    obtain ⟨c, rfl⟩ : ∃ c', c = c' + 1 := ⟨c - 1, by omega⟩
    have : i = r.1 := by omega
    subst this
    refine ⟨c, M, by omega, ?_, hS, fun _ _ => rfl, fun _ _ => rfl, rfl⟩
    rw [L_X12_passes, if_pos rfl, hR.1, if_pos (nI_le (by omega) (by omega))]
  | succ m ih =>
    intro i c M h1 h2 hS hR
    obtain ⟨c, rfl⟩ : ∃ c', c = c' + 1 := ⟨c - 1, by omega⟩
    have hk : i < r.1 := by omega
    obtain ⟨g0, g1, g2, g3, g4⟩ := hR.2 i hk
    rw [L_X12_passes, if_pos rfl, hR.1, if_neg (nI_ge hk (by omega)), f_hasSet hr hk]
    cases hb : b_bear s r i
    · simp (decide := true) (disch := omega) only [nI_11, Bool.false_eq_true, Option.bind_some, wI_row, wI_slot, wI_same, wI_2, nI_p0, false_or, nle_f, nI_cl, n_lad, n_adl, nI_add, if_true, if_false, ite_true, ite_false]
      exact ih (i + 1) c M (by omega) (by omega) (by rw [b_upto, hb]; exact hS) hR
    · simp (decide := true) (disch := omega) only [nI_11, k_20, k_44, g0, g3, Option.bind_some, wI_row, wI_slot, wI_same, wI_2, nI_p0, false_or, nle_f, nI_cl, n_lad, n_adl, nI_add, if_true, if_false, ite_true, ite_false]
      obtain ⟨N, n1, n2, n3, n4, n5⟩ := f_brings (w := w) (v := r.2 3 i) hS (hr.2 i hk).1
      rw [n1]
      simp only [Option.bind_some]
      obtain ⟨c', M', r0, r1, r2, r3, r4, r5⟩ := ih (i + 1) c N (by omega) (by omega) (by rw [b_upto, hb]; exact n2) (BR_of hR hr (n4 0 (by omega)) (fun k k1 k2 => n4 k (by omega)))
      exact ⟨c', M', r0, r1, r2, fun a ha => (r3 a ha).trans (n3 a ha), fun k hk => (r4 k hk).trans (n4 k hk), r5.trans n5⟩
def m_shift (M : z_Mem) : z_Mem := z_wI (z_wI (z_wI (z_wI (z_wI (z_wI (z_wI M 142 19 (M.1 142 18)) 142 18 (M.1 142 17)) 142 17 (M.1 142 16)) 142 16 (M.1 142 15)) 142 15 (M.1 142 14)) 142 14 (M.1 142 8)) 142 9 (M.1 142 9 + 1)
theorem ml_shift (c : Nat) (M : z_Mem) (h : 10 < c) : L_X12_passes w c 2 M 0 6 = some ((), m_shift M) := by
  obtain ⟨c, rfl⟩ : ∃ c', c = c' + 6 := ⟨c - 6, by omega⟩
  rfl
theorem m_pass {M : z_Mem} {P : t_P} (h : BP (M.1 142) P) (hv : VP P) (hw : 1000 ≤ w) : ∃ M', F_X12_passes w M = some ((), M') ∧ BP (M'.1 142) (p_pass P) ∧ Km M M' := by
  obtain ⟨hS, hR, hD, hC, hY⟩ := h
  obtain ⟨vS, vR, vD, vC, vY⟩ := hv
  have hd5 : P.2.2.1.2.length ≤ 5 := vD.1
  unfold F_X12_passes
  rw [f_borne hS hR vR hw]
  simp only [Option.bind_some]
  obtain ⟨c', N, a0, a1, a2, a3, a4, a5⟩ := ml_pass0 (w := w) (s := P.1) vR P.2.1.1 0 w M (by omega) (by have := vR.1; omega) hS hR
  have e0 : nI 0 = (0 : Int32) := rfl
  rw [e0] at a1
  rw [a1]
  have hD2 := BD_of hD vD (a4 1 (by omega)) (a4 10 (by omega)) (fun k k1 k2 => a4 k (by omega))
  have eN : N.1 142 1 = nI P.2.2.1.2.length := hD2.1
  rw [eN]
  obtain ⟨L, b1, b2, b3⟩ := ml_age (w := w) (l := P.2.2.1.2) P.2.2.1.1 vD hw (fun M => some ((), m_shift M)) (fun c M hc => ml_shift c M hc) P.2.2.1.2.length c' N (by omega) (by omega) (by
    have : b_age (P.2.2.1.2.drop P.2.2.1.2.length) = [] := by simp [b_age]
    rw [this, List.take_length, List.append_nil, show P.2.2.1.2.length - P.2.2.1.2.length - ([] : List t_D).length = 0 by simp, show nI 0 = (0 : Int32) from rfl, Int32.add_zero]
    exact hD2)
  rw [b1]
  have hSL : ∀ k, 5 ≤ k → k < 20 → k ≠ 10 → L.1 142 k = N.1 142 k := fun k k1 k2 k3 => b3.2.1 k (by omega) k3 (by omega)
  obtain ⟨s5, s6, s7, s8, s9, s11, s12, s13, t1, t2, t3, t4, t5, t6⟩ := a2
  rw [← hSL 5 (by omega) (by omega) (by omega)] at s5
  rw [← hSL 6 (by omega) (by omega) (by omega)] at s6
  rw [← hSL 7 (by omega) (by omega) (by omega)] at s7
  rw [← hSL 8 (by omega) (by omega) (by omega)] at s8
  rw [← hSL 9 (by omega) (by omega) (by omega)] at s9
  rw [← hSL 11 (by omega) (by omega) (by omega)] at s11
  rw [← hSL 12 (by omega) (by omega) (by omega)] at s12
  rw [← hSL 13 (by omega) (by omega) (by omega)] at s13
  rw [← hSL 14 (by omega) (by omega) (by omega)] at t1
  rw [← hSL 15 (by omega) (by omega) (by omega)] at t2
  rw [← hSL 16 (by omega) (by omega) (by omega)] at t3
  rw [← hSL 17 (by omega) (by omega) (by omega)] at t4
  rw [← hSL 18 (by omega) (by omega) (by omega)] at t5
  have hms : ∀ k, k < 9 ∨ (10 ≤ k ∧ k < 14) ∨ 20 ≤ k → (m_shift L).1 142 k = L.1 142 k := by
    intro k hk
    unfold m_shift
    simp (decide := true) (disch := omega) only [Option.bind_some, wI_row, wI_slot, wI_same, wI_2, nI_p0, false_or, nle_f, nI_cl, n_lad, n_adl, nI_add, if_true, if_false, ite_true, ite_false]
  refine ⟨m_shift L, rfl, ⟨⟨?_, ?_, ?_, ?_, ?_, ?_, ?_, ?_, ?_, ?_, ?_, ?_, ?_, ?_⟩, ?_, ?_, ?_, ?_⟩, ?_, ?_, ?_⟩
  · simp (decide := true) (disch := omega) only [hms, p_pass, sU_n, b_shift, s5, Option.bind_some, wI_row, wI_slot, wI_same, wI_2, nI_p0, false_or, nle_f, nI_cl, n_lad, n_adl, nI_add, if_true, if_false, ite_true, ite_false]
  · simp (decide := true) (disch := omega) only [hms, p_pass, sU_n, b_shift, s6, Option.bind_some, wI_row, wI_slot, wI_same, wI_2, nI_p0, false_or, nle_f, nI_cl, n_lad, n_adl, nI_add, if_true, if_false, ite_true, ite_false]
  · simp (decide := true) (disch := omega) only [hms, p_pass, sU_n, b_shift, s7, Option.bind_some, wI_row, wI_slot, wI_same, wI_2, nI_p0, false_or, nle_f, nI_cl, n_lad, n_adl, nI_add, if_true, if_false, ite_true, ite_false]
  · simp (decide := true) (disch := omega) only [hms, p_pass, sU_n, b_shift, s8, Option.bind_some, wI_row, wI_slot, wI_same, wI_2, nI_p0, false_or, nle_f, nI_cl, n_lad, n_adl, nI_add, if_true, if_false, ite_true, ite_false]
  · simp (decide := true) (disch := omega) only [m_shift, p_pass, sU_s, s9, Option.bind_some, wI_row, wI_slot, wI_same, wI_2, nI_p0, false_or, nle_f, nI_cl, n_lad, n_adl, nI_add, if_true, if_false, ite_true, ite_false]
    rw [up_n P.1 P.2.1 P.2.1.1 9 (by omega) (fun i hi => (vR.2 i hi).1)]
  · simp (decide := true) (disch := omega) only [hms, p_pass, sU_n, b_shift, s11, Option.bind_some, wI_row, wI_slot, wI_same, wI_2, nI_p0, false_or, nle_f, nI_cl, n_lad, n_adl, nI_add, if_true, if_false, ite_true, ite_false]
  · simp (decide := true) (disch := omega) only [hms, p_pass, sU_n, b_shift, s12, Option.bind_some, wI_row, wI_slot, wI_same, wI_2, nI_p0, false_or, nle_f, nI_cl, n_lad, n_adl, nI_add, if_true, if_false, ite_true, ite_false]
  · simp (decide := true) (disch := omega) only [hms, p_pass, sU_n, b_shift, s13, Option.bind_some, wI_row, wI_slot, wI_same, wI_2, nI_p0, false_or, nle_f, nI_cl, n_lad, n_adl, nI_add, if_true, if_false, ite_true, ite_false]
  · simp (decide := true) (disch := omega) only [m_shift, p_pass, sU_n, b_shift, s8, Option.bind_some, wI_row, wI_slot, wI_same, wI_2, nI_p0, false_or, nle_f, nI_cl, n_lad, n_adl, nI_add, if_true, if_false, ite_true, ite_false]
  · simp (decide := true) (disch := omega) only [m_shift, p_pass, sU_n, b_shift, t1, Option.bind_some, wI_row, wI_slot, wI_same, wI_2, nI_p0, false_or, nle_f, nI_cl, n_lad, n_adl, nI_add, if_true, if_false, ite_true, ite_false]
  · simp (decide := true) (disch := omega) only [m_shift, p_pass, sU_n, b_shift, t2, Option.bind_some, wI_row, wI_slot, wI_same, wI_2, nI_p0, false_or, nle_f, nI_cl, n_lad, n_adl, nI_add, if_true, if_false, ite_true, ite_false]
  · simp (decide := true) (disch := omega) only [m_shift, p_pass, sU_n, b_shift, t3, Option.bind_some, wI_row, wI_slot, wI_same, wI_2, nI_p0, false_or, nle_f, nI_cl, n_lad, n_adl, nI_add, if_true, if_false, ite_true, ite_false]
  · simp (decide := true) (disch := omega) only [m_shift, p_pass, sU_n, b_shift, t4, Option.bind_some, wI_row, wI_slot, wI_same, wI_2, nI_p0, false_or, nle_f, nI_cl, n_lad, n_adl, nI_add, if_true, if_false, ite_true, ite_false]
  · simp (decide := true) (disch := omega) only [m_shift, p_pass, sU_n, b_shift, t5, Option.bind_some, wI_row, wI_slot, wI_same, wI_2, nI_p0, false_or, nle_f, nI_cl, n_lad, n_adl, nI_add, if_true, if_false, ite_true, ite_false]
  · refine BR_of hR vR ?_ ?_
    · rw [hms 0 (by omega), b3.2.1 0 (by omega) (by omega) (by omega), a4 0 (by omega)]
    · intro k k1 k2
      rw [hms k (by omega), b3.2.1 k (by omega) (by omega) (by omega), a4 k (by omega)]
  · refine ⟨?_, ?_, ?_⟩
    · rw [hms 1 (by omega)]; exact b2.1
    · rw [hms 10 (by omega)]; exact b2.2.1
    · intro i x hx
      have := d_lt hx
      rw [hms _ (by omega), hms _ (by omega), hms _ (by omega)]
      exact b2.2.2 i x hx
  · refine BC_of hC vC ?_ ?_
    · intro k k1 k2
      rw [hms k (by omega), b3.2.1 k (by omega) (by omega) (by omega), a4 k (by omega)]
    · intro k k1 k2
      rw [hms k (by omega), b3.2.1 k (by omega) (by omega) (by omega), a4 k (by omega)]
  · refine BY_of hY ?_ vY
    intro k k1 k2
    rw [hms k (by omega), b3.2.1 k (by omega) (by omega) (by omega), a4 k (by omega)]
  · intro a ha
    unfold m_shift
    simp (decide := true) (disch := omega) only [Option.bind_some, wI_row, wI_slot, wI_same, wI_2, nI_p0, false_or, nle_f, nI_cl, n_lad, n_adl, nI_add, if_true, if_false, ite_true, ite_false]
    rw [b3.1 a ha, a3 a ha]
  · intro k hk
    rw [hms k (by omega), b3.2.1 k (by omega) (by omega) (by omega), a4 k (by omega)]
  · exact b3.2.2.trans a5
theorem c_pass {M : z_Mem} {p : Nat} {P : t_P} (h : CP M p P) (hv : VP P) (hw : 1000 ≤ w) : ∃ M', F_X3_passMonth w M p = some ((), M') ∧ CP M' p (p_pass P) ∧ Kc p M M' := by
  obtain ⟨hS, hR, hD, hC, hY⟩ := h
  obtain ⟨vS, vR, vD, vC, vY⟩ := hv
  obtain ⟨M', r1, r2, r3, r4, r5⟩ := cl_pass (w := w) (d := P.2.2.1) vS vR vD.1 hw w 0 M (by have := vR.1; omega) (by omega) hS hR hD
  refine ⟨M', r1, ⟨r2, ?_, r3, ?_, ?_⟩, ?_, r5⟩
  · rw [r4 (p + 2) (by omega) (by omega) (by omega), r4 (p + 3) (by omega) (by omega) (by omega), r4 (p + 4) (by omega) (by omega) (by omega), r4 (p + 5) (by omega) (by omega) (by omega), r4 (p + 6) (by omega) (by omega) (by omega), r4 (p + 7) (by omega) (by omega) (by omega)]
    exact hR
  · rw [r4 (p + 12) (by omega) (by omega) (by omega), r4 (p + 13) (by omega) (by omega) (by omega), r4 (p + 14) (by omega) (by omega) (by omega), r4 (p + 15) (by omega) (by omega) (by omega), r4 (p + 16) (by omega) (by omega) (by omega)]
    exact hC
  · rw [r4 (p + 17) (by omega) (by omega) (by omega), r4 (p + 18) (by omega) (by omega) (by omega), r4 (p + 19) (by omega) (by omega) (by omega), r4 (p + 20) (by omega) (by omega) (by omega), r4 (p + 21) (by omega) (by omega) (by omega), r4 (p + 22) (by omega) (by omega) (by omega)]
    exact hY
  · intro a ha
    exact r4 a (by omega) (by omega) (by omega)
theorem b_age_v {l : List t_D} (h : VD l) : VD (b_age l) := by
  refine ⟨Nat.le_trans (b_age_le l) h.1, fun x hx => ?_⟩
  unfold b_age at hx
  obtain ⟨y, hy, e⟩ := List.mem_filterMap.mp hx
  obtain ⟨v1, v2, v3⟩ := h.2 y hy
  unfold b_one at e
  by_cases q : y.2.2 ≤ 1
  · rw [if_pos q] at e; cases e
  · rw [if_neg q] at e
    cases e
    refine ⟨v1, v2, ?_⟩
    obtain ⟨j, j1, j2, j3⟩ := (i_rng 1 24 (by omega) (by omega)).mp v3
    show 1 ≤ y.2.2 - 1 ∧ y.2.2 - 1 ≤ 24
    rw [j3] at q ⊢
    have q2 : 1 < j := by
      rcases Nat.lt_or_ge 1 j with g | g
      · exact g
      · exact absurd (nI_le g (by omega)) q
    rw [show nI j - 1 = nI (j - 1) from pk_sub (b := 1) (by omega)]
    exact ⟨nI_le (a := 1) (by omega) (by omega), nI_le (b := 24) (by omega) (by omega)⟩
theorem v_pass {P : t_P} (hv : VP P) : VP (p_pass P) := by
  obtain ⟨vS, vR, vD, vC, vY⟩ := hv
  obtain ⟨v1, v2, v3, v4, v5, v6, v7⟩ := up_v vS vR P.2.1.1 (by omega)
  refine ⟨⟨v1, ?_, v3, v4, v5, v6, v7⟩, vR, b_age_v vD, vC, vY⟩
  intro k hk
  have hh : k = 0 ∨ k = 1 ∨ k = 2 ∨ k = 3 ∨ k = 4 ∨ k = 5 := by omega
  rcases hh with rfl | rfl | rfl | rfl | rfl | rfl
  · exact v1
  · exact v2 0 (by omega)
  · exact v2 1 (by omega)
  · exact v2 2 (by omega)
  · exact v2 3 (by omega)
  · exact v2 4 (by omega)
end
