/-! ===== swearing, paying ===== -/
section
variable {w : Nat}
theorem CP_d {M M' : z_Mem} {p : Nat} {P : t_P} {d' : Int32 × List t_D} (h : CP M p P) (hd : D_c M' p d') (k : Kd p M M') : CP M' p (P.1, P.2.1, d', P.2.2.2) := by
  refine CP_sd h ?_ hd (fun a ha => k.1 a (by omega))
  unfold CK
  rw [k.1 p (by omega), k.1 (p + 1) (by omega)]
  exact h.1
theorem BP_d {M M' : z_Mem} {P : t_P} {d' : Int32 × List t_D} (h : BP (M.1 142) P) (hv : VP P) (hd : BD (M'.1 142) d') (k : Kb M M') : BP (M'.1 142) (P.1, P.2.1, d', P.2.2.2) := by
  refine BP_sd h hv ?_ hd (fun j hj => k.2.1 j (by omega) (by omega) (by omega))
  obtain ⟨s5, s6, s7, s8, s9, s11, s12, s13, t1, t2, t3, t4, t5, t6⟩ := h.1
  have e : ∀ j, 5 ≤ j → j < 20 → j ≠ 10 → M'.1 142 j = M.1 142 j := fun j a b c => k.2.1 j (by omega) c (by omega)
  refine ⟨?_, ?_, ?_, ?_, ?_, ?_, ?_, ?_, ?_, ?_, ?_, ?_, ?_, ?_⟩
  all_goals
    simp (decide := true) (disch := omega) only [e, Option.bind_some, wI_row, wI_slot, wI_same, wI_2, nI_p0, false_or, nle_f, nI_cl, n_lad, n_adl, nI_add, if_true, if_false, ite_true, ite_false]
    assumption
theorem Kc_d {p : Nat} {M M' : z_Mem} (k : Kd p M M') : Kc p M M' := ⟨fun a ha => k.1 a (by omega), k.2⟩
theorem Km_b {M M' : z_Mem} (k : Kb M M') : Km M M' := ⟨k.1, fun j hj => k.2.1 j (by omega) (by omega) (by omega), k.2.2⟩
theorem c_swear {M : z_Mem} {p : Nat} {P : t_P} (h : CP M p P) (hl : P.2.2.1.2.length < 5) (x y z : Int32) : ∃ M', F_X1_add w M p x y z = some (true, M') ∧ CP M' p (p_swear P x y z) ∧ Kc p M M' := by
  obtain ⟨M', r1, r2, r3⟩ := f_addD (w := w) (d := P.2.2.1) h.2.2.1 hl x y z
  exact ⟨M', r1, CP_d h r2 r3, Kc_d r3⟩
theorem m_swear {M : z_Mem} {P : t_P} (h : BP (M.1 142) P) (hv : VP P) (hl : P.2.2.1.2.length < 5) (x y z : Int32) : ∃ M', F_X12_swears w M 0 x y z = some ((), M') ∧ BP (M'.1 142) (p_swear P x y z) ∧ Km M M' := by
  obtain ⟨hc, hd, ha⟩ := h.2.2.1
  have kb : Kb M (z_wI (z_wI (z_wI (z_wI M 142 (60 + P.2.2.1.2.length) x) 142 (65 + P.2.2.1.2.length) y) 142 (70 + P.2.2.1.2.length) z) 142 1 (nI (P.2.2.1.2.length + 1))) := by
    refine ⟨fun a ha => ?_, fun k k1 k2 k3 => ?_, rfl⟩
    · simp (decide := true) (disch := omega) only [Option.bind_some, wI_row, wI_slot, wI_same, wI_2, nI_p0, false_or, nle_f, nI_cl, n_lad, n_adl, nI_add, if_true, if_false, ite_true, ite_false]
    · simp (decide := true) (disch := omega) only [Option.bind_some, wI_row, wI_slot, wI_same, wI_2, nI_p0, false_or, nle_f, nI_cl, n_lad, n_adl, nI_add, if_true, if_false, ite_true, ite_false]
  refine ⟨z_wI (z_wI (z_wI (z_wI M 142 (60 + P.2.2.1.2.length) x) 142 (65 + P.2.2.1.2.length) y) 142 (70 + P.2.2.1.2.length) z) 142 1 (nI (P.2.2.1.2.length + 1)), ?_, BP_d h hv ⟨?_, ?_, ?_⟩ kb, Km_b kb⟩
  · unfold F_X12_swears
    simp only [show (375 : Int32) * 0 + 1 = nI 1 from rfl, show (375 : Int32) * 0 + 60 = nI 60 from rfl, show (375 : Int32) * 0 + 65 = nI 65 from rfl, show (375 : Int32) * 0 + 70 = nI 70 from rfl]
    simp (decide := true) (disch := omega) only [hc, nI_11, Option.bind_some, wI_row, wI_slot, wI_same, wI_2, nI_p0, false_or, nle_f, nI_cl, n_lad, n_adl, nI_add, if_true, if_false, ite_true, ite_false]
  · simp [wI_rd]
  · simp (decide := true) (disch := omega) only [hd, Option.bind_some, wI_row, wI_slot, wI_same, wI_2, nI_p0, false_or, nle_f, nI_cl, n_lad, n_adl, nI_add, if_true, if_false, ite_true, ite_false]
  · refine d_app ?_ ?_
    · intro i u hu
      have hi := d_lt hu
      simp (decide := true) (disch := omega) only [Option.bind_some, wI_row, wI_slot, wI_same, wI_2, nI_p0, false_or, nle_f, nI_cl, n_lad, n_adl, nI_add, if_true, if_false, ite_true, ite_false]
      exact ha i u hu
    · simp (decide := true) (disch := omega) only [Option.bind_some, wI_row, wI_slot, wI_same, wI_2, nI_p0, false_or, nle_f, nI_cl, n_lad, n_adl, nI_add, if_true, if_false, ite_true, ite_false]
theorem v_swear {P : t_P} (hv : VP P) (hl : P.2.2.1.2.length < 5) {x y z : Int32} (hx : x = 0 ∨ x = 1) (hy : 1 ≤ y ∧ y ≤ 99) (hz : 1 ≤ z ∧ z ≤ 24) : VP (p_swear P x y z) := by
  obtain ⟨vS, vR, vD, vC, vY⟩ := hv
  refine ⟨vS, vR, ⟨by simp [p_swear]; omega, ?_⟩, vC, vY⟩
  intro u hu
  simp only [p_swear, List.mem_append, List.mem_singleton] at hu
  rcases hu with g | g
  · exact vD.2 u g
  · subst g; exact ⟨hx, hy, hz⟩
theorem c_pay {M : z_Mem} {p : Nat} {P : t_P} (h : CP M p P) (hv : VP P) {g : Nat} {x : t_D} (hx : P.2.2.1.2[g]? = some x) (hw : 1000 ≤ w) : (q_pay P.1 x → ∃ M', F_X3_payDebt w M p (nI g) = some (true, M') ∧ CP M' p (p_pay P g x) ∧ Kc p M M') ∧ (¬ q_pay P.1 x → F_X3_payDebt w M p (nI g) = some (false, M)) := by
  obtain ⟨s5, s6, s7, s8, s9, s10, s11, s12, s13⟩ := h.1
  have hg := d_lt hx
  have h5 : P.2.2.1.2.length ≤ 5 := hv.2.2.1.1
  obtain ⟨d0, d1, d2⟩ := h.2.2.1
  obtain ⟨x1, x2, x3⟩ := d2 g x hx
  have e1 : F_X1_isThere w M p (nI g) = some (true, M) := thD_t d0 (by omega) hg
  unfold q_pay F_X3_payDebt
  have hside := (hv.2.2.1.2 x (List.mem_of_getElem? hx)).1
  have key : ∀ (k : Nat), k < 2 → x.1 = nI k → M.1 (p + 1) k = P.1 (12 + k) → (q_pay P.1 x → ∃ M', ((F_X3_bring w (z_wI M (p + 1) k (P.1 (12 + k) - x.2.1)) p (1 - nI k) x.2.1).bind fun q10 => (F_X1_drop w q10.2 p (nI g)).bind fun q12 => some (true, q12.2)) = some (true, M') ∧ CP M' p (p_pay P g x) ∧ Kc p M M') := by
    intro k hk hxk hck _
    have hS : CK (z_wI M (p + 1) k (P.1 (12 + k) - x.2.1)) p (sU P.1 (12 + k) (P.1 (12 + k) - x.2.1)) := by
      rcases (show k = 0 ∨ k = 1 by omega) with rfl | rfl
      · refine ⟨?_, ?_, ?_, ?_, ?_, ?_, ?_, ?_, ?_⟩
        all_goals simp (decide := true) (disch := omega) only [sU_n, sU_s, s5, s6, s7, s8, s9, s10, s11, s12, s13, Nat.add_zero, z_lay, Option.bind_some, wI_row, wI_slot, wI_same, wI_2, nI_p0, false_or, nle_f, nI_cl, n_lad, n_adl, nI_add, if_true, if_false, ite_true, ite_false]
      · refine ⟨?_, ?_, ?_, ?_, ?_, ?_, ?_, ?_, ?_⟩
        all_goals simp (decide := true) (disch := omega) only [sU_n, sU_s, s5, s6, s7, s8, s9, s10, s11, s12, s13, Nat.reduceAdd, z_lay, Option.bind_some, wI_row, wI_slot, wI_same, wI_2, nI_p0, false_or, nle_f, nI_cl, n_lad, n_adl, nI_add, if_true, if_false, ite_true, ite_false]
    have hside2 : (1 : Int32) - nI k = 0 ∨ (1 : Int32) - nI k = 1 := by
      rcases (show k = 0 ∨ k = 1 by omega) with rfl | rfl
      · exact Or.inr rfl
      · exact Or.inl rfl
    obtain ⟨N, n1, n2, n3, n4⟩ := f_bring (w := w) (v := x.2.1) hS hside2
    rw [n1]
    simp only [Option.bind_some]
    have hDN : D_c N p P.2.2.1 := by
      unfold D_c
      rw [n3 (p + 8) (by omega), n3 (p + 9) (by omega), n3 (p + 10) (by omega), n3 (p + 11) (by omega), wI_row (by omega), wI_row (by omega), wI_row (by omega), wI_row (by omega)]
      exact h.2.2.1
    obtain ⟨L, l1, l2, l3⟩ := f_drop (w := w) hDN h5 hg hw
    rw [l1]
    refine ⟨L, rfl, CP_sd h ?_ l2 (fun a ha => ?_), fun a ha => ?_, ?_⟩
    · unfold CK
      rw [l3.1 p (by omega), l3.1 (p + 1) (by omega), hxk, nI_clamp (by omega)]
      exact n2
    · rw [l3.1 a (by omega), n3 a (by omega), wI_row (by omega)]
    · rw [l3.1 a (by omega), n3 a (by omega), wI_row (by omega)]
    · rw [l3.2, n4]; rfl
  rcases hside with q | q
  · have k0 := key 0 (by omega) q s12
    rw [q] at x1 ⊢
    simp only [show (0 : Int32) = nI 0 from rfl] at x1
    simp only [show (0 : Int32).toNatClampNeg = 0 from rfl]
    simp (decide := true) (disch := omega) only [e1, x1, x2, s12, Nat.add_zero, Option.bind_some, wI_row, wI_slot, wI_same, wI_2, nI_p0, false_or, nle_f, nI_cl, n_lad, n_adl, nI_add, if_true, if_false, ite_true, ite_false]
    constructor
    · intro u
      rw [if_pos u]
      refine k0 ?_
      unfold q_pay
      rw [q]
      exact u
    · intro u
      rw [if_neg u]
  · have k0 := key 1 (by omega) q s13
    rw [q] at x1 ⊢
    simp only [show (1 : Int32) = nI 1 from rfl] at x1
    simp only [show (1 : Int32).toNatClampNeg = 1 from rfl]
    simp (decide := true) (disch := omega) only [e1, x1, x2, s13, Nat.reduceAdd, Option.bind_some, wI_row, wI_slot, wI_same, wI_2, nI_p0, false_or, nle_f, nI_cl, n_lad, n_adl, nI_add, if_true, if_false, ite_true, ite_false]
    constructor
    · intro u
      rw [if_pos u]
      refine k0 ?_
      unfold q_pay
      rw [q]
      exact u
    · intro u
      rw [if_neg u]
theorem m_pay {M : z_Mem} {P : t_P} (h : BP (M.1 142) P) (hv : VP P) {g : Nat} {x : t_D} (hx : P.2.2.1.2[g]? = some x) (hw : 1000 ≤ w) : (q_pay P.1 x → ∃ M', F_X12_pays w M (nI g) = some (true, M') ∧ BP (M'.1 142) (p_pay P g x) ∧ Km M M') ∧ (¬ q_pay P.1 x → F_X12_pays w M (nI g) = some (false, M)) := by
  obtain ⟨s5, s6, s7, s8, s9, s11, s12, s13, t1, t2, t3, t4, t5, t6⟩ := h.1
  have hg := d_lt hx
  have h5 : P.2.2.1.2.length ≤ 5 := hv.2.2.1.1
  obtain ⟨d0, d1, d2⟩ := h.2.2.1
  obtain ⟨x1, x2, x3⟩ := d2 g x hx
  have e1 := is_t (w := w) (M := M) hg (by omega)
  unfold q_pay F_X12_pays F_X12_isDebtAt
  have hside := (hv.2.2.1.2 x (List.mem_of_getElem? hx)).1
  have key : ∀ (k : Nat), k < 2 → x.1 = nI k → (q_pay P.1 x → ∃ M', ((F_X12_brings w (z_wI M 142 (12 + k) (P.1 (12 + k) - x.2.1)) (1 - nI k) x.2.1).bind fun q10 => (F_X12_dropDebt w q10.2 (nI g)).bind fun q12 => some (true, q12.2)) = some (true, M') ∧ BP (M'.1 142) (p_pay P g x) ∧ Km M M') := by
    intro k hk hxk _
    have hS : BS ((z_wI M 142 (12 + k) (P.1 (12 + k) - x.2.1)).1 142) (sU P.1 (12 + k) (P.1 (12 + k) - x.2.1)) := by
      rcases (show k = 0 ∨ k = 1 by omega) with rfl | rfl
      · refine ⟨?_, ?_, ?_, ?_, ?_, ?_, ?_, ?_, ?_, ?_, ?_, ?_, ?_, ?_⟩
        all_goals simp (decide := true) (disch := omega) only [sU_n, sU_s, s5, s6, s7, s8, s9, s11, s12, s13, t1, t2, t3, t4, t5, t6, Nat.add_zero, Option.bind_some, wI_row, wI_slot, wI_same, wI_2, nI_p0, false_or, nle_f, nI_cl, n_lad, n_adl, nI_add, if_true, if_false, ite_true, ite_false]
      · refine ⟨?_, ?_, ?_, ?_, ?_, ?_, ?_, ?_, ?_, ?_, ?_, ?_, ?_, ?_⟩
        all_goals simp (decide := true) (disch := omega) only [sU_n, sU_s, s5, s6, s7, s8, s9, s11, s12, s13, t1, t2, t3, t4, t5, t6, Nat.reduceAdd, Option.bind_some, wI_row, wI_slot, wI_same, wI_2, nI_p0, false_or, nle_f, nI_cl, n_lad, n_adl, nI_add, if_true, if_false, ite_true, ite_false]
    have hside2 : (1 : Int32) - nI k = 0 ∨ (1 : Int32) - nI k = 1 := by
      rcases (show k = 0 ∨ k = 1 by omega) with rfl | rfl
      · exact Or.inr rfl
      · exact Or.inl rfl
    obtain ⟨N, n1, n2, n3, n4, n5⟩ := f_brings (w := w) (v := x.2.1) hS hside2
    rw [n1]
    simp only [Option.bind_some]
    have hnk : ∀ j, j < 12 ∨ 14 ≤ j → N.1 142 j = M.1 142 j := fun j hj => by rw [n4 j hj, wI_slot (by omega)]
    have hDN : BD (N.1 142) P.2.2.1 := BD_of h.2.2.1 hv.2.2.1 (hnk 1 (by omega)) (hnk 10 (by omega)) (fun j a b => hnk j (by omega))
    obtain ⟨L, l1, l2, l3⟩ := f_dropB (w := w) hDN h5 hg hw
    rw [l1]
    have e : ∀ j, 5 ≤ j → j < 20 → j ≠ 10 → L.1 142 j = N.1 142 j := fun j a b c => l3.2.1 j (by omega) c (by omega)
    refine ⟨L, rfl, BP_sd h hv ?_ l2 (fun j hj => ?_), fun a ha => ?_, fun j hj => ?_, ?_⟩
    · rw [hxk, nI_clamp (by omega)]
      obtain ⟨u5, u6, u7, u8, u9, u11, u12, u13, v1, v2, v3, v4, v5, v6⟩ := n2
      refine ⟨?_, ?_, ?_, ?_, ?_, ?_, ?_, ?_, ?_, ?_, ?_, ?_, ?_, ?_⟩
      all_goals
        simp (decide := true) (disch := omega) only [e, Option.bind_some, wI_row, wI_slot, wI_same, wI_2, nI_p0, false_or, nle_f, nI_cl, n_lad, n_adl, nI_add, if_true, if_false, ite_true, ite_false]
        assumption
    · rw [l3.2.1 j (by omega) (by omega) (by omega), hnk j (by omega)]
    · rw [l3.1 a ha, n3 a ha, wI_row ha]
    · rw [l3.2.1 j (by omega) (by omega) (by omega), hnk j (by omega)]
    · rw [l3.2.2, n5]; rfl
  rcases hside with q | q
  · have k0 := key 0 (by omega) q
    rw [q] at x1 ⊢
    simp only [show (0 : Int32) = nI 0 from rfl] at x1
    simp only [show (0 : Int32).toNatClampNeg = 0 from rfl]
    simp (decide := true) (disch := omega) only [d0, e1, x1, x2, s12, k_60, k_65, k_12, Nat.add_zero, Option.bind_some, wI_row, wI_slot, wI_same, wI_2, nI_p0, false_or, nle_f, nI_cl, n_lad, n_adl, nI_add, if_true, if_false, ite_true, ite_false]
    constructor
    · intro u
      rw [if_pos u]
      refine k0 ?_
      unfold q_pay
      rw [q]
      exact u
    · intro u
      rw [if_neg u]
  · have k0 := key 1 (by omega) q
    rw [q] at x1 ⊢
    simp only [show (1 : Int32) = nI 1 from rfl] at x1
    simp only [show (1 : Int32).toNatClampNeg = 1 from rfl]
    simp (decide := true) (disch := omega) only [d0, e1, x1, x2, s13, k_60, k_65, k_12, Nat.reduceAdd, Option.bind_some, wI_row, wI_slot, wI_same, wI_2, nI_p0, false_or, nle_f, nI_cl, n_lad, n_adl, nI_add, if_true, if_false, ite_true, ite_false]
    constructor
    · intro u
      rw [if_pos u]
      refine k0 ?_
      unfold q_pay
      rw [q]
      exact u
    · intro u
      rw [if_neg u]
theorem v_pay {P : t_P} (hv : VP P) {g : Nat} {x : t_D} (hx : P.2.2.1.2[g]? = some x) (q : q_pay P.1 x) : VP (p_pay P g x) := by
  obtain ⟨⟨v1, v2, v3, v4, v5, v6, v7⟩, vR, vD, vC, vY⟩ := hv
  have hm := vD.2 x (List.mem_of_getElem? hx)
  have hg := d_lt hx
  have hx0 : 0 ≤ x.2.1 ∧ x.2.1 ≤ 9999 := by
    obtain ⟨j, j1, j2, j3⟩ := (i_rng 1 99 (by omega) (by omega)).mp hm.2.1
    rw [j3]
    exact ⟨nI_pos' (by omega), nI_le (b := 9999) (by omega) (by omega)⟩
  refine ⟨?_, vR, ⟨?_, fun u hu => vD.2 u (List.mem_of_mem_eraseIdx hu)⟩, vC, vY⟩
  · unfold q_pay at q
    unfold p_pay b_bring
    rcases hm.1 with e | e
    · rw [e] at q ⊢
      simp only [show (1 : Int32) - 0 = 1 from rfl, show (1 : Int32).toNatClampNeg = 1 from rfl, show (0 : Int32).toNatClampNeg = 0 from rfl, Nat.reduceAdd, Nat.add_zero] at q ⊢
      refine ⟨?_, fun k hk => ?_, ?_, ?_, ?_, ?_, ?_⟩
      · simp (decide := true) (disch := omega) only [sU_n, sU_s, Option.bind_some, wI_row, wI_slot, wI_same, wI_2, nI_p0, false_or, nle_f, nI_cl, n_lad, n_adl, nI_add, if_true, if_false, ite_true, ite_false]
        exact v1
      · simp (decide := true) (disch := omega) only [sU_n, Option.bind_some, wI_row, wI_slot, wI_same, wI_2, nI_p0, false_or, nle_f, nI_cl, n_lad, n_adl, nI_add, if_true, if_false, ite_true, ite_false]
        exact v2 k hk
      · simp (decide := true) (disch := omega) only [sU_n, sU_s, Option.bind_some, wI_row, wI_slot, wI_same, wI_2, nI_p0, false_or, nle_f, nI_cl, n_lad, n_adl, nI_add, if_true, if_false, ite_true, ite_false]
        exact i_subr v3 hx0.1 q
      · simp (decide := true) (disch := omega) only [sU_n, sU_s, Option.bind_some, wI_row, wI_slot, wI_same, wI_2, nI_p0, false_or, nle_f, nI_cl, n_lad, n_adl, nI_add, if_true, if_false, ite_true, ite_false]
        exact cap_in v4 hx0
      · simp (decide := true) (disch := omega) only [sU_n, Option.bind_some, wI_row, wI_slot, wI_same, wI_2, nI_p0, false_or, nle_f, nI_cl, n_lad, n_adl, nI_add, if_true, if_false, ite_true, ite_false]
        exact v5
      · simp (decide := true) (disch := omega) only [sU_n, Option.bind_some, wI_row, wI_slot, wI_same, wI_2, nI_p0, false_or, nle_f, nI_cl, n_lad, n_adl, nI_add, if_true, if_false, ite_true, ite_false]
        exact v6
      · simp (decide := true) (disch := omega) only [sU_n, Option.bind_some, wI_row, wI_slot, wI_same, wI_2, nI_p0, false_or, nle_f, nI_cl, n_lad, n_adl, nI_add, if_true, if_false, ite_true, ite_false]
        exact v7
    · rw [e] at q ⊢
      simp only [show (1 : Int32) - 1 = 0 from rfl, show (1 : Int32).toNatClampNeg = 1 from rfl, show (0 : Int32).toNatClampNeg = 0 from rfl, Nat.reduceAdd, Nat.add_zero] at q ⊢
      refine ⟨?_, fun k hk => ?_, ?_, ?_, ?_, ?_, ?_⟩
      · simp (decide := true) (disch := omega) only [sU_n, sU_s, Option.bind_some, wI_row, wI_slot, wI_same, wI_2, nI_p0, false_or, nle_f, nI_cl, n_lad, n_adl, nI_add, if_true, if_false, ite_true, ite_false]
        exact v1
      · simp (decide := true) (disch := omega) only [sU_n, Option.bind_some, wI_row, wI_slot, wI_same, wI_2, nI_p0, false_or, nle_f, nI_cl, n_lad, n_adl, nI_add, if_true, if_false, ite_true, ite_false]
        exact v2 k hk
      · simp (decide := true) (disch := omega) only [sU_n, sU_s, Option.bind_some, wI_row, wI_slot, wI_same, wI_2, nI_p0, false_or, nle_f, nI_cl, n_lad, n_adl, nI_add, if_true, if_false, ite_true, ite_false]
        exact cap_in v3 hx0
      · simp (decide := true) (disch := omega) only [sU_n, sU_s, Option.bind_some, wI_row, wI_slot, wI_same, wI_2, nI_p0, false_or, nle_f, nI_cl, n_lad, n_adl, nI_add, if_true, if_false, ite_true, ite_false]
        exact i_subr v4 hx0.1 q
      · simp (decide := true) (disch := omega) only [sU_n, Option.bind_some, wI_row, wI_slot, wI_same, wI_2, nI_p0, false_or, nle_f, nI_cl, n_lad, n_adl, nI_add, if_true, if_false, ite_true, ite_false]
        exact v5
      · simp (decide := true) (disch := omega) only [sU_n, Option.bind_some, wI_row, wI_slot, wI_same, wI_2, nI_p0, false_or, nle_f, nI_cl, n_lad, n_adl, nI_add, if_true, if_false, ite_true, ite_false]
        exact v6
      · simp (decide := true) (disch := omega) only [sU_n, Option.bind_some, wI_row, wI_slot, wI_same, wI_2, nI_p0, false_or, nle_f, nI_cl, n_lad, n_adl, nI_add, if_true, if_false, ite_true, ite_false]
        exact v7
  · show (P.2.2.1.2.eraseIdx g).length ≤ 5
    rw [List.length_eraseIdx, if_pos hg]
    have := vD.1
    omega
end
