/-! ===== copies of a parish ===== -/
def Kr (lo hi : Nat) (M M' : z_Mem) : Prop := (∀ a, a < lo ∨ hi ≤ a → M'.1 a = M.1 a) ∧ M'.2 = M.2
theorem Kr_r {lo hi : Nat} {M : z_Mem} : Kr lo hi M M := ⟨fun _ _ => rfl, rfl⟩
theorem Kr_t {lo hi : Nat} {M N L : z_Mem} (h : Kr lo hi M N) (g : Kr lo hi N L) : Kr lo hi M L := ⟨fun a ha => (g.1 a ha).trans (h.1 a ha), g.2.trans h.2⟩
section
variable {w : Nat}
theorem cl_copyR {p q : Nat} (hpq : p + 23 ≤ q ∨ q + 23 ≤ p) {r : t_R} (hr : r.1 ≤ 8) : ∀ (c i : Nat) (M : z_Mem), r.1 < c + i → i ≤ r.1 → R_c M q r → M.1 (p + 2) 5 = nI r.1 →
    (∀ j, j < i → M.1 (p + 3) j = r.2 0 j ∧ M.1 (p + 4) j = r.2 1 j ∧ M.1 (p + 5) j = r.2 2 j ∧ M.1 (p + 6) j = r.2 3 j ∧ M.1 (p + 7) j = r.2 4 j) →
    ∃ M', L_X6_copyFrom w p q c M (nI i) = some ((), M') ∧ R_c M' p r ∧ Kr (p + 2) (p + 8) M M' := by
  intro c
  induction c with
  | zero => intro i M h1; omega
  | succ c ih =>
    intro i M h1 h2 hq hc hj
    rw [L_X6_copyFrom]
    by_cases hk : i < r.1
    · obtain ⟨g0, g1, g2, g3, g4⟩ := hq.2 i hk
      simp (decide := true) (disch := omega) only [hc, nI_l1, nI_11, g0, g1, g2, g3, g4, Option.bind_some, wI_row, wI_slot, wI_same, wI_2, nI_p0, false_or, nle_f, nI_cl, n_lad, n_adl, nI_add, if_true, if_false, ite_true, ite_false]
      obtain ⟨M', r1, r2, r3⟩ := ih (i + 1) (z_wI (z_wI (z_wI (z_wI (z_wI M (p + 3) i (r.2 0 i)) (p + 4) i (r.2 1 i)) (p + 5) i (r.2 2 i)) (p + 6) i (r.2 3 i)) (p + 7) i (r.2 4 i)) (by omega) (by omega) (by
        unfold R_c at hq ⊢
        simp (decide := true) (disch := omega) only [Option.bind_some, wI_row, wI_slot, wI_same, wI_2, nI_p0, false_or, nle_f, nI_cl, n_lad, n_adl, nI_add, if_true, if_false, ite_true, ite_false]
        exact hq) (by simp (decide := true) (disch := omega) only [hc, Option.bind_some, wI_row, wI_slot, wI_same, wI_2, nI_p0, false_or, nle_f, nI_cl, n_lad, n_adl, nI_add, if_true, if_false, ite_true, ite_false]) (by
        intro j hj2
        by_cases e : j = i
        · subst e
          simp (decide := true) (disch := omega) only [Option.bind_some, wI_row, wI_slot, wI_same, wI_2, nI_p0, false_or, nle_f, nI_cl, n_lad, n_adl, nI_add, if_true, if_false, ite_true, ite_false]
        · simp (decide := true) (disch := omega) only [Option.bind_some, wI_row, wI_slot, wI_same, wI_2, nI_p0, false_or, nle_f, nI_cl, n_lad, n_adl, nI_add, if_true, if_false, ite_true, ite_false]
          exact hj j (by omega))
      refine ⟨M', r1, r2, Kr_t ?_ r3⟩
      refine ⟨fun a ha => ?_, rfl⟩
      simp (decide := true) (disch := omega) only [Option.bind_some, wI_row, wI_slot, wI_same, wI_2, nI_p0, false_or, nle_f, nI_cl, n_lad, n_adl, nI_add, if_true, if_false, ite_true, ite_false]
    · have : i = r.1 := by omega
      subst this
      refine ⟨M, ?_, ⟨hc, hj⟩, Kr_r⟩
      simp (decide := true) (disch := omega) only [hc, nI_leP, Option.bind_some, wI_row, wI_slot, wI_same, wI_2, nI_p0, false_or, nle_f, nI_cl, n_lad, n_adl, nI_add, if_true, if_false, ite_true, ite_false]
theorem f_copyR {M : z_Mem} {p q : Nat} (hpq : p + 23 ≤ q ∨ q + 23 ≤ p) {r : t_R} (hr : r.1 ≤ 8) (h : R_c M q r) (hw : 1000 ≤ w) : ∃ M', F_X6_copyFrom w M p q = some ((), M') ∧ R_c M' p r ∧ Kr (p + 2) (p + 8) M M' := by
  unfold F_X6_copyFrom
  rw [h.1]
  obtain ⟨M', r1, r2, r3⟩ := cl_copyR (w := w) hpq hr w 0 (z_wI M (p + 2) 5 (nI r.1)) (by omega) (by omega) (by
    unfold R_c at h ⊢
    simp (decide := true) (disch := omega) only [Option.bind_some, wI_row, wI_slot, wI_same, wI_2, nI_p0, false_or, nle_f, nI_cl, n_lad, n_adl, nI_add, if_true, if_false, ite_true, ite_false]
    exact h) (by simp (decide := true) (disch := omega) only [Option.bind_some, wI_row, wI_slot, wI_same, wI_2, nI_p0, false_or, nle_f, nI_cl, n_lad, n_adl, nI_add, if_true, if_false, ite_true, ite_false]) (by intro j hj; omega)
  refine ⟨M', r1, r2, Kr_t ?_ r3⟩
  refine ⟨fun a ha => ?_, rfl⟩
  simp (decide := true) (disch := omega) only [Option.bind_some, wI_row, wI_slot, wI_same, wI_2, nI_p0, false_or, nle_f, nI_cl, n_lad, n_adl, nI_add, if_true, if_false, ite_true, ite_false]
theorem cl_copyD {p q : Nat} (hpq : p + 23 ≤ q ∨ q + 23 ≤ p) {d : Int32 × List t_D} (hr : d.2.length ≤ 5) : ∀ (c i : Nat) (M : z_Mem), d.2.length < c + i → i ≤ d.2.length → D_c M q d → M.1 (p + 8) 3 = nI d.2.length → M.1 (p + 8) 4 = d.1 →
    (∀ j x, d.2[j]? = some x → j < i → M.1 (p + 9) j = x.1 ∧ M.1 (p + 10) j = x.2.1 ∧ M.1 (p + 11) j = x.2.2) →
    ∃ M', L_X1_copyFrom w p q c M (nI i) = some ((), M') ∧ D_c M' p d ∧ Kr (p + 8) (p + 12) M M' := by
  intro c
  induction c with
  | zero => intro i M h1; omega
  | succ c ih =>
    intro i M h1 h2 hq hc hd hj
    rw [L_X1_copyFrom]
    by_cases hk : i < d.2.length
    · obtain ⟨y, e1, e2⟩ := d_dr hk
      obtain ⟨g0, g1, g2⟩ := hq.2.2 i y e1
      simp (decide := true) (disch := omega) only [hc, nI_l1, nI_11, F_X1_copyOne, g0, g1, g2, Option.bind_some, wI_row, wI_slot, wI_same, wI_2, nI_p0, false_or, nle_f, nI_cl, n_lad, n_adl, nI_add, if_true, if_false, ite_true, ite_false]
      obtain ⟨M', r1, r2, r3⟩ := ih (i + 1) (z_wI (z_wI (z_wI M (p + 9) i y.1) (p + 10) i y.2.1) (p + 11) i y.2.2) (by omega) (by omega) (by
        unfold D_c at hq ⊢
        simp (decide := true) (disch := omega) only [Option.bind_some, wI_row, wI_slot, wI_same, wI_2, nI_p0, false_or, nle_f, nI_cl, n_lad, n_adl, nI_add, if_true, if_false, ite_true, ite_false]
        exact hq) (by simp (decide := true) (disch := omega) only [hc, Option.bind_some, wI_row, wI_slot, wI_same, wI_2, nI_p0, false_or, nle_f, nI_cl, n_lad, n_adl, nI_add, if_true, if_false, ite_true, ite_false]) (by simp (decide := true) (disch := omega) only [hd, Option.bind_some, wI_row, wI_slot, wI_same, wI_2, nI_p0, false_or, nle_f, nI_cl, n_lad, n_adl, nI_add, if_true, if_false, ite_true, ite_false]) (by
        intro j x hx hj2
        by_cases e : j = i
        · subst e
          rw [e1] at hx
          cases hx
          simp (decide := true) (disch := omega) only [Option.bind_some, wI_row, wI_slot, wI_same, wI_2, nI_p0, false_or, nle_f, nI_cl, n_lad, n_adl, nI_add, if_true, if_false, ite_true, ite_false]
        · simp (decide := true) (disch := omega) only [Option.bind_some, wI_row, wI_slot, wI_same, wI_2, nI_p0, false_or, nle_f, nI_cl, n_lad, n_adl, nI_add, if_true, if_false, ite_true, ite_false]
          exact hj j x hx (by omega))
      refine ⟨M', r1, r2, Kr_t ?_ r3⟩
      refine ⟨fun a ha => ?_, rfl⟩
      simp (decide := true) (disch := omega) only [Option.bind_some, wI_row, wI_slot, wI_same, wI_2, nI_p0, false_or, nle_f, nI_cl, n_lad, n_adl, nI_add, if_true, if_false, ite_true, ite_false]
    · have : i = d.2.length := by omega
      subst this
      refine ⟨M, ?_, ⟨hc, hd, fun j x hx => hj j x hx (d_lt hx)⟩, Kr_r⟩
      simp (decide := true) (disch := omega) only [hc, nI_leP, Option.bind_some, wI_row, wI_slot, wI_same, wI_2, nI_p0, false_or, nle_f, nI_cl, n_lad, n_adl, nI_add, if_true, if_false, ite_true, ite_false]
theorem f_copyD {M : z_Mem} {p q : Nat} (hpq : p + 23 ≤ q ∨ q + 23 ≤ p) {d : Int32 × List t_D} (hr : d.2.length ≤ 5) (h : D_c M q d) (hw : 1000 ≤ w) : ∃ M', F_X1_copyFrom w M p q = some ((), M') ∧ D_c M' p d ∧ Kr (p + 8) (p + 12) M M' := by
  unfold F_X1_copyFrom
  simp (decide := true) (disch := omega) only [h.1, h.2.1, Option.bind_some, wI_row, wI_slot, wI_same, wI_2, nI_p0, false_or, nle_f, nI_cl, n_lad, n_adl, nI_add, if_true, if_false, ite_true, ite_false]
  obtain ⟨M', r1, r2, r3⟩ := cl_copyD (w := w) hpq hr w 0 (z_wI (z_wI M (p + 8) 3 (nI d.2.length)) (p + 8) 4 d.1) (by omega) (by omega) (by
    unfold D_c at h ⊢
    simp (decide := true) (disch := omega) only [Option.bind_some, wI_row, wI_slot, wI_same, wI_2, nI_p0, false_or, nle_f, nI_cl, n_lad, n_adl, nI_add, if_true, if_false, ite_true, ite_false]
    exact h) (by simp (decide := true) (disch := omega) only [Option.bind_some, wI_row, wI_slot, wI_same, wI_2, nI_p0, false_or, nle_f, nI_cl, n_lad, n_adl, nI_add, if_true, if_false, ite_true, ite_false]) (by simp (decide := true) (disch := omega) only [Option.bind_some, wI_row, wI_slot, wI_same, wI_2, nI_p0, false_or, nle_f, nI_cl, n_lad, n_adl, nI_add, if_true, if_false, ite_true, ite_false]) (by intro j x hx hj; omega)
  refine ⟨M', r1, r2, Kr_t ?_ r3⟩
  refine ⟨fun a ha => ?_, rfl⟩
  simp (decide := true) (disch := omega) only [Option.bind_some, wI_row, wI_slot, wI_same, wI_2, nI_p0, false_or, nle_f, nI_cl, n_lad, n_adl, nI_add, if_true, if_false, ite_true, ite_false]
def C_c (M : z_Mem) (p : Nat) (c : t_C) : Prop := CC (M.1 (p + 12)) (M.1 (p + 13)) (M.1 (p + 14)) (M.1 (p + 15)) (M.1 (p + 16)) c
theorem cl_copyC1 {p q : Nat} (hpq : p + 23 ≤ q ∨ q + 23 ≤ p) {e : t_C} (hv : VC e) : ∀ (c i : Nat) (M : z_Mem), e.2.2.1 < c + i → i ≤ e.2.2.1 → C_c M q e → M.1 (p + 12) 4 = nI e.1 → M.1 (p + 12) 5 = nI e.2.1.1 → M.1 (p + 12) 6 = nI e.2.2.1 →
    (∀ j, j < e.2.1.1 → M.1 (p + 13) j = e.2.1.2 0 j ∧ M.1 (p + 14) j = e.2.1.2 1 j) →
    (∀ j, j < i → M.1 (p + 15) j = e.2.2.2 0 j ∧ M.1 (p + 16) j = e.2.2.2 1 j) →
    ∃ M', L_X0_copyFrom w p q c 1 M (nI i) = some ((), M') ∧ C_c M' p e ∧ Kr (p + 12) (p + 17) M M' := by
  obtain ⟨v1, v2, v3, _⟩ := hv
  intro c
  induction c with
  | zero => intro i M h1; omega
  | succ c ih =>
    intro i M h1 h2 hq hc0 hc1 hc2 hj hl
    rw [L_X0_copyFrom, if_neg (by decide), if_pos rfl]
    by_cases hk : i < e.2.2.1
    · obtain ⟨g0, g1⟩ := hq.2.2.2.2 i hk
      simp (decide := true) (disch := omega) only [hc2, nI_l1, nI_11, g0, g1, Option.bind_some, wI_row, wI_slot, wI_same, wI_2, nI_p0, false_or, nle_f, nI_cl, n_lad, n_adl, nI_add, if_true, if_false, ite_true, ite_false]
      obtain ⟨M', r1, r2, r3⟩ := ih (i + 1) (z_wI (z_wI M (p + 15) i (e.2.2.2 0 i)) (p + 16) i (e.2.2.2 1 i)) (by omega) (by omega) (by
        unfold C_c at hq ⊢
        simp (decide := true) (disch := omega) only [Option.bind_some, wI_row, wI_slot, wI_same, wI_2, nI_p0, false_or, nle_f, nI_cl, n_lad, n_adl, nI_add, if_true, if_false, ite_true, ite_false]
        exact hq) (by simp (decide := true) (disch := omega) only [hc0, Option.bind_some, wI_row, wI_slot, wI_same, wI_2, nI_p0, false_or, nle_f, nI_cl, n_lad, n_adl, nI_add, if_true, if_false, ite_true, ite_false]) (by simp (decide := true) (disch := omega) only [hc1, Option.bind_some, wI_row, wI_slot, wI_same, wI_2, nI_p0, false_or, nle_f, nI_cl, n_lad, n_adl, nI_add, if_true, if_false, ite_true, ite_false]) (by simp (decide := true) (disch := omega) only [hc2, Option.bind_some, wI_row, wI_slot, wI_same, wI_2, nI_p0, false_or, nle_f, nI_cl, n_lad, n_adl, nI_add, if_true, if_false, ite_true, ite_false]) (by
        intro j hj2
        simp (decide := true) (disch := omega) only [Option.bind_some, wI_row, wI_slot, wI_same, wI_2, nI_p0, false_or, nle_f, nI_cl, n_lad, n_adl, nI_add, if_true, if_false, ite_true, ite_false]
        exact hj j hj2) (by
        intro j hj2
        by_cases u : j = i
        · subst u
          simp (decide := true) (disch := omega) only [Option.bind_some, wI_row, wI_slot, wI_same, wI_2, nI_p0, false_or, nle_f, nI_cl, n_lad, n_adl, nI_add, if_true, if_false, ite_true, ite_false]
        · simp (decide := true) (disch := omega) only [Option.bind_some, wI_row, wI_slot, wI_same, wI_2, nI_p0, false_or, nle_f, nI_cl, n_lad, n_adl, nI_add, if_true, if_false, ite_true, ite_false]
          exact hl j (by omega))
      refine ⟨M', r1, r2, Kr_t ?_ r3⟩
      refine ⟨fun a ha => ?_, rfl⟩
      simp (decide := true) (disch := omega) only [Option.bind_some, wI_row, wI_slot, wI_same, wI_2, nI_p0, false_or, nle_f, nI_cl, n_lad, n_adl, nI_add, if_true, if_false, ite_true, ite_false]
    · have : i = e.2.2.1 := by omega
      subst this
      refine ⟨M, ?_, ⟨hc0, hc1, hc2, hj, hl⟩, Kr_r⟩
      simp (decide := true) (disch := omega) only [hc2, nI_leP, Option.bind_some, wI_row, wI_slot, wI_same, wI_2, nI_p0, false_or, nle_f, nI_cl, n_lad, n_adl, nI_add, if_true, if_false, ite_true, ite_false]
theorem cl_copyC {p q : Nat} (hpq : p + 23 ≤ q ∨ q + 23 ≤ p) {e : t_C} (hv : VC e) : ∀ (c i : Nat) (M : z_Mem), e.2.1.1 + 10 < c + i → i ≤ e.2.1.1 → C_c M q e → M.1 (p + 12) 4 = nI e.1 → M.1 (p + 12) 5 = nI e.2.1.1 → M.1 (p + 12) 6 = nI e.2.2.1 →
    (∀ j, j < i → M.1 (p + 13) j = e.2.1.2 0 j ∧ M.1 (p + 14) j = e.2.1.2 1 j) →
    ∃ M', L_X0_copyFrom w p q c 0 M (nI i) = some ((), M') ∧ C_c M' p e ∧ Kr (p + 12) (p + 17) M M' := by
  obtain ⟨v1, v2, v3, v4⟩ := hv
  intro c
  induction c with
  | zero => intro i M h1; omega
  | succ c ih =>
    intro i M h1 h2 hq hc0 hc1 hc2 hj
    rw [L_X0_copyFrom, if_pos rfl]
    by_cases hk : i < e.2.1.1
    · obtain ⟨g0, g1⟩ := hq.2.2.2.1 i hk
      simp (decide := true) (disch := omega) only [hc1, nI_l1, nI_11, g0, g1, Option.bind_some, wI_row, wI_slot, wI_same, wI_2, nI_p0, false_or, nle_f, nI_cl, n_lad, n_adl, nI_add, if_true, if_false, ite_true, ite_false]
      obtain ⟨M', r1, r2, r3⟩ := ih (i + 1) (z_wI (z_wI M (p + 13) i (e.2.1.2 0 i)) (p + 14) i (e.2.1.2 1 i)) (by omega) (by omega) (by
        unfold C_c at hq ⊢
        simp (decide := true) (disch := omega) only [Option.bind_some, wI_row, wI_slot, wI_same, wI_2, nI_p0, false_or, nle_f, nI_cl, n_lad, n_adl, nI_add, if_true, if_false, ite_true, ite_false]
        exact hq) (by simp (decide := true) (disch := omega) only [hc0, Option.bind_some, wI_row, wI_slot, wI_same, wI_2, nI_p0, false_or, nle_f, nI_cl, n_lad, n_adl, nI_add, if_true, if_false, ite_true, ite_false]) (by simp (decide := true) (disch := omega) only [hc1, Option.bind_some, wI_row, wI_slot, wI_same, wI_2, nI_p0, false_or, nle_f, nI_cl, n_lad, n_adl, nI_add, if_true, if_false, ite_true, ite_false]) (by simp (decide := true) (disch := omega) only [hc2, Option.bind_some, wI_row, wI_slot, wI_same, wI_2, nI_p0, false_or, nle_f, nI_cl, n_lad, n_adl, nI_add, if_true, if_false, ite_true, ite_false]) (by
        intro j hj2
        by_cases u : j = i
        · subst u
          simp (decide := true) (disch := omega) only [Option.bind_some, wI_row, wI_slot, wI_same, wI_2, nI_p0, false_or, nle_f, nI_cl, n_lad, n_adl, nI_add, if_true, if_false, ite_true, ite_false]
        · simp (decide := true) (disch := omega) only [Option.bind_some, wI_row, wI_slot, wI_same, wI_2, nI_p0, false_or, nle_f, nI_cl, n_lad, n_adl, nI_add, if_true, if_false, ite_true, ite_false]
          exact hj j (by omega))
      refine ⟨M', r1, r2, Kr_t ?_ r3⟩
      refine ⟨fun a ha => ?_, rfl⟩
      simp (decide := true) (disch := omega) only [Option.bind_some, wI_row, wI_slot, wI_same, wI_2, nI_p0, false_or, nle_f, nI_cl, n_lad, n_adl, nI_add, if_true, if_false, ite_true, ite_false]
    · have : i = e.2.1.1 := by omega
      subst this
      simp (decide := true) (disch := omega) only [hc1, nI_leP, Option.bind_some, wI_row, wI_slot, wI_same, wI_2, nI_p0, false_or, nle_f, nI_cl, n_lad, n_adl, nI_add, if_true, if_false, ite_true, ite_false]
      exact cl_copyC1 hpq ⟨v1, v2, v3, v4⟩ c 0 M (by omega) (by omega) hq hc0 hc1 hc2 hj (by intro j hj; omega)
theorem f_copyC {M : z_Mem} {p q : Nat} (hpq : p + 23 ≤ q ∨ q + 23 ≤ p) {e : t_C} (hv : VC e) (h : C_c M q e) (hw : 1000 ≤ w) : ∃ M', F_X0_copyFrom w M p q = some ((), M') ∧ C_c M' p e ∧ Kr (p + 12) (p + 17) M M' := by
  unfold F_X0_copyFrom
  simp (decide := true) (disch := omega) only [h.1, h.2.1, h.2.2.1, Option.bind_some, wI_row, wI_slot, wI_same, wI_2, nI_p0, false_or, nle_f, nI_cl, n_lad, n_adl, nI_add, if_true, if_false, ite_true, ite_false]
  obtain ⟨M', r1, r2, r3⟩ := cl_copyC (w := w) hpq hv w 0 (z_wI (z_wI (z_wI M (p + 12) 4 (nI e.1)) (p + 12) 5 (nI e.2.1.1)) (p + 12) 6 (nI e.2.2.1)) (by have := hv.2.1; omega) (by omega) (by
    unfold C_c at h ⊢
    simp (decide := true) (disch := omega) only [Option.bind_some, wI_row, wI_slot, wI_same, wI_2, nI_p0, false_or, nle_f, nI_cl, n_lad, n_adl, nI_add, if_true, if_false, ite_true, ite_false]
    exact h) (by simp (decide := true) (disch := omega) only [Option.bind_some, wI_row, wI_slot, wI_same, wI_2, nI_p0, false_or, nle_f, nI_cl, n_lad, n_adl, nI_add, if_true, if_false, ite_true, ite_false]) (by simp (decide := true) (disch := omega) only [Option.bind_some, wI_row, wI_slot, wI_same, wI_2, nI_p0, false_or, nle_f, nI_cl, n_lad, n_adl, nI_add, if_true, if_false, ite_true, ite_false]) (by simp (decide := true) (disch := omega) only [Option.bind_some, wI_row, wI_slot, wI_same, wI_2, nI_p0, false_or, nle_f, nI_cl, n_lad, n_adl, nI_add, if_true, if_false, ite_true, ite_false]) (by intro j hj; omega)
  refine ⟨M', r1, r2, Kr_t ?_ r3⟩
  refine ⟨fun a ha => ?_, rfl⟩
  simp (decide := true) (disch := omega) only [Option.bind_some, wI_row, wI_slot, wI_same, wI_2, nI_p0, false_or, nle_f, nI_cl, n_lad, n_adl, nI_add, if_true, if_false, ite_true, ite_false]
def Y_c (M : z_Mem) (p : Nat) (y : t_Ys) : Prop := CY (M.1 (p + 17)) (M.1 (p + 18)) (M.1 (p + 19)) (M.1 (p + 20)) (M.1 (p + 21)) (M.1 (p + 22)) y
theorem y_lt {l : List t_Y} {i : Nat} {x : t_Y} (h : l[i]? = some x) : i < l.length := by
  rcases Nat.lt_or_ge i l.length with g | g
  · exact g
  · rw [List.getElem?_eq_none g] at h; cases h
theorem cl_copyY {p q : Nat} (hpq : p + 23 ≤ q ∨ q + 23 ≤ p) {y : t_Ys} (hr : y.2.length ≤ 60) : ∀ (c i : Nat) (M : z_Mem), y.2.length < c + i → i ≤ y.2.length → Y_c M q y → M.1 (p + 17) 5 = nI y.2.length → M.1 (p + 17) 6 = nI (y_steps y.2) → M.1 (p + 17) 7 = z_tb y.1 →
    (∀ j x, y.2[j]? = some x → j < i → M.1 (p + 18) j = x.1 ∧ M.1 (p + 19) j = x.2.1 ∧ M.1 (p + 20) j = x.2.2.1 ∧ M.1 (p + 21) j = x.2.2.2.1 ∧ M.1 (p + 22) j = nI x.2.2.2.2) →
    ∃ M', L_X9_copyFrom w p q c M (nI i) = some ((), M') ∧ Y_c M' p y ∧ Kr (p + 17) (p + 23) M M' := by
  intro c
  induction c with
  | zero => intro i M h1; omega
  | succ c ih =>
    intro i M h1 h2 hq hc hd he hj
    rw [L_X9_copyFrom]
    by_cases hk : i < y.2.length
    · have e1 := List.getElem?_eq_getElem hk
      obtain ⟨g0, g1, g2, g3, g4⟩ := hq.2.2.2 i _ e1
      simp (decide := true) (disch := omega) only [hc, nI_l1, nI_11, g0, g1, g2, g3, g4, Option.bind_some, wI_row, wI_slot, wI_same, wI_2, nI_p0, false_or, nle_f, nI_cl, n_lad, n_adl, nI_add, if_true, if_false, ite_true, ite_false]
      obtain ⟨M', r1, r2, r3⟩ := ih (i + 1) (z_wI (z_wI (z_wI (z_wI (z_wI M (p + 18) i (y.2[i]).1) (p + 19) i (y.2[i]).2.1) (p + 20) i (y.2[i]).2.2.1) (p + 21) i (y.2[i]).2.2.2.1) (p + 22) i (nI (y.2[i]).2.2.2.2)) (by omega) (by omega) (by
        unfold Y_c at hq ⊢
        simp (decide := true) (disch := omega) only [Option.bind_some, wI_row, wI_slot, wI_same, wI_2, nI_p0, false_or, nle_f, nI_cl, n_lad, n_adl, nI_add, if_true, if_false, ite_true, ite_false]
        exact hq) (by simp (decide := true) (disch := omega) only [hc, Option.bind_some, wI_row, wI_slot, wI_same, wI_2, nI_p0, false_or, nle_f, nI_cl, n_lad, n_adl, nI_add, if_true, if_false, ite_true, ite_false]) (by simp (decide := true) (disch := omega) only [hd, Option.bind_some, wI_row, wI_slot, wI_same, wI_2, nI_p0, false_or, nle_f, nI_cl, n_lad, n_adl, nI_add, if_true, if_false, ite_true, ite_false]) (by simp (decide := true) (disch := omega) only [he, Option.bind_some, wI_row, wI_slot, wI_same, wI_2, nI_p0, false_or, nle_f, nI_cl, n_lad, n_adl, nI_add, if_true, if_false, ite_true, ite_false]) (by
        intro j x hx hj2
        by_cases e : j = i
        · subst e
          rw [e1] at hx
          cases hx
          simp (decide := true) (disch := omega) only [Option.bind_some, wI_row, wI_slot, wI_same, wI_2, nI_p0, false_or, nle_f, nI_cl, n_lad, n_adl, nI_add, if_true, if_false, ite_true, ite_false]
        · simp (decide := true) (disch := omega) only [Option.bind_some, wI_row, wI_slot, wI_same, wI_2, nI_p0, false_or, nle_f, nI_cl, n_lad, n_adl, nI_add, if_true, if_false, ite_true, ite_false]
          exact hj j x hx (by omega))
      refine ⟨M', r1, r2, Kr_t ?_ r3⟩
      refine ⟨fun a ha => ?_, rfl⟩
      simp (decide := true) (disch := omega) only [Option.bind_some, wI_row, wI_slot, wI_same, wI_2, nI_p0, false_or, nle_f, nI_cl, n_lad, n_adl, nI_add, if_true, if_false, ite_true, ite_false]
    · have : i = y.2.length := by omega
      subst this
      refine ⟨M, ?_, ⟨hc, hd, he, fun j x hx => hj j x hx (y_lt hx)⟩, Kr_r⟩
      simp (decide := true) (disch := omega) only [hc, nI_leP, Option.bind_some, wI_row, wI_slot, wI_same, wI_2, nI_p0, false_or, nle_f, nI_cl, n_lad, n_adl, nI_add, if_true, if_false, ite_true, ite_false]
theorem z_bbt (b : Bool) : z_tb (z_bb (z_tb b)) = z_tb b := by cases b <;> rfl
theorem f_copyY {M : z_Mem} {p q : Nat} (hpq : p + 23 ≤ q ∨ q + 23 ≤ p) {y : t_Ys} (hr : y.2.length ≤ 60) (h : Y_c M q y) (hw : 1000 ≤ w) : ∃ M', F_X9_copyFrom w M p q = some ((), M') ∧ Y_c M' p y ∧ Kr (p + 17) (p + 23) M M' := by
  unfold F_X9_copyFrom
  simp (decide := true) (disch := omega) only [h.1, h.2.1, h.2.2.1, z_bbt, Option.bind_some, wI_row, wI_slot, wI_same, wI_2, nI_p0, false_or, nle_f, nI_cl, n_lad, n_adl, nI_add, if_true, if_false, ite_true, ite_false]
  obtain ⟨M', r1, r2, r3⟩ := cl_copyY (w := w) hpq hr w 0 (z_wI (z_wI (z_wI M (p + 17) 5 (nI y.2.length)) (p + 17) 6 (nI (y_steps y.2))) (p + 17) 7 (z_tb y.1)) (by omega) (by omega) (by
    unfold Y_c at h ⊢
    simp (decide := true) (disch := omega) only [Option.bind_some, wI_row, wI_slot, wI_same, wI_2, nI_p0, false_or, nle_f, nI_cl, n_lad, n_adl, nI_add, if_true, if_false, ite_true, ite_false]
    exact h) (by simp (decide := true) (disch := omega) only [Option.bind_some, wI_row, wI_slot, wI_same, wI_2, nI_p0, false_or, nle_f, nI_cl, n_lad, n_adl, nI_add, if_true, if_false, ite_true, ite_false]) (by simp (decide := true) (disch := omega) only [Option.bind_some, wI_row, wI_slot, wI_same, wI_2, nI_p0, false_or, nle_f, nI_cl, n_lad, n_adl, nI_add, if_true, if_false, ite_true, ite_false]) (by simp (decide := true) (disch := omega) only [Option.bind_some, wI_row, wI_slot, wI_same, wI_2, nI_p0, false_or, nle_f, nI_cl, n_lad, n_adl, nI_add, if_true, if_false, ite_true, ite_false]) (by intro j x hx hj; omega)
  refine ⟨M', r1, r2, Kr_t ?_ r3⟩
  refine ⟨fun a ha => ?_, rfl⟩
  simp (decide := true) (disch := omega) only [Option.bind_some, wI_row, wI_slot, wI_same, wI_2, nI_p0, false_or, nle_f, nI_cl, n_lad, n_adl, nI_add, if_true, if_false, ite_true, ite_false]
theorem c_copy {M : z_Mem} {p q : Nat} (hpq : p + 23 ≤ q ∨ q + 23 ≤ p) {P : t_P} (h : CP M q P) (hv : VP P) (hw : 1000 ≤ w) : ∃ M', F_X3_copyFrom w M p q = some ((), M') ∧ CP M' p P ∧ Kc p M M' := by
  obtain ⟨hS, hR, hD, hC, hY⟩ := h
  obtain ⟨vS, vR, vD, vC, vY⟩ := hv
  obtain ⟨s5, s6, s7, s8, s9, s10, s11, s12, s13⟩ := hS
  unfold F_X3_copyFrom
  simp (decide := true) (disch := omega) only [s12, s13, Option.bind_some, wI_row, wI_slot, wI_same, wI_2, nI_p0, false_or, nle_f, nI_cl, n_lad, n_adl, nI_add, if_true, if_false, ite_true, ite_false]
  obtain ⟨M1, a1, a2, a3⟩ := f_copyR (w := w) (M := z_wI (z_wI M (p + 1) 0 (P.1 12)) (p + 1) 1 (P.1 13)) hpq vR.1 (r := P.2.1) (by
    unfold R_c
    simp (decide := true) (disch := omega) only [Option.bind_some, wI_row, wI_slot, wI_same, wI_2, nI_p0, false_or, nle_f, nI_cl, n_lad, n_adl, nI_add, if_true, if_false, ite_true, ite_false]
    exact hR) hw
  rw [a1]
  simp only [Option.bind_some]
  have q1 : ∀ a, q ≤ a → a < q + 23 → M1.1 a = M.1 a := by
    intro a h1 h2
    rw [a3.1 a (by omega), wI_row (by omega), wI_row (by omega)]
  obtain ⟨M2, b1, b2, b3⟩ := f_copyD (w := w) (M := M1) hpq vD.1 (d := P.2.2.1) (by
    unfold D_c
    rw [q1 (q + 8) (by omega) (by omega), q1 (q + 9) (by omega) (by omega), q1 (q + 10) (by omega) (by omega), q1 (q + 11) (by omega) (by omega)]
    exact hD) hw
  rw [b1]
  simp only [Option.bind_some]
  have q2 : ∀ a, q ≤ a → a < q + 23 → M2.1 a = M.1 a := fun a h1 h2 => (b3.1 a (by omega)).trans (q1 a h1 h2)
  obtain ⟨M3, c1, c2, c3⟩ := f_copyC (w := w) (M := M2) hpq vC (by
    unfold C_c
    rw [q2 (q + 12) (by omega) (by omega), q2 (q + 13) (by omega) (by omega), q2 (q + 14) (by omega) (by omega), q2 (q + 15) (by omega) (by omega), q2 (q + 16) (by omega) (by omega)]
    exact hC) hw
  rw [c1]
  simp only [Option.bind_some]
  have q3 : ∀ a, q ≤ a → a < q + 23 → M3.1 a = M.1 a := fun a h1 h2 => (c3.1 a (by omega)).trans (q2 a h1 h2)
  obtain ⟨M4, d1, d2, d3⟩ := f_copyY (w := w) (M := M3) hpq vY.1 (by
    unfold Y_c
    rw [q3 (q + 17) (by omega) (by omega), q3 (q + 18) (by omega) (by omega), q3 (q + 19) (by omega) (by omega), q3 (q + 20) (by omega) (by omega), q3 (q + 21) (by omega) (by omega), q3 (q + 22) (by omega) (by omega)]
    exact hY) hw
  rw [d1]
  have q4 : ∀ a, q ≤ a → a < q + 23 → M4.1 a = M.1 a := fun a h1 h2 => (d3.1 a (by omega)).trans (q3 a h1 h2)
  have e0 := q4 q (by omega) (by omega)
  simp (decide := true) (disch := omega) only [e0, s5, s6, s7, s8, s9, s10, s11, Option.bind_some, wI_row, wI_slot, wI_same, wI_2, nI_p0, false_or, nle_f, nI_cl, n_lad, n_adl, nI_add, if_true, if_false, ite_true, ite_false]
  have kp1 : M4.1 (p + 1) = (z_wI (z_wI M (p + 1) 0 (P.1 12)) (p + 1) 1 (P.1 13)).1 (p + 1) := by
    rw [d3.1 (p + 1) (by omega), c3.1 (p + 1) (by omega), b3.1 (p + 1) (by omega), a3.1 (p + 1) (by omega)]
  refine ⟨_, rfl, ⟨⟨?_, ?_, ?_, ?_, ?_, ?_, ?_, ?_, ?_⟩, ?_, ?_, ?_, ?_⟩, fun a ha => ?_, ?_⟩
  · simp (decide := true) (disch := omega) only [Option.bind_some, wI_row, wI_slot, wI_same, wI_2, nI_p0, false_or, nle_f, nI_cl, n_lad, n_adl, nI_add, if_true, if_false, ite_true, ite_false]
  · simp (decide := true) (disch := omega) only [Option.bind_some, wI_row, wI_slot, wI_same, wI_2, nI_p0, false_or, nle_f, nI_cl, n_lad, n_adl, nI_add, if_true, if_false, ite_true, ite_false]
  · simp (decide := true) (disch := omega) only [Option.bind_some, wI_row, wI_slot, wI_same, wI_2, nI_p0, false_or, nle_f, nI_cl, n_lad, n_adl, nI_add, if_true, if_false, ite_true, ite_false]
  · simp (decide := true) (disch := omega) only [Option.bind_some, wI_row, wI_slot, wI_same, wI_2, nI_p0, false_or, nle_f, nI_cl, n_lad, n_adl, nI_add, if_true, if_false, ite_true, ite_false]
  · simp (decide := true) (disch := omega) only [Option.bind_some, wI_row, wI_slot, wI_same, wI_2, nI_p0, false_or, nle_f, nI_cl, n_lad, n_adl, nI_add, if_true, if_false, ite_true, ite_false]
  · simp (decide := true) (disch := omega) only [Option.bind_some, wI_row, wI_slot, wI_same, wI_2, nI_p0, false_or, nle_f, nI_cl, n_lad, n_adl, nI_add, if_true, if_false, ite_true, ite_false]
  · simp (decide := true) (disch := omega) only [Option.bind_some, wI_row, wI_slot, wI_same, wI_2, nI_p0, false_or, nle_f, nI_cl, n_lad, n_adl, nI_add, if_true, if_false, ite_true, ite_false]
  · simp (decide := true) (disch := omega) only [kp1, Option.bind_some, wI_row, wI_slot, wI_same, wI_2, nI_p0, false_or, nle_f, nI_cl, n_lad, n_adl, nI_add, if_true, if_false, ite_true, ite_false]
  · simp (decide := true) (disch := omega) only [kp1, Option.bind_some, wI_row, wI_slot, wI_same, wI_2, nI_p0, false_or, nle_f, nI_cl, n_lad, n_adl, nI_add, if_true, if_false, ite_true, ite_false]
  · simp (decide := true) (disch := omega) only [Option.bind_some, wI_row, wI_slot, wI_same, wI_2, nI_p0, false_or, nle_f, nI_cl, n_lad, n_adl, nI_add, if_true, if_false, ite_true, ite_false]
    rw [d3.1 (p + 2) (by omega), c3.1 (p + 2) (by omega), b3.1 (p + 2) (by omega), d3.1 (p + 3) (by omega), c3.1 (p + 3) (by omega), b3.1 (p + 3) (by omega), d3.1 (p + 4) (by omega), c3.1 (p + 4) (by omega), b3.1 (p + 4) (by omega), d3.1 (p + 5) (by omega), c3.1 (p + 5) (by omega), b3.1 (p + 5) (by omega), d3.1 (p + 6) (by omega), c3.1 (p + 6) (by omega), b3.1 (p + 6) (by omega), d3.1 (p + 7) (by omega), c3.1 (p + 7) (by omega), b3.1 (p + 7) (by omega)]
    exact a2
  · simp (decide := true) (disch := omega) only [Option.bind_some, wI_row, wI_slot, wI_same, wI_2, nI_p0, false_or, nle_f, nI_cl, n_lad, n_adl, nI_add, if_true, if_false, ite_true, ite_false]
    rw [d3.1 (p + 8) (by omega), c3.1 (p + 8) (by omega), d3.1 (p + 9) (by omega), c3.1 (p + 9) (by omega), d3.1 (p + 10) (by omega), c3.1 (p + 10) (by omega), d3.1 (p + 11) (by omega), c3.1 (p + 11) (by omega)]
    exact b2
  · simp (decide := true) (disch := omega) only [Option.bind_some, wI_row, wI_slot, wI_same, wI_2, nI_p0, false_or, nle_f, nI_cl, n_lad, n_adl, nI_add, if_true, if_false, ite_true, ite_false]
    rw [d3.1 (p + 12) (by omega), d3.1 (p + 13) (by omega), d3.1 (p + 14) (by omega), d3.1 (p + 15) (by omega), d3.1 (p + 16) (by omega)]
    exact c2
  · simp (decide := true) (disch := omega) only [Option.bind_some, wI_row, wI_slot, wI_same, wI_2, nI_p0, false_or, nle_f, nI_cl, n_lad, n_adl, nI_add, if_true, if_false, ite_true, ite_false]
    exact d2
  · simp (decide := true) (disch := omega) only [Option.bind_some, wI_row, wI_slot, wI_same, wI_2, nI_p0, false_or, nle_f, nI_cl, n_lad, n_adl, nI_add, if_true, if_false, ite_true, ite_false]
    rw [d3.1 a (by omega), c3.1 a (by omega), b3.1 a (by omega), a3.1 a (by omega)]
    simp (decide := true) (disch := omega) only [Option.bind_some, wI_row, wI_slot, wI_same, wI_2, nI_p0, false_or, nle_f, nI_cl, n_lad, n_adl, nI_add, if_true, if_false, ite_true, ite_false]
  · show M4.2 = M.2
    rw [d3.2, c3.2, b3.2, a3.2]
    rfl
end
