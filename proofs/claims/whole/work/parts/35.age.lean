/-! ===== debts a month older ===== -/
def b_one (d : t_D) : Option t_D := if d.2.2 ≤ 1 then none else some (d.1, d.2.1, d.2.2 - 1)
def b_age (l : List t_D) : List t_D := l.filterMap b_one
theorem b_age_app (a b : List t_D) : b_age (a ++ b) = b_age a ++ b_age b := List.filterMap_append ..
theorem b_age_le (l : List t_D) : (b_age l).length ≤ l.length := List.length_filterMap_le ..
theorem b_age_take {l : List t_D} {i : Nat} {y : t_D} (h : l[i]? = some y) : b_age (l.take (i + 1)) = b_age (l.take i) ++ b_age [y] := by
  rw [List.take_add_one, h, b_age_app]; rfl
section
variable {w : Nat}
theorem cl_age {p : Nat} {d : Int32 × List t_D} (hl : d.2.length ≤ 5) : ∀ (c i : Nat) (M : z_Mem), d.2.length < c + i → i ≤ d.2.length → M.1 (p + 8) 3 = nI d.2.length → M.1 (p + 8) 4 = d.1 →
    (∀ j x, d.2[j]? = some x → i ≤ j → M.1 (p + 9) j = x.1 ∧ M.1 (p + 10) j = x.2.1 ∧ M.1 (p + 11) j = x.2.2) →
    (∀ j x, (b_age (d.2.take i))[j]? = some x → M.1 (p + 9) j = x.1 ∧ M.1 (p + 10) j = x.2.1 ∧ M.1 (p + 11) j = x.2.2) →
    ∃ M', L_X1_age w p c M (nI (b_age (d.2.take i)).length) (nI i) = some ((), M') ∧ D_c M' p (d.1 + nI (d.2.length - (b_age d.2).length), b_age d.2) ∧ Kd p M M' := by
  intro c
  induction c with
  | zero => intro i M h1; omega
  | succ c ih =>
    intro i M h1 h3 hc hd ha hb
    rw [L_X1_age]
    have hle := b_age_le (d.2.take i)
    rw [List.length_take] at hle
    by_cases hk : i < d.2.length
    · obtain ⟨y, e1, e2⟩ := d_dr hk
      obtain ⟨g1, g2, g3⟩ := ha i y e1 (by omega)
      have et := b_age_take e1
      by_cases hy : y.2.2 ≤ 1
      · have e0 : b_age (d.2.take (i + 1)) = b_age (d.2.take i) := by
          rw [et]; unfold b_age; simp [b_one, hy]
        simp (decide := true) (disch := omega) only [hc, nI_l1, nI_11, g3, hy, Option.bind_some, wI_row, wI_slot, wI_same, wI_2, nI_p0, false_or, nle_f, nI_cl, n_lad, n_adl, nI_add, if_true, if_false, ite_true, ite_false]
        have := ih (i + 1) M (by omega) (by omega) hc hd (fun j x hx hj => ha j x hx (by omega)) (by rw [e0]; exact hb)
        rw [e0] at this
        exact this
      · have e0 : b_age (d.2.take (i + 1)) = b_age (d.2.take i) ++ [(y.1, y.2.1, y.2.2 - 1)] := by
          rw [et]; unfold b_age; simp [b_one, hy]
        have eL : (b_age (d.2.take (i + 1))).length = (b_age (d.2.take i)).length + 1 := by rw [e0]; simp
        simp (decide := true) (disch := omega) only [hc, nI_l1, nI_11, g1, g2, g3, hy, F_X1_copyOne, Option.bind_some, wI_row, wI_slot, wI_same, wI_2, nI_p0, false_or, nle_f, nI_cl, n_lad, n_adl, nI_add, if_true, if_false, ite_true, ite_false]
        obtain ⟨M', r1, r2, r3⟩ := ih (i + 1) (z_wI (z_wI (z_wI (z_wI M (p + 9) (b_age (d.2.take i)).length y.1) (p + 10) (b_age (d.2.take i)).length y.2.1) (p + 11) (b_age (d.2.take i)).length y.2.2) (p + 11) (b_age (d.2.take i)).length (y.2.2 - 1)) (by omega) (by omega) (by simp (decide := true) (disch := omega) only [hc, Option.bind_some, wI_row, wI_slot, wI_same, wI_2, nI_p0, false_or, nle_f, nI_cl, n_lad, n_adl, nI_add, if_true, if_false, ite_true, ite_false]) (by simp (decide := true) (disch := omega) only [hd, Option.bind_some, wI_row, wI_slot, wI_same, wI_2, nI_p0, false_or, nle_f, nI_cl, n_lad, n_adl, nI_add, if_true, if_false, ite_true, ite_false]) (by
          intro j x hx hj
          simp (decide := true) (disch := omega) only [Option.bind_some, wI_row, wI_slot, wI_same, wI_2, nI_p0, false_or, nle_f, nI_cl, n_lad, n_adl, nI_add, if_true, if_false, ite_true, ite_false]
          exact ha j x hx (by omega)) (by
          rw [e0]
          refine d_app ?_ ?_
          · intro j x hx
            have := d_lt hx
            simp (decide := true) (disch := omega) only [Option.bind_some, wI_row, wI_slot, wI_same, wI_2, nI_p0, false_or, nle_f, nI_cl, n_lad, n_adl, nI_add, if_true, if_false, ite_true, ite_false]
            exact hb j x hx
          · simp (decide := true) (disch := omega) only [Option.bind_some, wI_row, wI_slot, wI_same, wI_2, nI_p0, false_or, nle_f, nI_cl, n_lad, n_adl, nI_add, if_true, if_false, ite_true, ite_false])
        rw [eL] at r1
        refine ⟨M', r1, r2, Kd_t ?_ r3⟩
        refine ⟨fun a ha => ?_, rfl⟩
        simp (decide := true) (disch := omega) only [Option.bind_some, wI_row, wI_slot, wI_same, wI_2, nI_p0, false_or, nle_f, nI_cl, n_lad, n_adl, nI_add, if_true, if_false, ite_true, ite_false]
    · have ei : d.2.take i = d.2 := List.take_of_length_le (by omega)
      rw [ei] at hb hle ⊢
      refine ⟨z_wI (z_wI M (p + 8) 4 (d.1 + nI (d.2.length - (b_age d.2).length))) (p + 8) 3 (nI (b_age d.2).length), ?_, ⟨?_, ?_, ?_⟩, ?_, rfl⟩
      · simp (decide := true) (disch := omega) only [hc, hd, nI_leP, Option.bind_some, wI_row, wI_slot, wI_same, wI_2, nI_p0, false_or, nle_f, nI_cl, n_lad, n_adl, nI_add, if_true, if_false, ite_true, ite_false]
        rw [pk_sub (by omega)]
      · simp (decide := true) (disch := omega) only [Option.bind_some, wI_row, wI_slot, wI_same, wI_2, nI_p0, false_or, nle_f, nI_cl, n_lad, n_adl, nI_add, if_true, if_false, ite_true, ite_false]
      · simp (decide := true) (disch := omega) only [Option.bind_some, wI_row, wI_slot, wI_same, wI_2, nI_p0, false_or, nle_f, nI_cl, n_lad, n_adl, nI_add, if_true, if_false, ite_true, ite_false]
      · intro j x hx
        simp (decide := true) (disch := omega) only [Option.bind_some, wI_row, wI_slot, wI_same, wI_2, nI_p0, false_or, nle_f, nI_cl, n_lad, n_adl, nI_add, if_true, if_false, ite_true, ite_false]
        exact hb j x hx
      · intro a ha
        simp (decide := true) (disch := omega) only [Option.bind_some, wI_row, wI_slot, wI_same, wI_2, nI_p0, false_or, nle_f, nI_cl, n_lad, n_adl, nI_add, if_true, if_false, ite_true, ite_false]
theorem f_age {M : z_Mem} {p : Nat} {d : Int32 × List t_D} (h : D_c M p d) (hl : d.2.length ≤ 5) (hw : 1000 ≤ w) : ∃ M', F_X1_age w M p = some ((), M') ∧ D_c M' p (d.1 + nI (d.2.length - (b_age d.2).length), b_age d.2) ∧ Kd p M M' :=
  cl_age hl w 0 M (by omega) (by omega) h.1 h.2.1 (fun j x hx _ => h.2.2 j x hx) (fun j x hx => by simp [b_age] at hx)
/-- the reference ages from the last one on -/
theorem ml_age {l : List t_D} (e : Int32) (hv : VD l) (hw : 1000 ≤ w) (K : z_Mem → Option (Unit × z_Mem)) (hK : ∀ c M, 10 < c → L_X12_passes w c 2 M 0 6 = K M) : ∀ (k c : Nat) (M : z_Mem), k ≤ l.length → k + 20 < c →
    BD (M.1 142) (e + nI (l.length - k - (b_age (l.drop k)).length), l.take k ++ b_age (l.drop k)) →
    ∃ M', L_X12_passes w c 1 M 0 (nI k - 1) = K M' ∧ BD (M'.1 142) (e + nI (l.length - (b_age l).length), b_age l) ∧ Kb M M' := by
  intro k
  induction k with
  | zero =>
    intro c M h1 h2 hb
    obtain ⟨c, rfl⟩ : ∃ c', c = c' + 1 := ⟨c - 1, by omega⟩
    refine ⟨M, ?_, by simpa using hb, Kb_r⟩
    rw [L_X12_passes, if_neg (by decide), if_pos rfl, if_pos (by decide), hK _ _ (by omega)]
  | succ k ih =>
    intro c M h1 h2 hb
    obtain ⟨c, rfl⟩ : ∃ c', c = c' + 1 := ⟨c - 1, by omega⟩
    obtain ⟨y, e1, e2⟩ := d_dr (l := l) (k := k) (by omega)
    have hy := hv.2 y (List.mem_of_getElem? e1)
    have hl5 : l.length ≤ 5 := hv.1
    have hal := b_age_le (l.drop (k + 1))
    rw [List.length_drop] at hal
    obtain ⟨b0, b1, b2⟩ := hb
    have hlen : (l.take (k + 1)).length = k + 1 := by rw [List.length_take]; omega
    have et : l.take (k + 1) = l.take k ++ [y] := by rw [List.take_add_one, e1]; rfl
    have ek : (l.take k).length = k := by rw [List.length_take]; omega
    have hyk : (l.take (k + 1) ++ b_age (l.drop (k + 1)))[k]? = some y := by
      rw [List.getElem?_append, if_pos (by omega), et, List.getElem?_append, if_neg (by omega), ek]; simp
    obtain ⟨g1, g2, g3⟩ := b2 k y hyk
    rw [L_X12_passes, if_neg (by decide), if_pos rfl, nI_pred]
    have hneg : nI k + -1 = nI k - 1 := (Int32.sub_eq_add_neg ..).symm
    simp (decide := true) (disch := omega) only [k_70, g3, hneg, Option.bind_some, wI_row, wI_slot, wI_same, wI_2, nI_p0, false_or, nle_f, nI_cl, n_lad, n_adl, nI_add, if_true, if_false, ite_true, ite_false]
    have hbd : BD ((z_wI M 142 (70 + k) (y.2.2 - 1)).1 142) (e + nI (l.length - (k + 1) - (b_age (l.drop (k + 1))).length), l.take k ++ ((y.1, y.2.1, y.2.2 - 1) :: b_age (l.drop (k + 1)))) := by
      refine ⟨?_, ?_, ?_⟩
      · simp (decide := true) (disch := omega) only [b0, Option.bind_some, wI_row, wI_slot, wI_same, wI_2, nI_p0, false_or, nle_f, nI_cl, n_lad, n_adl, nI_add, if_true, if_false, ite_true, ite_false]
        congr 1
        simp [hlen, ek]
        omega
      · simp (decide := true) (disch := omega) only [b1, Option.bind_some, wI_row, wI_slot, wI_same, wI_2, nI_p0, false_or, nle_f, nI_cl, n_lad, n_adl, nI_add, if_true, if_false, ite_true, ite_false]
      · intro j x hx
        have hj := d_lt hx
        simp [ek] at hj
        have hlj : j < 5 := by have := hv.1; omega
        by_cases hjk : j = k
        · subst hjk
          rw [List.getElem?_append, if_neg (by omega), ek] at hx
          simp at hx
          subst hx
          simp (decide := true) (disch := omega) only [g1, g2, Option.bind_some, wI_row, wI_slot, wI_same, wI_2, nI_p0, false_or, nle_f, nI_cl, n_lad, n_adl, nI_add, if_true, if_false, ite_true, ite_false]
        · have hx2 : (l.take (k + 1) ++ b_age (l.drop (k + 1)))[j]? = some x := by
            rw [et, List.append_assoc]
            rw [List.getElem?_append] at hx ⊢
            by_cases hjl : j < k
            · rw [if_pos (by omega)] at hx ⊢; exact hx
            · rw [if_neg (by omega), ek] at hx ⊢
              obtain ⟨m, hm⟩ : ∃ m, j - k = m + 1 := ⟨j - k - 1, by omega⟩
              rw [hm] at hx ⊢
              exact hx
          simp (decide := true) (disch := omega) only [Option.bind_some, wI_row, wI_slot, wI_same, wI_2, nI_p0, false_or, nle_f, nI_cl, n_lad, n_adl, nI_add, if_true, if_false, ite_true, ite_false]
          exact b2 j x hx2
    have hK1 : Kb M (z_wI M 142 (70 + k) (y.2.2 - 1)) := by
      refine ⟨fun a ha => ?_, fun j n1 n2 n3 => ?_, rfl⟩
      · simp (decide := true) (disch := omega) only [Option.bind_some, wI_row, wI_slot, wI_same, wI_2, nI_p0, false_or, nle_f, nI_cl, n_lad, n_adl, nI_add, if_true, if_false, ite_true, ite_false]
      · have := hv.1
        simp (decide := true) (disch := omega) only [Option.bind_some, wI_row, wI_slot, wI_same, wI_2, nI_p0, false_or, nle_f, nI_cl, n_lad, n_adl, nI_add, if_true, if_false, ite_true, ite_false]
    by_cases h0 : y.2.2 - 1 ≤ 0
    · have hy1 : y.2.2 ≤ 1 := by
        have q1 := Int32.le_iff_toInt_le.mp hy.2.2.1
        have q2 := Int32.le_iff_toInt_le.mp hy.2.2.2
        have q3 := Int32.le_iff_toInt_le.mp h0
        rw [Int32.toInt_sub] at q3
        rw [Int32.le_iff_toInt_le]
        have z1 : (1 : Int32).toInt = 1 := rfl
        have z2 : (24 : Int32).toInt = 24 := rfl
        have z3 : (0 : Int32).toInt = 0 := rfl
        rw [z1, Int.bmod_eq_of_le (by omega) (by omega)] at q3
        omega
      have ea : b_age (l.drop k) = b_age (l.drop (k + 1)) := by
        rw [e2]; unfold b_age; rw [List.filterMap_cons]; simp [b_one, hy1]
      rw [if_pos h0]
      obtain ⟨N, n1, n2, n3⟩ := f_dropB (w := w) (g := k) hbd (by simp [ek]; have := hv.1; omega) (by simp [ek]) hw
      have eE : (l.take k ++ ((y.1, y.2.1, y.2.2 - 1) :: b_age (l.drop (k + 1)))).eraseIdx k = l.take k ++ b_age (l.drop (k + 1)) := by
        rw [List.eraseIdx_append_of_length_le (by omega), ek]; simp
      rw [n1]
      simp only [Option.bind_some]
      obtain ⟨c0, c1, c2⟩ := n2
      obtain ⟨M', r1, r2, r3⟩ := ih c (z_wI N 142 10 (N.1 142 10 + 1)) (by omega) (by omega) (by
        rw [ea]
        refine ⟨?_, ?_, ?_⟩
        · simp (decide := true) (disch := omega) only [c0, Option.bind_some, wI_row, wI_slot, wI_same, wI_2, nI_p0, false_or, nle_f, nI_cl, n_lad, n_adl, nI_add, if_true, if_false, ite_true, ite_false]
          rw [eE]
        · simp (decide := true) (disch := omega) only [c1, Option.bind_some, wI_row, wI_slot, wI_same, wI_2, nI_p0, false_or, nle_f, nI_cl, n_lad, n_adl, nI_add, if_true, if_false, ite_true, ite_false]
          rw [Int32.add_assoc, nI_11]
          congr 2
          omega
        · intro j x hx
          have hj := d_lt hx
          simp [ek] at hj
          have := hv.1
          simp (decide := true) (disch := omega) only [Option.bind_some, wI_row, wI_slot, wI_same, wI_2, nI_p0, false_or, nle_f, nI_cl, n_lad, n_adl, nI_add, if_true, if_false, ite_true, ite_false]
          exact c2 j x (by rw [eE]; exact hx))
      refine ⟨M', r1, r2, Kb_t (Kb_t hK1 n3) (Kb_t ?_ r3)⟩
      refine ⟨fun a ha => ?_, fun j n1 n2 n3 => ?_, rfl⟩
      · simp (decide := true) (disch := omega) only [Option.bind_some, wI_row, wI_slot, wI_same, wI_2, nI_p0, false_or, nle_f, nI_cl, n_lad, n_adl, nI_add, if_true, if_false, ite_true, ite_false]
      · simp (decide := true) (disch := omega) only [Option.bind_some, wI_row, wI_slot, wI_same, wI_2, nI_p0, false_or, nle_f, nI_cl, n_lad, n_adl, nI_add, if_true, if_false, ite_true, ite_false]
    · have hy1 : ¬ y.2.2 ≤ 1 := by
        intro q
        apply h0
        have q1 := Int32.le_iff_toInt_le.mp hy.2.2.1
        have q3 := Int32.le_iff_toInt_le.mp q
        rw [Int32.le_iff_toInt_le, Int32.toInt_sub]
        have z1 : (1 : Int32).toInt = 1 := rfl
        have z3 : (0 : Int32).toInt = 0 := rfl
        rw [z1, Int.bmod_eq_of_le (by omega) (by omega)]
        omega
      have ea : b_age (l.drop k) = (y.1, y.2.1, y.2.2 - 1) :: b_age (l.drop (k + 1)) := by
        rw [e2]; unfold b_age; rw [List.filterMap_cons]; simp [b_one, hy1]
      rw [if_neg h0]
      obtain ⟨M', r1, r2, r3⟩ := ih c (z_wI M 142 (70 + k) (y.2.2 - 1)) (by omega) (by omega) (by
        rw [ea]
        have : l.length - k - ((y.1, y.2.1, y.2.2 - 1) :: b_age (l.drop (k + 1))).length = l.length - (k + 1) - (b_age (l.drop (k + 1))).length := by simp; omega
        rw [this]
        exact hbd)
      exact ⟨M', r1, r2, Kb_t hK1 r3⟩
end
