/-! ===== debts: owed, added, dropped, aged; of the class (base p) and of the reference ===== -/
def d_owed (x : Int32) : List t_D → Int32 → Int32
  | [], acc => acc
  | d :: r, acc => if d.1 = x then d_owed x r (acc + d.2.1) else d_owed x r acc
theorem d_dr {l : List t_D} {k : Nat} (h : k < l.length) : ∃ x, l[k]? = some x ∧ l.drop k = x :: l.drop (k + 1) := ⟨l[k], List.getElem?_eq_getElem h, List.drop_eq_getElem_cons h⟩
def D_c (M : z_Mem) (p : Nat) (d : Int32 × List t_D) : Prop := CD (M.1 (p + 8)) (M.1 (p + 9)) (M.1 (p + 10)) (M.1 (p + 11)) d
def Kd (p : Nat) (M M' : z_Mem) : Prop := (∀ a, a < p + 8 ∨ p + 12 ≤ a → M'.1 a = M.1 a) ∧ M'.2 = M.2
def Kb (M M' : z_Mem) : Prop := (∀ a, a ≠ 142 → M'.1 a = M.1 a) ∧ (∀ k, k ≠ 1 → k ≠ 10 → (k < 60 ∨ 75 ≤ k) → M'.1 142 k = M.1 142 k) ∧ M'.2 = M.2
theorem Kd_r {p : Nat} {M : z_Mem} : Kd p M M := ⟨fun _ _ => rfl, rfl⟩
theorem Kd_t {p : Nat} {M N L : z_Mem} (h : Kd p M N) (g : Kd p N L) : Kd p M L := ⟨fun a ha => (g.1 a ha).trans (h.1 a ha), g.2.trans h.2⟩
theorem Kb_r {M : z_Mem} : Kb M M := ⟨fun _ _ => rfl, fun _ _ _ _ => rfl, rfl⟩
theorem Kb_t {M N L : z_Mem} (h : Kb M N) (g : Kb N L) : Kb M L := ⟨fun a ha => (g.1 a ha).trans (h.1 a ha), fun k h1 h2 h3 => (g.2.1 k h1 h2 h3).trans (h.2.1 k h1 h2 h3), g.2.2.trans h.2.2⟩
theorem nI_11 (n : Nat) : nI n + 1 = nI (n + 1) := nI_1 n
theorem nI_leP {a b : Nat} (h : a ≤ b) (hb : b < 2147483648) : (nI a ≤ nI b) = True := eq_true (nI_le h hb)
section
variable {w : Nat}
theorem cl_owed {M : z_Mem} {p : Nat} {d : Int32 × List t_D} (h : D_c M p d) (hl : d.2.length ≤ 5) (x : Int32) : ∀ (c k : Nat) (acc : Int32), d.2.length < c + k → k ≤ d.2.length → L_X1_owedBy w p c M x acc (nI k) = some (d_owed x (d.2.drop k) acc, M) := by
  intro c
  induction c with
  | zero => intro k acc h1 h2; omega
  | succ c ih =>
    intro k acc h1 h2
    obtain ⟨hc, _, ha⟩ := h
    rw [L_X1_owedBy]
    by_cases hk : k < d.2.length
    · obtain ⟨y, e1, e2⟩ := d_dr hk
      obtain ⟨g1, g2, _⟩ := ha k y e1
      simp (decide := true) (disch := omega) only [hc, nI_l1, g1, g2, e2, d_owed, nI_11, Option.bind_some, wI_row, wI_slot, wI_same, wI_2, nI_p0, false_or, nle_f, nI_cl, n_lad, n_adl, nI_add, if_true, if_false, ite_true, ite_false]
      rw [ih (k + 1) _ (by omega) (by omega), ih (k + 1) _ (by omega) (by omega)]
      by_cases hs : y.1 = x
      · rw [if_pos hs, if_pos hs]
      · rw [if_neg hs, if_neg hs]
    · rw [hc, if_pos (nI_le (by omega) (by omega)), List.drop_eq_nil_of_le (by omega)]
      rfl
theorem f_owedBy {M : z_Mem} {p : Nat} {d : Int32 × List t_D} (h : D_c M p d) (hl : d.2.length ≤ 5) (hw : 1000 ≤ w) (x : Int32) : F_X1_owedBy w M p x = some (d_owed x d.2 0, M) :=
  cl_owed h hl x w 0 0 (by omega) (by omega)
theorem ml_owed {M : z_Mem} {d : Int32 × List t_D} (h : BD (M.1 142) d) (hl : d.2.length ≤ 5) (x : Int32) : ∀ (c k : Nat) (acc : Int32), d.2.length < c + k → k ≤ d.2.length → L_X12_owed w c M x acc (nI k) = some (d_owed x (d.2.drop k) acc, M) := by
  intro c
  induction c with
  | zero => intro k acc h1 h2; omega
  | succ c ih =>
    intro k acc h1 h2
    obtain ⟨hc, _, ha⟩ := h
    rw [L_X12_owed]
    by_cases hk : k < d.2.length
    · obtain ⟨y, e1, e2⟩ := d_dr hk
      obtain ⟨g1, g2, _⟩ := ha k y e1
      simp (decide := true) (disch := omega) only [hc, nI_l1, k_60, k_65, g1, g2, e2, d_owed, nI_11, Int32.add_zero, Option.bind_some, wI_row, wI_slot, wI_same, wI_2, nI_p0, false_or, nle_f, nI_cl, n_lad, n_adl, nI_add, if_true, if_false, ite_true, ite_false]
      rw [ih (k + 1) _ (by omega) (by omega), ih (k + 1) _ (by omega) (by omega)]
      by_cases hs : y.1 = x
      · rw [if_pos hs, if_pos hs]
      · rw [if_neg hs, if_neg hs]
    · rw [hc, if_pos (nI_le (by omega) (by omega)), List.drop_eq_nil_of_le (by omega)]
      rfl
theorem f_owed {M : z_Mem} {d : Int32 × List t_D} (h : BD (M.1 142) d) (hl : d.2.length ≤ 5) (hw : 1000 ≤ w) (x : Int32) : F_X12_owed w M x = some (d_owed x d.2 0, M) :=
  ml_owed h hl x w 0 0 (by omega) (by omega)
/-! one more -/
theorem d_app {l : List t_D} {z : t_D} {f : Nat → t_D → Prop} (h1 : ∀ i x, l[i]? = some x → f i x) (h2 : f l.length z) : ∀ i x, (l ++ [z])[i]? = some x → f i x := by
  intro i u hu
  rw [List.getElem?_append] at hu
  by_cases hi : i < l.length
  · rw [if_pos hi] at hu
    exact h1 i u hu
  · rw [if_neg hi] at hu
    have e : i = l.length := by
      by_cases g : i - l.length = 0
      · omega
      · rw [List.getElem?_eq_none (by simp; omega)] at hu; cases hu
    subst e
    simp at hu
    subst hu
    exact h2
theorem d_lt {l : List t_D} {i : Nat} {x : t_D} (h : l[i]? = some x) : i < l.length := by
  rcases Nat.lt_or_ge i l.length with g | g
  · exact g
  · rw [List.getElem?_eq_none g] at h; cases h
theorem f_addD {M : z_Mem} {p : Nat} {d : Int32 × List t_D} (h : D_c M p d) (hl : d.2.length < 5) (x y z : Int32) : ∃ M', F_X1_add w M p x y z = some (true, M') ∧ D_c M' p (d.1, d.2 ++ [(x, y, z)]) ∧ Kd p M M' := by
  obtain ⟨hc, hd, ha⟩ := h
  refine ⟨z_wI (z_wI (z_wI (z_wI M (p + 9) d.2.length x) (p + 10) d.2.length y) (p + 11) d.2.length z) (p + 8) 3 (nI (d.2.length + 1)), ?_, ⟨?_, ?_, ?_⟩, ?_, rfl⟩
  · unfold F_X1_add
    rw [hc, if_pos (show nI d.2.length < (5 : Int32) from nI_lt (b := 5) hl (by omega))]
    simp (decide := true) (disch := omega) only [nI_11, Option.bind_some, wI_row, wI_slot, wI_same, wI_2, nI_p0, false_or, nle_f, nI_cl, n_lad, n_adl, nI_add, if_true, if_false, ite_true, ite_false]
  · simp [wI_rd]
  · simp [wI_rd, hd]
  · refine d_app ?_ ?_
    · intro i u hu
      have hi := d_lt hu
      simp (decide := true) (disch := omega) only [Option.bind_some, wI_row, wI_slot, wI_same, wI_2, nI_p0, false_or, nle_f, nI_cl, n_lad, n_adl, nI_add, if_true, if_false, ite_true, ite_false]
      exact ha i u hu
    · simp (decide := true) (disch := omega) only [Option.bind_some, wI_row, wI_slot, wI_same, wI_2, nI_p0, false_or, nle_f, nI_cl, n_lad, n_adl, nI_add, if_true, if_false, ite_true, ite_false]
  · intro a ha
    simp (decide := true) (disch := omega) only [Option.bind_some, wI_row, wI_slot, wI_same, wI_2, nI_p0, false_or, nle_f, nI_cl, n_lad, n_adl, nI_add, if_true, if_false, ite_true, ite_false]
theorem f_addD0 {M : z_Mem} {p : Nat} {d : Int32 × List t_D} (h : D_c M p d) (hl : d.2.length = 5) (x y z : Int32) : F_X1_add w M p x y z = some (false, M) := by
  unfold F_X1_add
  rw [h.1, hl, if_neg (by decide)]
/-! one dropped -/
theorem d_era {l : List t_D} {g j : Nat} : (l.eraseIdx g)[j]? = if j < g then l[j]? else l[j + 1]? := by
  rw [List.getElem?_eraseIdx]
theorem cl_drop {p g : Nat} {d : Int32 × List t_D} (hl : d.2.length ≤ 5) (hg : g < d.2.length) : ∀ (c i : Nat) (M : z_Mem), d.2.length < c + i → g ≤ i → i < d.2.length → M.1 (p + 8) 3 = nI d.2.length → M.1 (p + 8) 4 = d.1 →
    (∀ j x, d.2[j]? = some x → i ≤ j → M.1 (p + 9) j = x.1 ∧ M.1 (p + 10) j = x.2.1 ∧ M.1 (p + 11) j = x.2.2) →
    (∀ j x, (d.2.eraseIdx g)[j]? = some x → j < i → M.1 (p + 9) j = x.1 ∧ M.1 (p + 10) j = x.2.1 ∧ M.1 (p + 11) j = x.2.2) →
    ∃ M', L_X1_drop w p c M (nI i) = some ((), M') ∧ D_c M' p (d.1, d.2.eraseIdx g) ∧ Kd p M M' := by
  intro c
  induction c with
  | zero => intro i M h1; omega
  | succ c ih =>
    intro i M h1 h2 h3 hc hd ha hb
    rw [L_X1_drop]
    have elen : (d.2.eraseIdx g).length = d.2.length - 1 := by rw [List.length_eraseIdx, if_pos hg]
    by_cases hk : i + 1 < d.2.length
    · obtain ⟨y, e1, e2⟩ := d_dr hk
      obtain ⟨g1, g2, g3⟩ := ha (i + 1) y e1 (by omega)
      simp (decide := true) (disch := omega) only [hc, nI_l1, nI_11, F_X1_copyOne, g1, g2, g3, Option.bind_some, wI_row, wI_slot, wI_same, wI_2, nI_p0, false_or, nle_f, nI_cl, n_lad, n_adl, nI_add, if_true, if_false, ite_true, ite_false]
      obtain ⟨M', r1, r2, r3⟩ := ih (i + 1) (z_wI (z_wI (z_wI M (p + 9) i y.1) (p + 10) i y.2.1) (p + 11) i y.2.2) (by omega) (by omega) hk (by simp (decide := true) (disch := omega) only [hc, Option.bind_some, wI_row, wI_slot, wI_same, wI_2, nI_p0, false_or, nle_f, nI_cl, n_lad, n_adl, nI_add, if_true, if_false, ite_true, ite_false]) (by simp (decide := true) (disch := omega) only [hd, Option.bind_some, wI_row, wI_slot, wI_same, wI_2, nI_p0, false_or, nle_f, nI_cl, n_lad, n_adl, nI_add, if_true, if_false, ite_true, ite_false]) (by
        intro j x hx hj
        simp (decide := true) (disch := omega) only [Option.bind_some, wI_row, wI_slot, wI_same, wI_2, nI_p0, false_or, nle_f, nI_cl, n_lad, n_adl, nI_add, if_true, if_false, ite_true, ite_false]
        exact ha j x hx (by omega)) (by
        intro j x hx hj
        by_cases hji : j = i
        · subst hji
          rw [d_era, if_neg (by omega), e1] at hx
          cases hx
          simp (decide := true) (disch := omega) only [Option.bind_some, wI_row, wI_slot, wI_same, wI_2, nI_p0, false_or, nle_f, nI_cl, n_lad, n_adl, nI_add, if_true, if_false, ite_true, ite_false]
        · simp (decide := true) (disch := omega) only [Option.bind_some, wI_row, wI_slot, wI_same, wI_2, nI_p0, false_or, nle_f, nI_cl, n_lad, n_adl, nI_add, if_true, if_false, ite_true, ite_false]
          exact hb j x hx (by omega))
      refine ⟨M', r1, r2, Kd_t ?_ r3⟩
      refine ⟨fun a ha => ?_, rfl⟩
      simp (decide := true) (disch := omega) only [Option.bind_some, wI_row, wI_slot, wI_same, wI_2, nI_p0, false_or, nle_f, nI_cl, n_lad, n_adl, nI_add, if_true, if_false, ite_true, ite_false]
    · refine ⟨z_wI M (p + 8) 3 (nI (d.2.length - 1)), ?_, ⟨?_, ?_, ?_⟩, ?_, rfl⟩
      · simp (decide := true) (disch := omega) only [hc, nI_11, nI_leP, Option.bind_some, wI_row, wI_slot, wI_same, wI_2, nI_p0, false_or, nle_f, nI_cl, n_lad, n_adl, nI_add, if_true, if_false, ite_true, ite_false]
        rw [show nI d.2.length - 1 = nI (d.2.length - 1) from pk_sub (b := 1) (by omega)]
      · simp (decide := true) (disch := omega) only [Option.bind_some, wI_row, wI_slot, wI_same, wI_2, nI_p0, false_or, nle_f, nI_cl, n_lad, n_adl, nI_add, if_true, if_false, ite_true, ite_false]
        rw [elen]
      · simp (decide := true) (disch := omega) only [hd, Option.bind_some, wI_row, wI_slot, wI_same, wI_2, nI_p0, false_or, nle_f, nI_cl, n_lad, n_adl, nI_add, if_true, if_false, ite_true, ite_false]
      · intro j x hx
        have hj : j < (d.2.eraseIdx g).length := d_lt hx
        rw [elen] at hj
        simp (decide := true) (disch := omega) only [Option.bind_some, wI_row, wI_slot, wI_same, wI_2, nI_p0, false_or, nle_f, nI_cl, n_lad, n_adl, nI_add, if_true, if_false, ite_true, ite_false]
        exact hb j x hx (by omega)
      · intro a ha
        simp (decide := true) (disch := omega) only [Option.bind_some, wI_row, wI_slot, wI_same, wI_2, nI_p0, false_or, nle_f, nI_cl, n_lad, n_adl, nI_add, if_true, if_false, ite_true, ite_false]
theorem f_drop {M : z_Mem} {p g : Nat} {d : Int32 × List t_D} (h : D_c M p d) (hl : d.2.length ≤ 5) (hg : g < d.2.length) (hw : 1000 ≤ w) : ∃ M', F_X1_drop w M p (nI g) = some ((), M') ∧ D_c M' p (d.1, d.2.eraseIdx g) ∧ Kd p M M' :=
  cl_drop hl hg w g M (by omega) (by omega) hg h.1 h.2.1 (fun j x hx _ => h.2.2 j x hx) (fun j x hx hj => by rw [d_era, if_pos hj] at hx; exact h.2.2 j x hx)
theorem ml_drop {g : Nat} {d : Int32 × List t_D} (hl : d.2.length ≤ 5) (hg : g < d.2.length) : ∀ (c i : Nat) (M : z_Mem), d.2.length < c + i → g ≤ i → i < d.2.length → M.1 142 1 = nI d.2.length → M.1 142 10 = d.1 →
    (∀ j x, d.2[j]? = some x → i ≤ j → M.1 142 (60 + j) = x.1 ∧ M.1 142 (65 + j) = x.2.1 ∧ M.1 142 (70 + j) = x.2.2) →
    (∀ j x, (d.2.eraseIdx g)[j]? = some x → j < i → M.1 142 (60 + j) = x.1 ∧ M.1 142 (65 + j) = x.2.1 ∧ M.1 142 (70 + j) = x.2.2) →
    ∃ M', L_X12_dropDebt w c M (nI i) = some ((), M') ∧ BD (M'.1 142) (d.1, d.2.eraseIdx g) ∧ Kb M M' := by
  intro c
  induction c with
  | zero => intro i M h1; omega
  | succ c ih =>
    intro i M h1 h2 h3 hc hd ha hb
    rw [L_X12_dropDebt]
    have elen : (d.2.eraseIdx g).length = d.2.length - 1 := by rw [List.length_eraseIdx, if_pos hg]
    by_cases hk : i + 1 < d.2.length
    · obtain ⟨y, e1, e2⟩ := d_dr hk
      obtain ⟨g1, g2, g3⟩ := ha (i + 1) y e1 (by omega)
      rw [← Nat.add_assoc] at g1 g2 g3
      simp (decide := true) (disch := omega) only [hc, nI_l1, nI_11, k_60, k_65, k_70, g1, g2, g3, Option.bind_some, wI_row, wI_slot, wI_same, wI_2, nI_p0, false_or, nle_f, nI_cl, n_lad, n_adl, nI_add, if_true, if_false, ite_true, ite_false]
      obtain ⟨M', r1, r2, r3⟩ := ih (i + 1) (z_wI (z_wI (z_wI M 142 (60 + i) y.1) 142 (65 + i) y.2.1) 142 (70 + i) y.2.2) (by omega) (by omega) hk (by simp (decide := true) (disch := omega) only [hc, Option.bind_some, wI_row, wI_slot, wI_same, wI_2, nI_p0, false_or, nle_f, nI_cl, n_lad, n_adl, nI_add, if_true, if_false, ite_true, ite_false]) (by simp (decide := true) (disch := omega) only [hd, Option.bind_some, wI_row, wI_slot, wI_same, wI_2, nI_p0, false_or, nle_f, nI_cl, n_lad, n_adl, nI_add, if_true, if_false, ite_true, ite_false]) (by
        intro j x hx hj
        have := d_lt hx
        simp (decide := true) (disch := omega) only [Option.bind_some, wI_row, wI_slot, wI_same, wI_2, nI_p0, false_or, nle_f, nI_cl, n_lad, n_adl, nI_add, if_true, if_false, ite_true, ite_false]
        exact ha j x hx (by omega)) (by
        intro j x hx hj
        have := d_lt hx
        by_cases hji : j = i
        · subst hji
          rw [d_era, if_neg (by omega), e1] at hx
          cases hx
          simp (decide := true) (disch := omega) only [Option.bind_some, wI_row, wI_slot, wI_same, wI_2, nI_p0, false_or, nle_f, nI_cl, n_lad, n_adl, nI_add, if_true, if_false, ite_true, ite_false]
        · simp (decide := true) (disch := omega) only [Option.bind_some, wI_row, wI_slot, wI_same, wI_2, nI_p0, false_or, nle_f, nI_cl, n_lad, n_adl, nI_add, if_true, if_false, ite_true, ite_false]
          exact hb j x hx (by omega))
      refine ⟨M', r1, r2, Kb_t ?_ r3⟩
      refine ⟨fun a ha => ?_, fun k n1 n2 n3 => ?_, rfl⟩
      · simp (decide := true) (disch := omega) only [Option.bind_some, wI_row, wI_slot, wI_same, wI_2, nI_p0, false_or, nle_f, nI_cl, n_lad, n_adl, nI_add, if_true, if_false, ite_true, ite_false]
      · simp (decide := true) (disch := omega) only [Option.bind_some, wI_row, wI_slot, wI_same, wI_2, nI_p0, false_or, nle_f, nI_cl, n_lad, n_adl, nI_add, if_true, if_false, ite_true, ite_false]
    · refine ⟨z_wI M 142 1 (nI (d.2.length - 1)), ?_, ⟨?_, ?_, ?_⟩, ?_, ?_, rfl⟩
      · simp (decide := true) (disch := omega) only [hc, nI_11, nI_leP, Option.bind_some, wI_row, wI_slot, wI_same, wI_2, nI_p0, false_or, nle_f, nI_cl, n_lad, n_adl, nI_add, if_true, if_false, ite_true, ite_false]
        rw [show nI d.2.length - 1 = nI (d.2.length - 1) from pk_sub (b := 1) (by omega)]
      · simp (decide := true) (disch := omega) only [Option.bind_some, wI_row, wI_slot, wI_same, wI_2, nI_p0, false_or, nle_f, nI_cl, n_lad, n_adl, nI_add, if_true, if_false, ite_true, ite_false]
        rw [elen]
      · simp (decide := true) (disch := omega) only [hd, Option.bind_some, wI_row, wI_slot, wI_same, wI_2, nI_p0, false_or, nle_f, nI_cl, n_lad, n_adl, nI_add, if_true, if_false, ite_true, ite_false]
      · intro j x hx
        have hj : j < (d.2.eraseIdx g).length := d_lt hx
        rw [elen] at hj
        simp (decide := true) (disch := omega) only [Option.bind_some, wI_row, wI_slot, wI_same, wI_2, nI_p0, false_or, nle_f, nI_cl, n_lad, n_adl, nI_add, if_true, if_false, ite_true, ite_false]
        exact hb j x hx (by omega)
      · intro a ha
        simp (decide := true) (disch := omega) only [Option.bind_some, wI_row, wI_slot, wI_same, wI_2, nI_p0, false_or, nle_f, nI_cl, n_lad, n_adl, nI_add, if_true, if_false, ite_true, ite_false]
      · intro k n1 n2 n3
        simp (decide := true) (disch := omega) only [Option.bind_some, wI_row, wI_slot, wI_same, wI_2, nI_p0, false_or, nle_f, nI_cl, n_lad, n_adl, nI_add, if_true, if_false, ite_true, ite_false]
theorem f_dropB {M : z_Mem} {g : Nat} {d : Int32 × List t_D} (h : BD (M.1 142) d) (hl : d.2.length ≤ 5) (hg : g < d.2.length) (hw : 1000 ≤ w) : ∃ M', F_X12_dropDebt w M (nI g) = some ((), M') ∧ BD (M'.1 142) (d.1, d.2.eraseIdx g) ∧ Kb M M' :=
  ml_drop hl hg w g M (by omega) (by omega) hg h.1 h.2.1 (fun j x hx _ => h.2.2 j x hx) (fun j x hx hj => by rw [d_era, if_pos hj] at hx; exact h.2.2 j x hx)
end
