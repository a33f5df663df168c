/-! ===== a month goes by: loops ===== -/
def b_set (s : Nat → Int32) (r : t_R) : Nat → Int32
  | 0 => 0
  | i + 1 => b_set s r i ||| (if b_bear s r i then (1 : Int32) <<< (nI i &&& 31) else 0)
theorem bt_sh {i k : Nat} (hi : i < 32) (hk : k < 32) : bt ((1 : Int32) <<< (nI i &&& 31)) k = decide (k = i) := by
  rw [b_shl i hi 1 hk, b_1]
  by_cases h : k = i
  · subst h; simp
  · by_cases g : i ≤ k
    · have : ¬ k - i = 0 := by omega
      simp [h, this]
    · simp [h, g]
theorem bt_set {s : Nat → Int32} {r : t_R} {k : Nat} (hk : k < 32) : ∀ n, n ≤ 32 → bt (b_set s r n) k = (decide (k < n) && b_bear s r k) := by
  intro n
  induction n with
  | zero => intro _; rw [b_set, b_0]; simp
  | succ n ih =>
    intro hn
    rw [b_set, b_or, ih (by omega)]
    have e : bt (if b_bear s r n = true then (1 : Int32) <<< (nI n &&& 31) else 0) k = (b_bear s r n && decide (k = n)) := by
      cases h : b_bear s r n
      · simp [b_0]
      · rw [if_pos rfl, bt_sh (by omega) hk]; simp
    rw [e]
    by_cases h1 : k = n
    · subst h1; simp
    · by_cases h2 : k < n
      · simp [h1, h2, show k < n + 1 by omega]
      · simp [h1, h2, show ¬ k < n + 1 by omega]
section
variable {w : Nat}
theorem ml_borne {M : z_Mem} {s : Nat → Int32} {r : t_R} (h : BS (M.1 142) s) (hr : BR (M.1 142) r) (hw : VR r) : ∀ (c i : Nat), r.1 < c + i → i ≤ r.1 → L_X12_borne w c M (b_set s r i) (nI i) = some (b_set s r r.1, M) := by
  have hi8 : r.1 ≤ 8 := hw.1
  intro c
  induction c with
  | zero => intro i h1 h2; omega
  | succ c ih =>
    intro i h1 h2
    rw [L_X12_borne]
    by_cases hk : i < r.1
    · have e := f_borne1 (w := w) h hr hw hk
      have n := ih (i + 1) (by omega) (by omega)
      rw [b_set] at n
      cases hb : b_bear s r i
      · rw [hb] at n
        simp (decide := true) (disch := omega) only [hr.1, nI_l1, e, hb, nI_11, Bool.false_eq_true, Option.bind_some, wI_row, wI_slot, wI_same, wI_2, nI_p0, false_or, nle_f, nI_cl, n_lad, n_adl, nI_add, if_true, if_false, ite_true, ite_false]
        simpa using n
      · rw [hb] at n
        simp (decide := true) (disch := omega) only [hr.1, nI_l1, e, hb, nI_11, Option.bind_some, wI_row, wI_slot, wI_same, wI_2, nI_p0, false_or, nle_f, nI_cl, n_lad, n_adl, nI_add, if_true, if_false, ite_true, ite_false]
        simpa using n
    · have : i = r.1 := by omega
      subst this
      simp (decide := true) (disch := omega) only [hr.1, nI_leP, Option.bind_some, wI_row, wI_slot, wI_same, wI_2, nI_p0, false_or, nle_f, nI_cl, n_lad, n_adl, nI_add, if_true, if_false, ite_true, ite_false]
theorem f_borne {M : z_Mem} {s : Nat → Int32} {r : t_R} (h : BS (M.1 142) s) (hr : BR (M.1 142) r) (hv : VR r) (hw : 1000 ≤ w) : F_X12_borne w M = some (b_set s r r.1, M) :=
  ml_borne h hr hv w 0 (by have := hv.1; omega) (by omega)
theorem f_hasSet {M : z_Mem} {s : Nat → Int32} {r : t_R} {k : Nat} (hr : VR r) (hk : k < r.1) : F_X12_has w M (b_set s r r.1) (nI k) = some (b_bear s r k, M) := by
  have := hr.1
  unfold F_X12_has
  rw [b_bit _ (by omega), bt_set (by omega) _ (by omega)]
  cases b_bear s r k <;> simp [hk]
/-! what the months ahead of i's rights leave as it was -/
theorem up_n (s : Nat → Int32) (r : t_R) : ∀ (n k : Nat), k < 12 ∨ 14 ≤ k → (∀ i, i < n → r.2 0 i = 0 ∨ r.2 0 i = 1) → b_upto s r n k = s k := by
  intro n
  induction n with
  | zero => intro k _ _; rfl
  | succ n ih =>
    intro k hk hs
    rw [b_upto]
    have e := ih k hk (fun i hi => hs i (by omega))
    by_cases hb : b_bear s r n = true
    · rw [if_pos hb]
      unfold b_bring
      rcases hs n (by omega) with g | g
      · rw [g, show (0 : Int32).toNatClampNeg = 0 from rfl, sU_n (by omega), e]
      · rw [g, show (1 : Int32).toNatClampNeg = 1 from rfl, sU_n (by omega), e]
    · rw [if_neg hb, e]
theorem cap_in {x v : Int32} (h : 0 ≤ x ∧ x ≤ 9999) (g : 0 ≤ v ∧ v ≤ 9999) : 0 ≤ b_cap (x + v) ∧ b_cap (x + v) ≤ 9999 := by
  unfold b_cap
  have h1 := Int32.le_iff_toInt_le.mp h.1
  have h2 := Int32.le_iff_toInt_le.mp h.2
  have h3 := Int32.le_iff_toInt_le.mp g.1
  have h4 := Int32.le_iff_toInt_le.mp g.2
  have z0 : (0 : Int32).toInt = 0 := rfl
  have z9 : (9999 : Int32).toInt = 9999 := rfl
  have e : (x + v).toInt = x.toInt + v.toInt := by
    rw [Int32.toInt_add, Int.bmod_eq_of_le (by omega) (by omega)]
  by_cases q : x + v < 9999
  · rw [if_pos q, Int32.le_iff_toInt_le, Int32.le_iff_toInt_le, e]
    rw [Int32.lt_iff_toInt_lt, e] at q
    omega
  · rw [if_neg q]; decide
theorem up_v {s : Nat → Int32} {r : t_R} (hv : VS s) (hr : VR r) : ∀ n, n ≤ r.1 → VS (b_upto s r n) := by
  intro n
  induction n with
  | zero => intro _; exact hv
  | succ n ih =>
    intro hn
    obtain ⟨v1, v2, v3, v4, v5, v6, v7⟩ := ih (by omega)
    rw [b_upto]
    by_cases hb : b_bear s r n = true
    · rw [if_pos hb]
      have hs := (hr.2 n (by omega)).1
      have hw := (hr.2 n (by omega)).2.2.1
      have hw' : 0 ≤ r.2 3 n ∧ r.2 3 n ≤ 9999 := by
        have q1 := Int32.le_iff_toInt_le.mp hw.1
        have q2 := Int32.le_iff_toInt_le.mp hw.2
        rw [Int32.le_iff_toInt_le, Int32.le_iff_toInt_le]
        have z0 : (0 : Int32).toInt = 0 := rfl
        have z1 : (1 : Int32).toInt = 1 := rfl
        have z5 : (50 : Int32).toInt = 50 := rfl
        have z9 : (9999 : Int32).toInt = 9999 := rfl
        omega
      unfold b_bring
      rcases hs with g | g
      · rw [g, show (0 : Int32).toNatClampNeg = 0 from rfl]
        refine ⟨?_, ?_, ?_, ?_, ?_, ?_, ?_⟩
        · rw [sU_n (by omega)]; exact v1
        · intro k hk; rw [sU_n (by omega)]; exact v2 k hk
        · rw [sU_s]; exact cap_in v3 hw'
        · rw [sU_n (by omega)]; exact v4
        · rw [sU_n (by omega)]; exact v5
        · rw [sU_n (by omega)]; exact v6
        · rw [sU_n (by omega)]; exact v7
      · rw [g, show (1 : Int32).toNatClampNeg = 1 from rfl]
        refine ⟨?_, ?_, ?_, ?_, ?_, ?_, ?_⟩
        · rw [sU_n (by omega)]; exact v1
        · intro k hk; rw [sU_n (by omega)]; exact v2 k hk
        · rw [sU_n (by omega)]; exact v3
        · rw [sU_s]; exact cap_in v4 hw'
        · rw [sU_n (by omega)]; exact v5
        · rw [sU_n (by omega)]; exact v6
        · rw [sU_n (by omega)]; exact v7
    · rw [if_neg hb]; exact ⟨v1, v2, v3, v4, v5, v6, v7⟩
/-- bearing asks nothing of the chests -/
theorem bear_eq {s t : Nat → Int32} {r : t_R} {i : Nat} (hr : VR r) (hi : i < r.1) (h : ∀ k, k < 12 ∨ 14 ≤ k → t k = s k) : b_bear t r i = b_bear s r i := by
  unfold b_bear b_mon
  rw [h 9 (by omega), h 8 (by omega)]
  rcases vr_kind hr hi with k | k | ⟨k1, k2, m, m1, m2, m3⟩
  · rw [if_pos k, if_pos k]
  · rw [if_neg (show ¬ r.2 1 i = 0 by rw [k]; decide), if_neg (show ¬ r.2 1 i = 0 by rw [k]; decide), if_pos k, if_pos k]
  · rw [if_neg k1, if_neg k1, if_neg k2, if_neg k2]
    unfold b_ago
    rw [m3, h 8 (by omega), nI_clamp (by omega), h (13 + m) (by omega)]
/-! the class -/
def Kc (p : Nat) (M M' : z_Mem) : Prop := (∀ a, a < p ∨ p + 23 ≤ a → M'.1 a = M.1 a) ∧ M'.2 = M.2
theorem Kc_r {p : Nat} {M : z_Mem} : Kc p M M := ⟨fun _ _ => rfl, rfl⟩
theorem Kc_t {p : Nat} {M N L : z_Mem} (h : Kc p M N) (g : Kc p N L) : Kc p M L := ⟨fun a ha => (g.1 a ha).trans (h.1 a ha), g.2.trans h.2⟩
def CK (M : z_Mem) (p : Nat) (s : Nat → Int32) : Prop := CS (M.1 p) (M.1 (p + 1)) s
theorem f_bring {M : z_Mem} {p : Nat} {s : Nat → Int32} (h : CK M p s) {x v : Int32} (hx : x = 0 ∨ x = 1) : ∃ M', F_X3_bring w M p x v = some ((), M') ∧ CK M' p (b_bring s x v) ∧ (∀ a, a ≠ p + 1 → M'.1 a = M.1 a) ∧ M'.2 = M.2 := by
  obtain ⟨s5, s6, s7, s8, s9, s10, s11, s12, s13⟩ := h
  rcases hx with rfl | rfl
  · refine ⟨z_wI M (p + 1) 0 (b_cap (s 12 + v)), ?_, ⟨?_, ?_, ?_, ?_, ?_, ?_, ?_, ?_, ?_⟩, fun a ha => wI_row ha, rfl⟩
    · show some ((), z_wI M (p + 1) 0 (b_cap (M.1 (p + 1) 0 + v))) = _
      rw [s12]
    all_goals
      simp only [b_bring, show (0 : Int32).toNatClampNeg = 0 from rfl]
      try unfold z_lay
      simp (decide := true) (disch := omega) only [sU_n, sU_s, s5, s6, s7, s8, s9, s10, s11, s12, s13, Nat.add_zero, z_lay, Option.bind_some, wI_row, wI_slot, wI_same, wI_2, nI_p0, false_or, nle_f, nI_cl, n_lad, n_adl, nI_add, if_true, if_false, ite_true, ite_false]
  · refine ⟨z_wI M (p + 1) 1 (b_cap (s 13 + v)), ?_, ⟨?_, ?_, ?_, ?_, ?_, ?_, ?_, ?_, ?_⟩, fun a ha => wI_row ha, rfl⟩
    · show some ((), z_wI M (p + 1) 1 (b_cap (M.1 (p + 1) 1 + v))) = _
      rw [s13]
    all_goals
      simp only [b_bring, show (1 : Int32).toNatClampNeg = 1 from rfl]
      try unfold z_lay
      simp (decide := true) (disch := omega) only [sU_n, sU_s, s5, s6, s7, s8, s9, s10, s11, s12, s13, Nat.reduceAdd, z_lay, Option.bind_some, wI_row, wI_slot, wI_same, wI_2, nI_p0, false_or, nle_f, nI_cl, n_lad, n_adl, nI_add, if_true, if_false, ite_true, ite_false]
theorem cl_pass {p : Nat} {s : Nat → Int32} {r : t_R} {d : Int32 × List t_D} (hv : VS s) (hr : VR r) (hd : d.2.length ≤ 5) (hw : 1000 ≤ w) : ∀ (c i : Nat) (M : z_Mem), r.1 < c + i → i ≤ r.1 → CK M p (b_upto s r i) → R_c M p r → D_c M p d →
    ∃ M', L_X3_passMonth w p c M (nI i) = some ((), M') ∧ CK M' p (sU (b_shift (b_upto s r r.1)) 9 (s 9 + 1)) ∧ D_c M' p (d.1 + nI (d.2.length - (b_age d.2).length), b_age d.2) ∧ (∀ a, a ≠ p → a ≠ p + 1 → a < p + 8 ∨ p + 12 ≤ a → M'.1 a = M.1 a) ∧ M'.2 = M.2 := by
  have hi8 : r.1 ≤ 8 := hr.1
  have hss : ∀ n, n ≤ r.1 → ∀ k, k < 12 ∨ 14 ≤ k → b_upto s r n k = s k := fun n hn k hk => up_n s r n k hk (fun i hi => (hr.2 i (by omega)).1)
  intro c
  induction c with
  | zero => intro i M h1; omega
  | succ c ih =>
    intro i M h1 h2 hc hR hD
    rw [L_X3_passMonth]
    by_cases hk : i < r.1
    · have e := f_bear (w := w) hc hR (up_v hv hr i (by omega)) hr hk
      rw [bear_eq hr hk (hss i (by omega))] at e
      obtain ⟨g0, g1, g2, g3, g4⟩ := hR.2 i hk
      cases hb : b_bear s r i
      · rw [hb] at e
        simp (decide := true) (disch := omega) only [hR.1, nI_l1, e, nI_11, Bool.false_eq_true, Option.bind_some, wI_row, wI_slot, wI_same, wI_2, nI_p0, false_or, nle_f, nI_cl, n_lad, n_adl, nI_add, if_true, if_false, ite_true, ite_false]
        exact ih (i + 1) M (by omega) (by omega) (by rw [b_upto, hb]; exact hc) hR hD
      · rw [hb] at e
        simp (decide := true) (disch := omega) only [hR.1, nI_l1, e, nI_11, g0, g3, Option.bind_some, wI_row, wI_slot, wI_same, wI_2, nI_p0, false_or, nle_f, nI_cl, n_lad, n_adl, nI_add, if_true, if_false, ite_true, ite_false]
        obtain ⟨N, n1, n2, n3, n4⟩ := f_bring (w := w) (v := r.2 3 i) hc (hr.2 i hk).1
        rw [n1]
        simp only [Option.bind_some]
        obtain ⟨M', r1, r2, r3, r4, r5⟩ := ih (i + 1) N (by omega) (by omega) (by rw [b_upto, hb]; exact n2) (by unfold R_c at hR ⊢; rw [n3 (p + 2) (by omega), n3 (p + 3) (by omega), n3 (p + 4) (by omega), n3 (p + 5) (by omega), n3 (p + 6) (by omega), n3 (p + 7) (by omega)]; exact hR) (by unfold D_c at hD ⊢; rw [n3 (p + 8) (by omega), n3 (p + 9) (by omega), n3 (p + 10) (by omega), n3 (p + 11) (by omega)]; exact hD)
        exact ⟨M', r1, r2, r3, fun a a1 a2 a3 => (r4 a a1 a2 a3).trans (n3 a a2), r5.trans n4⟩
    · have : i = r.1 := by omega
      subst this
      obtain ⟨N, n1, n2, n3, n4⟩ := f_age (w := w) hD hd hw
      obtain ⟨s5, s6, s7, s8, s9, s10, s11, s12, s13⟩ := hc
      simp (decide := true) (disch := omega) only [hR.1, nI_leP, n1, Option.bind_some, wI_row, wI_slot, wI_same, wI_2, nI_p0, false_or, nle_f, nI_cl, n_lad, n_adl, nI_add, if_true, if_false, ite_true, ite_false]
      have hvu := up_v hv hr r.1 (by omega)
      rw [n3 p (by omega), s9, s8, lay_sh hvu, s10]
      refine ⟨_, rfl, ⟨?_, ?_, ?_, ?_, ?_, ?_, ?_, ?_, ?_⟩, ?_, ?_, n4⟩
      · simp (decide := true) (disch := omega) only [n3, sU_n, b_shift, s5, Option.bind_some, wI_row, wI_slot, wI_same, wI_2, nI_p0, false_or, nle_f, nI_cl, n_lad, n_adl, nI_add, if_true, if_false, ite_true, ite_false]
      · simp (decide := true) (disch := omega) only [n3, sU_n, b_shift, s6, Option.bind_some, wI_row, wI_slot, wI_same, wI_2, nI_p0, false_or, nle_f, nI_cl, n_lad, n_adl, nI_add, if_true, if_false, ite_true, ite_false]
      · simp (decide := true) (disch := omega) only [n3, sU_n, b_shift, s7, Option.bind_some, wI_row, wI_slot, wI_same, wI_2, nI_p0, false_or, nle_f, nI_cl, n_lad, n_adl, nI_add, if_true, if_false, ite_true, ite_false]
      · simp (decide := true) (disch := omega) only [n3, sU_n, b_shift, s8, Option.bind_some, wI_row, wI_slot, wI_same, wI_2, nI_p0, false_or, nle_f, nI_cl, n_lad, n_adl, nI_add, if_true, if_false, ite_true, ite_false]
      · simp (decide := true) (disch := omega) only [n3, z_lay, sU_n, Option.bind_some, wI_row, wI_slot, wI_same, wI_2, nI_p0, false_or, nle_f, nI_cl, n_lad, n_adl, nI_add, if_true, if_false, ite_true, ite_false]
      · simp (decide := true) (disch := omega) only [n3, sU_s, Option.bind_some, wI_row, wI_slot, wI_same, wI_2, nI_p0, false_or, nle_f, nI_cl, n_lad, n_adl, nI_add, if_true, if_false, ite_true, ite_false]
        rw [hss r.1 (by omega) 9 (by omega)]
      · simp (decide := true) (disch := omega) only [n3, sU_n, b_shift, s11, Option.bind_some, wI_row, wI_slot, wI_same, wI_2, nI_p0, false_or, nle_f, nI_cl, n_lad, n_adl, nI_add, if_true, if_false, ite_true, ite_false]
      · simp (decide := true) (disch := omega) only [n3, sU_n, b_shift, s12, Option.bind_some, wI_row, wI_slot, wI_same, wI_2, nI_p0, false_or, nle_f, nI_cl, n_lad, n_adl, nI_add, if_true, if_false, ite_true, ite_false]
      · simp (decide := true) (disch := omega) only [n3, sU_n, b_shift, s13, Option.bind_some, wI_row, wI_slot, wI_same, wI_2, nI_p0, false_or, nle_f, nI_cl, n_lad, n_adl, nI_add, if_true, if_false, ite_true, ite_false]
      · unfold D_c at n2 ⊢
        simp (decide := true) (disch := omega) only [Option.bind_some, wI_row, wI_slot, wI_same, wI_2, nI_p0, false_or, nle_f, nI_cl, n_lad, n_adl, nI_add, if_true, if_false, ite_true, ite_false]
        exact n2
      · intro a a1 a2 a3
        simp (decide := true) (disch := omega) only [n3, Option.bind_some, wI_row, wI_slot, wI_same, wI_2, nI_p0, false_or, nle_f, nI_cl, n_lad, n_adl, nI_add, if_true, if_false, ite_true, ite_false]
end
