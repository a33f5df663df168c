/-! ===== small laws of numbers ===== -/
theorem w_lt (a b : Int32) : a.toInt64 < b.toInt64 ↔ a < b := by
  rw [Int64.lt_iff_toInt_lt, Int32.lt_iff_toInt_lt, Int32.toInt_toInt64, Int32.toInt_toInt64]
theorem w_le (a b : Int32) : a.toInt64 ≤ b.toInt64 ↔ a ≤ b := by
  rw [Int64.le_iff_toInt_le, Int32.le_iff_toInt_le, Int32.toInt_toInt64, Int32.toInt_toInt64]
theorem i_nlt {a b : Int32} : ¬ a < b ↔ b ≤ a := by
  rw [Int32.lt_iff_toInt_lt, Int32.le_iff_toInt_le]; omega
theorem i_nle {a b : Int32} : ¬ a ≤ b ↔ b < a := by
  rw [Int32.lt_iff_toInt_lt, Int32.le_iff_toInt_le]; omega
theorem f_isIn (w : Nat) (M : z_Mem) (x a b : Int32) : F_X12_isIn w M x.toInt64 a.toInt64 b.toInt64 = some (decide (a ≤ x ∧ x ≤ b), M) := by
  unfold F_X12_isIn
  simp only [lg_cmp_lt, lg_cmp_gt, w_lt]
  by_cases h1 : x < a
  · rw [if_pos h1, decide_eq_false (fun g => i_nlt.mpr g.1 h1)]
  · rw [if_neg h1]
    by_cases h2 : b < x
    · rw [if_pos h2, decide_eq_false (fun g => i_nlt.mpr g.2 h2)]
    · rw [if_neg h2, decide_eq_true ⟨i_nlt.mp h1, i_nlt.mp h2⟩]
/-- a number between is one of these -/
theorem i_rng {x : Int32} (a b : Nat) (hab : a ≤ b) (hb : b < 2 ^ 31) : (nI a ≤ x ∧ x ≤ nI b) ↔ ∃ j, a ≤ j ∧ j ≤ b ∧ x = nI j := by
  constructor
  · intro h
    have h0 : ¬ x < 0 := by
      have e := nI_toInt (n := a) (by omega)
      rw [Int32.lt_iff_toInt_lt]
      have := Int32.le_iff_toInt_le.mp h.1
      have z : (0 : Int32).toInt = 0 := rfl
      omega
    obtain ⟨j, hj, rfl⟩ := nI_of h0
    exact ⟨j, (nI_leI (by omega) hj).mp h.1, (nI_leI hj hb).mp h.2, rfl⟩
  · rintro ⟨j, h1, h2, rfl⟩
    exact ⟨(nI_leI (by omega) (by omega)).mpr h1, (nI_leI (by omega) hb).mpr h2⟩
theorem i_ne {x a b : Int32} (k : Int32) (h : ¬ (a ≤ x ∧ x ≤ b)) (hk : a ≤ k ∧ k ≤ b) : ¬ x = k := fun e => h (e ▸ hk)
/-- below a count -/
theorem i_cnt {x : Int32} {n : Nat} (hn : n < 2 ^ 30) : (0 ≤ x ∧ x ≤ nI n - 1) ↔ ∃ j, j < n ∧ x = nI j := by
  have e1 : (nI n - 1).toInt = (n : Int) - 1 := pk_sub_toInt (a := n) (b := 1) hn (by decide)
  constructor
  · intro h
    obtain ⟨j, hj, rfl⟩ := nI_of (i_nlt.mpr h.1)
    refine ⟨j, ?_, rfl⟩
    have h2 := Int32.le_iff_toInt_le.mp h.2
    rw [nI_toInt hj, e1] at h2
    omega
  · rintro ⟨j, h1, rfl⟩
    refine ⟨nI_pos' (by omega), ?_⟩
    rw [Int32.le_iff_toInt_le, nI_toInt (by omega), e1]
    omega
theorem i_cntB {x : Int32} {n : Nat} (hn : n < 2 ^ 30) : (∃ j, j < n ∧ x = nI j) ↔ ¬ x < 0 ∧ ¬ nI n ≤ x := by
  constructor
  · rintro ⟨j, h1, rfl⟩
    exact ⟨nI_pos (by omega), nI_ge h1 (by omega)⟩
  · rintro ⟨h1, h2⟩
    obtain ⟨j, hj, rfl⟩ := nI_of h1
    refine ⟨j, ?_, rfl⟩
    rw [nI_leI (by omega) hj] at h2
    omega
theorem n_in {j N : Nat} (h : j < N) (hN : N < 2 ^ 31) : ¬ (nI j < 0 ∨ N ≤ (nI j).toNatClampNeg) := nI_in h hN
theorem n_ad (k : Int32) (n j : Nat) (hk : k = nI n) : k + nI j = nI (n + j) := by rw [hk, nI_add]
/-! a call that changes the status alone -/
theorem r_st {M M' : z_Mem} (h : r_Rel M) (k : ∀ a, a ≠ 0 → a ≠ 137 → M'.1 a = M.1 a) (k0 : ∀ k, k ≠ 11 → M'.1 0 k = M.1 0 k) (k1 : ∀ k, k ≠ 0 → k ≠ 1 → M'.1 137 k = M.1 137 k) (kl : M'.2 = M.2) (hs : M'.1 0 11 = M'.1 137 0) : r_Rel M' := by
  refine r_q h hs ?_ ?_ ?_ ?_ ?_
  · intro j hj; exact k0 j (by omega)
  · intro j hj; exact k1 j (by omega) (by omega)
  · rw [k 5 (by decide) (by decide)]
  · intro a ha; unfold r_core at ha; exact k a (by omega) (by omega)
  · intro a j _; rw [kl]
/-- what an asking call leaves behind: v the status -/
def z_st (M : z_Mem) (v : Int32) : z_Mem := z_wI (z_wI (z_wI M 0 11 v) 137 1 0) 137 0 v
theorem r_stv {M : z_Mem} (v : Int32) (h : r_Rel M) : r_Rel (z_st M v) :=
  r_st h (fun a ha hb => by simp [z_st, wI_row, ha, hb]) (fun k hk => by simp [z_st, wI_rd, hk]) (fun k hk hj => by simp [z_st, wI_rd, hk, hj]) rfl (by simp [z_st, wI_rd])
theorem wI_wI (M : z_Mem) (a k : Nat) (v u : Int32) : z_wI (z_wI M a k v) a k u = z_wI M a k u := by
  unfold z_wI
  refine Prod.ext ?_ rfl
  funext b j
  by_cases h : b = a
  · subst h
    by_cases g : j = k
    · subst g; simp [upd]
    · simp [upd, g]
  · simp [h]
theorem st_v (M : z_Mem) (v : Int32) : z_wI (z_wI (z_wI (z_wI M 0 11 v) 137 1 0) 137 0 0) 137 0 v = z_st M v := by rw [wI_wI]; rfl
theorem st_0 (M : z_Mem) : z_wI (z_wI (z_wI M 0 11 0) 137 1 0) 137 0 0 = z_st M 0 := rfl
theorem i_lit1 {a : Int32} (h : (0 : Int32) ≤ a ∧ a ≤ 1) : a = 0 ∨ a = 1 := by
  obtain ⟨j, _, hj, rfl⟩ := (i_rng 0 1 (by omega) (by omega)).mp h
  have hh : j = 0 ∨ j = 1 := by omega
  rcases hh with rfl | rfl <;> decide
theorem i_lit2 {a : Int32} (h : (0 : Int32) ≤ a ∧ a ≤ 2) : a = 0 ∨ a = 1 ∨ a = 2 := by
  obtain ⟨j, _, hj, rfl⟩ := (i_rng 0 2 (by omega) (by omega)).mp h
  have hh : j = 0 ∨ j = 1 ∨ j = 2 := by omega
  rcases hh with rfl | rfl | rfl <;> decide
theorem i_lit4 {a : Int32} (h : (0 : Int32) ≤ a ∧ a ≤ 4) : a = 0 ∨ a = 1 ∨ a = 2 ∨ a = 3 ∨ a = 4 := by
  obtain ⟨j, _, hj, rfl⟩ := (i_rng 0 4 (by omega) (by omega)).mp h
  have hh : j = 0 ∨ j = 1 ∨ j = 2 ∨ j = 3 ∨ j = 4 := by omega
  rcases hh with rfl | rfl | rfl | rfl | rfl <;> decide
theorem i_lit6 {a : Int32} (h : (0 : Int32) ≤ a ∧ a ≤ 6) : a = 0 ∨ a = 1 ∨ a = 2 ∨ a = 3 ∨ a = 4 ∨ a = 5 ∨ a = 6 := by
  obtain ⟨j, _, hj, rfl⟩ := (i_rng 0 6 (by omega) (by omega)).mp h
  have hh : j = 0 ∨ j = 1 ∨ j = 2 ∨ j = 3 ∨ j = 4 ∨ j = 5 ∨ j = 6 := by omega
  rcases hh with rfl | rfl | rfl | rfl | rfl | rfl | rfl <;> decide
theorem i_lit11 {a : Int32} (h : (0 : Int32) ≤ a ∧ a ≤ 11) : a = 0 ∨ a = 1 ∨ a = 2 ∨ a = 3 ∨ a = 4 ∨ a = 5 ∨ a = 6 ∨ a = 7 ∨ a = 8 ∨ a = 9 ∨ a = 10 ∨ a = 11 := by
  obtain ⟨j, _, hj, rfl⟩ := (i_rng 0 11 (by omega) (by omega)).mp h
  have hh : j = 0 ∨ j = 1 ∨ j = 2 ∨ j = 3 ∨ j = 4 ∨ j = 5 ∨ j = 6 ∨ j = 7 ∨ j = 8 ∨ j = 9 ∨ j = 10 ∨ j = 11 := by omega
  rcases hh with rfl | rfl | rfl | rfl | rfl | rfl | rfl | rfl | rfl | rfl | rfl | rfl <;> decide
