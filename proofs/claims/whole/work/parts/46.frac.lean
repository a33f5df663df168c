/-! ===== fractions, share, whose; court ===== -/
theorem lN0 : (0 : Int64) = lN 0 := rfl
def fr_c (M : z_Mem) (a b : Nat) : z_Mem := z_wI (z_wL (z_wL M 0 12 (lN (a / Nat.gcd b a))) 0 13 (lN (b / Nat.gcd b a))) 0 11 0
def fr_m (M : z_Mem) (a b : Nat) : z_Mem := z_wL (z_wL M 137 2 (lN (a / Nat.gcd b a))) 137 3 (lN (b / Nat.gcd b a))
theorem mod_half {x y : Nat} (h0 : 0 < y) (h : y ≤ x) : x % y < y ∧ 2 * (x % y) < x := by
  have h1 := Nat.mod_lt x h0
  have h2 := Nat.div_add_mod x y
  have h3 : 1 ≤ x / y := Nat.div_pos h h0
  have h4 : y * 1 ≤ y * (x / y) := Nat.mul_le_mul_left y h3
  omega
section
variable {w : Nat}
theorem cl_fr {a b : Nat} (ha : a < 2 ^ 40) (hb : b < 2 ^ 40) (M : z_Mem) : ∀ (m x y i c : Nat), y ≤ x → 0 < x → x < 2 ^ m → m ≤ 40 → 2 * m + 1 < c → i + 2 * m ≤ 100 → Nat.gcd y x = Nat.gcd b a → L_X11_tellFraction w c M (lN a) (lN b) (lN x) (lN y) (nI i) = some (true, fr_c M a b) := by
  have fin : ∀ (x i c : Nat), 0 < x → x < 2 ^ 40 → i ≤ 100 → x = Nat.gcd b a → L_X11_tellFraction w (c + 1) M (lN a) (lN b) (lN x) (lN 0) (nI i) = some (true, fr_c M a b) := by
    intro x i c h0 hx hi hg
    have p1 : (0 : Int32) < lg_cmp (lN x) 0 := (lg_cmp_gt _ _).mpr ((pk_lLT (a := 0) (by omega) (by omega)).mpr h0)
    have p2 : ¬ lN x = 0 := fun e => by
      have := (pk_lEQ (b := 0) (by omega) (by omega)).mp e
      omega
    have p3 : lg_cmp (lN 0) 0 ≤ (0 : Int32) := (lg_cmp_le _ _).mpr ((pk_lLE (a := 0) (b := 0) (by omega) (by omega)).mpr (by omega))
    have d1 : lN a / lN x = lN (a / x) := pk_lDiv (by omega) h0 (by omega)
    have d2 : lN b / lN x = lN (b / x) := pk_lDiv (by omega) h0 (by omega)
    rw [L_X11_tellFraction]
    unfold fr_c
    rw [← hg]
    by_cases g : (100 : Int32) ≤ nI i
    · rw [if_pos g, if_pos p1, if_neg p2, if_neg p2, d1, d2]
      rfl
    · rw [if_neg g, if_pos p3, if_pos p1, if_neg p2, if_neg p2, d1, d2]
      rfl
  have step : ∀ (x y i c : Nat), 0 < y → y ≤ x → x < 2 ^ 40 → i < 100 → L_X11_tellFraction w (c + 1) M (lN a) (lN b) (lN x) (lN y) (nI i) = L_X11_tellFraction w c M (lN a) (lN b) (lN y) (lN (x % y)) (nI (i + 1)) := by
    intro x y i c h0 hy hx hi
    have p1 : ¬ lg_cmp (lN y) 0 ≤ (0 : Int32) := fun e => by
      have := (pk_lLE (b := 0) (by omega) (by omega)).mp ((lg_cmp_le _ _).mp e)
      omega
    have p2 : ¬ lN y = 0 := fun e => by
      have := (pk_lEQ (b := 0) (by omega) (by omega)).mp e
      omega
    rw [L_X11_tellFraction, if_neg (ge100 hi), if_neg p1, if_neg p2, pk_lRem (by omega) h0 (by omega), nI_11]
  intro m
  induction m with
  | zero => intro x y i c h1 h2 h3; omega
  | succ m ih =>
    intro x y i c h1 h2 h3 h4 h5 h6 h7
    have hx : x < 2 ^ 40 := Nat.lt_of_lt_of_le h3 (Nat.pow_le_pow_right (by omega) h4)
    obtain ⟨c, rfl⟩ : ∃ c', c = c' + 3 := ⟨c - 3, by omega⟩
    by_cases y0 : y = 0
    · subst y0
      rw [Nat.gcd_zero_left] at h7
      exact fin x i (c + 2) h2 hx (by omega) h7
    · obtain ⟨r1, r2⟩ := mod_half (x := x) (y := y) (by omega) h1
      rw [show c + 3 = (c + 2) + 1 from rfl, step x y i (c + 2) (by omega) h1 hx (by omega)]
      rw [Nat.gcd_rec] at h7
      by_cases r0 : x % y = 0
      · rw [r0]
        rw [r0, Nat.gcd_zero_left] at h7
        exact fin y (i + 1) (c + 1) (by omega) (by omega) (by omega) h7
      · rw [show c + 2 = (c + 1) + 1 from rfl, step y (x % y) (i + 1) (c + 1) (by omega) (by omega) (by omega) (by omega)]
        rw [Nat.gcd_rec] at h7
        have := Nat.mod_lt y (show 0 < x % y by omega)
        have h9 : 2 ^ (m + 1) = 2 * 2 ^ m := by rw [Nat.pow_succ]; omega
        exact ih (x % y) (y % (x % y)) (i + 1 + 1) (c + 1) (by omega) (by omega) (by omega) (by omega) (by omega) (by omega) h7
theorem f_tell (hw : 1000 ≤ w) {a b : Nat} (hab : a ≤ b) (hb0 : 0 < b) (hb : b < 2 ^ 40) (M : z_Mem) : F_X11_tellFraction w M (lN a) (lN b) = some (true, fr_c M a b) := by
  have p1 : (0 : Int32) < lg_cmp (lN b) 0 := (lg_cmp_gt _ _).mpr ((pk_lLT (a := 0) (by omega) (by omega)).mpr hb0)
  unfold F_X11_tellFraction
  rw [if_pos p1]
  exact cl_fr (by omega) hb M 40 b a 0 w hab hb0 hb (by omega) (by omega) (by omega) (Nat.gcd_comm a b)
theorem f_tell0 (a : Int64) (M : z_Mem) : F_X11_tellFraction w M a 0 = some (false, z_wI M 0 11 8) := by
  unfold F_X11_tellFraction
  rw [if_neg (by decide)]
  rfl
theorem ml_fr {a b : Nat} (ha : a < 2 ^ 40) (hb : b < 2 ^ 40) (M : z_Mem) : ∀ (m x y c : Nat), y ≤ x → 0 < x → x < 2 ^ m → m ≤ 40 → 2 * m + 1 < c → Nat.gcd y x = Nat.gcd b a → L_X12_fraction w c M (lN a) (lN b) (lN x) (lN y) = some (true, fr_m M a b) := by
  have fin : ∀ (x c : Nat), 0 < x → x < 2 ^ 40 → x = Nat.gcd b a → L_X12_fraction w (c + 1) M (lN a) (lN b) (lN x) (lN 0) = some (true, fr_m M a b) := by
    intro x c h0 hx hg
    have p2 : ¬ lN x = 0 := fun e => by
      have := (pk_lEQ (b := 0) (by omega) (by omega)).mp e
      omega
    have p3 : lg_cmp (lN 0) 0 = (0 : Int32) := (lg_cmp_eq _ _).mpr rfl
    have d1 : lN a / lN x = lN (a / x) := pk_lDiv (by omega) h0 (by omega)
    have d2 : lN b / lN x = lN (b / x) := pk_lDiv (by omega) h0 (by omega)
    rw [L_X12_fraction]
    unfold fr_m
    rw [← hg, if_pos p3, if_neg p2, if_neg p2, d1, d2]
  have step : ∀ (x y c : Nat), 0 < y → y ≤ x → x < 2 ^ 40 → L_X12_fraction w (c + 1) M (lN a) (lN b) (lN x) (lN y) = L_X12_fraction w c M (lN a) (lN b) (lN y) (lN (x % y)) := by
    intro x y c h0 hy hx
    have p2 : ¬ lN y = 0 := fun e => by
      have := (pk_lEQ (b := 0) (by omega) (by omega)).mp e
      omega
    have p1 : ¬ lg_cmp (lN y) 0 = (0 : Int32) := fun e => p2 ((lg_cmp_eq _ _).mp e)
    rw [L_X12_fraction, if_neg p1, if_neg p2, pk_lRem (by omega) h0 (by omega)]
  intro m
  induction m with
  | zero => intro x y c h1 h2 h3; omega
  | succ m ih =>
    intro x y c h1 h2 h3 h4 h5 h7
    have hx : x < 2 ^ 40 := Nat.lt_of_lt_of_le h3 (Nat.pow_le_pow_right (by omega) h4)
    obtain ⟨c, rfl⟩ : ∃ c', c = c' + 3 := ⟨c - 3, by omega⟩
    by_cases y0 : y = 0
    · subst y0
      rw [Nat.gcd_zero_left] at h7
      exact fin x (c + 2) h2 hx h7
    · obtain ⟨r1, r2⟩ := mod_half (x := x) (y := y) (by omega) h1
      rw [show c + 3 = (c + 2) + 1 from rfl, step x y (c + 2) (by omega) h1 hx]
      rw [Nat.gcd_rec] at h7
      by_cases r0 : x % y = 0
      · rw [r0]
        rw [r0, Nat.gcd_zero_left] at h7
        exact fin y (c + 1) (by omega) (by omega) h7
      · rw [show c + 2 = (c + 1) + 1 from rfl, step y (x % y) (c + 1) (by omega) (by omega) (by omega)]
        rw [Nat.gcd_rec] at h7
        have := Nat.mod_lt y (show 0 < x % y by omega)
        have h9 : 2 ^ (m + 1) = 2 * 2 ^ m := by rw [Nat.pow_succ]; omega
        exact ih (x % y) (y % (x % y)) (c + 1) (by omega) (by omega) (by omega) (by omega) (by omega) h7
theorem f_frac (hw : 1000 ≤ w) {a b : Nat} (hab : a ≤ b) (hb0 : 0 < b) (hb : b < 2 ^ 40) (M : z_Mem) : F_X12_fraction w M (lN a) (lN b) = some (true, fr_m M a b) := by
  have e : (if (0 : Int64) < lN a then lN a else -lN a) = lN a := by
    by_cases h : 0 < a
    · rw [if_pos (show (0 : Int64) < lN a from (pk_lLT (a := 0) (by omega) (by omega)).mpr h)]
    · obtain rfl : a = 0 := by omega
      rfl
  have p2 : ¬ lN b = 0 := fun e => by
    have := (pk_lEQ (b := 0) (by omega) (by omega)).mp e
    omega
  have p1 : ¬ lg_cmp (lN b) 0 = (0 : Int32) := fun e => p2 ((lg_cmp_eq _ _).mp e)
  unfold F_X12_fraction
  rw [e]
  obtain ⟨c, hc⟩ : ∃ c', w = c' + 1 := ⟨w - 1, by omega⟩
  have key : L_X12_fraction w (c + 1) M (lN a) (lN b) (lN a) (lN b) = some (true, fr_m M a b) := by
    have hm := Nat.mod_lt a hb0
    rw [L_X12_fraction, if_neg p1, if_neg p2, pk_lRem (by omega) hb0 (by omega)]
    exact ml_fr (by omega) hb M 40 b (a % b) c (by omega) hb0 hb (by omega) (by omega) (Nat.gcd_rec b a).symm
  rw [← hc] at key
  exact key
theorem r_fr {M N : z_Mem} (h : r_Rel M) {a b : Nat} (h1 : N.1 = (z_st M 0).1) (h2 : ∀ x, x ≠ 0 → x ≠ 137 → N.2 x = M.2 x) (h3 : r_Fr N) : r_Rel N := by
  have e := r_stv 0 h
  obtain ⟨e1, e2, e3, e4, e5, e6, e7, e8⟩ := e
  refine ⟨by rw [h1]; exact e1, ?_, h3, ?_, ?_, ?_, ?_, ?_⟩
  · unfold r_Tr at e2 ⊢
    rw [h1, h2 2 (by omega) (by omega), h2 140 (by omega) (by omega)]
    exact e2
  · unfold r_Ta at e4 ⊢
    rw [h1]; exact e4
  · unfold r_Fa at e5 ⊢
    rw [h1]; exact e5
  · unfold r_Li at e6 ⊢
    rw [h1]; exact e6
  · obtain ⟨P, a, b, c⟩ := e7
    exact ⟨P, CP_of a (fun x _ _ => by rw [h1]), by rw [h1]; exact b, c⟩
  · obtain ⟨n, hn, a, b, c⟩ := e8
    refine ⟨n, hn, by rw [h1]; exact a, by rw [h1]; exact b, fun i hi => ?_⟩
    obtain ⟨P, c1, c2, c3⟩ := c i hi
    exact ⟨P, CP_of c1 (fun x _ _ => by rw [h1]), by rw [h1]; exact c2, c3⟩
theorem r_frac {M : z_Mem} (h : r_Rel M) (a b : Nat) : r_Rel (fr_m (z_wI (z_wI (fr_c M a b) 137 1 0) 137 0 0) a b) := by
  refine r_fr (a := a) (b := b) h ?_ ?_ ?_
  · unfold fr_m fr_c z_st
    rw [wL_1, wL_1]
    funext x k
    simp only [wI_rd, wL_1]
  · intro x h1 h2
    unfold fr_m fr_c
    rw [wL_row h2, wL_row h2]
    simp only [wI_2]
    rw [wL_row h1, wL_row h1]
  · unfold fr_m fr_c
    constructor
    · simp [wL_rd, wI_2]
    · simp [wL_rd, wI_2]
variable {M : z_Mem}
theorem call_share (hw : 1000 ≤ w) (h : r_Rel M) (a : Int32) : r_ok (F_X11_share w M a) (fun M => F_X12_share w M a) := by
  obtain ⟨P, hc, hb, hv⟩ := h.2.2.2.2.2.2.1
  have c12 : M.1 8 0 = P.1 12 := hc.1.2.2.2.2.2.2.2.1
  have c13 : M.1 8 1 = P.1 13 := hc.1.2.2.2.2.2.2.2.2
  have b12 : M.1 142 12 = P.1 12 := hb.1.2.2.2.2.2.2.1
  have b13 : M.1 142 13 = P.1 13 := hb.1.2.2.2.2.2.2.2.1
  obtain ⟨x, _, hx, ex⟩ := (i_rng 0 9999 (by omega) (by omega)).mp hv.1.2.2.1
  obtain ⟨y, _, hy, ey⟩ := (i_rng 0 9999 (by omega) (by omega)).mp hv.1.2.2.2.1
  rw [ex] at c12 b12
  rw [ey] at c13 b13
  by_cases hs : a = 0 ∨ a = 1
  · have s1 : ∀ N, F_X11_isSide w N a = some (true, N) := fun N => by rcases hs with rfl | rfl <;> rfl
    have s2 : ∀ N, F_X12_isSideAt w N a = some (true, N) := fun N => by rcases hs with rfl | rfl <;> rfl
    by_cases g : x + y = 0
    · obtain rfl : x = 0 := by omega
      obtain rfl : y = 0 := by omega
      refine ⟨false, z_wI M 0 11 8, z_st M 8, ?_, ?_, r_stv 8 h⟩
      · have e := fun (v : Int64) => f_tell0 (w := w) v M
        have z0 : (nI (0 + 0)).toInt64 = 0 := rfl
        rcases hs with rfl | rfl
        · simp (maxSteps := 2000000) (decide := true) (disch := omega) only [F_X11_share, F_X3_bothChests, s1, c12, c13, Nat.reduceAdd, z0, e, Option.bind_some, wI_row, wI_slot, wI_same, wI_2, nI_p0, false_or, nle_f, nI_cl, n_lad, n_adl, nI_add, if_true, if_false, ite_true, ite_false, ↓reduceIte]
        · simp (maxSteps := 2000000) (decide := true) (disch := omega) only [F_X11_share, F_X3_bothChests, s1, c12, c13, Nat.reduceAdd, z0, e, Option.bind_some, wI_row, wI_slot, wI_same, wI_2, nI_p0, false_or, nle_f, nI_cl, n_lad, n_adl, nI_add, if_true, if_false, ite_true, ite_false, ↓reduceIte]
      · have z0 : nI (0 + 0) = 0 := rfl
        simp (maxSteps := 2000000) (decide := true) (disch := omega) only [F_X12_share, F_X12_bothChests, F_X12_no, s2, b12, b13, z0, z_st, wI_wI, Option.bind_some, wI_row, wI_slot, wI_same, wI_2, nI_p0, false_or, nle_f, nI_cl, n_lad, n_adl, nI_add, if_true, if_false, ite_true, ite_false, ↓reduceIte]
    · have z0 : ¬ nI (x + y) = 0 := fun e => by
        have := (nI_eq (b := 0) (by omega) (by omega)).mp e
        omega
      have n1 := nI_l (n := x + y) (by omega)
      have n2 := nI_l (n := x) (by omega)
      have n3 := nI_l (n := y) (by omega)
      have e1 : ∀ k, k = x ∨ k = y → F_X11_tellFraction w M (lN k) (lN (x + y)) = _ := fun k hk => f_tell hw (a := k) (b := x + y) (by omega) (by omega) (by omega) M
      have e2 : ∀ k, k = x ∨ k = y → ∀ N, F_X12_fraction w N (lN k) (lN (x + y)) = _ := fun k hk N => f_frac hw (a := k) (b := x + y) (by omega) (by omega) (by omega) N
      rcases hs with rfl | rfl
      · refine ⟨true, fr_c M x (x + y), _, ?_, ?_, r_frac h x (x + y)⟩
        · have := e1 x (Or.inl rfl)
          have k1 : (0 : Int32).toNatClampNeg = 0 := rfl
          simp (maxSteps := 2000000) (decide := true) (disch := omega) only [F_X11_share, F_X3_bothChests, s1, c12, c13, k1, Nat.reduceAdd, n1, n2, this, Option.bind_some, wI_row, wI_slot, wI_same, wI_2, nI_p0, false_or, nle_f, nI_cl, n_lad, n_adl, nI_add, if_true, if_false, ite_true, ite_false, ↓reduceIte]
        · have := e2 x (Or.inl rfl)
          have f12 : (fr_c M x (x + y)).1 142 12 = nI x := b12
          have f13 : (fr_c M x (x + y)).1 142 13 = nI y := b13
          have k0 : (12 : Int32) + 0 = nI 12 := rfl
          simp (maxSteps := 2000000) (decide := true) (disch := omega) only [F_X12_share, F_X12_bothChests, s2, f12, f13, z0, n1, n2, k0, this, Option.bind_some, wI_row, wI_slot, wI_same, wI_2, nI_p0, false_or, nle_f, nI_cl, n_lad, n_adl, nI_add, if_true, if_false, ite_true, ite_false, ↓reduceIte]
      · refine ⟨true, fr_c M y (x + y), _, ?_, ?_, r_frac h y (x + y)⟩
        · have := e1 y (Or.inr rfl)
          have k1 : (1 : Int32).toNatClampNeg = 1 := rfl
          simp (maxSteps := 2000000) (decide := true) (disch := omega) only [F_X11_share, F_X3_bothChests, s1, c12, c13, k1, Nat.reduceAdd, n1, n3, this, Option.bind_some, wI_row, wI_slot, wI_same, wI_2, nI_p0, false_or, nle_f, nI_cl, n_lad, n_adl, nI_add, if_true, if_false, ite_true, ite_false, ↓reduceIte]
        · have := e2 y (Or.inr rfl)
          have f12 : (fr_c M y (x + y)).1 142 12 = nI x := b12
          have f13 : (fr_c M y (x + y)).1 142 13 = nI y := b13
          have k0 : (12 : Int32) + 1 = nI 13 := rfl
          simp (maxSteps := 2000000) (decide := true) (disch := omega) only [F_X12_share, F_X12_bothChests, s2, f12, f13, z0, n1, n3, k0, this, Option.bind_some, wI_row, wI_slot, wI_same, wI_2, nI_p0, false_or, nle_f, nI_cl, n_lad, n_adl, nI_add, if_true, if_false, ite_true, ite_false, ↓reduceIte]
  · have e := fun N => sd_f (w := w) (M := N) hs
    refine ⟨false, z_wI M 0 11 2, z_st M 2, ?_, ?_, r_stv 2 h⟩
    · simp (maxSteps := 2000000) (decide := true) (disch := omega) only [F_X11_share, F_X11_deny, (e _).1, Bool.false_eq_true, Option.bind_some, wI_row, wI_slot, wI_same, wI_2, nI_p0, false_or, nle_f, nI_cl, n_lad, n_adl, nI_add, if_true, if_false, ite_true, ite_false, ↓reduceIte]
    · simp (maxSteps := 2000000) (decide := true) (disch := omega) only [F_X12_share, F_X12_no, (e _).2, z_st, wI_wI, Bool.false_eq_true, Option.bind_some, wI_row, wI_slot, wI_same, wI_2, nI_p0, false_or, nle_f, nI_cl, n_lad, n_adl, nI_add, if_true, if_false, ite_true, ite_false, ↓reduceIte]
/-! whose -/
theorem p16_le {a k : Nat} (h : a ≤ 16 ^ (k + 1)) {b : Nat} (hb : b ≤ 16) : a * b ≤ 16 ^ (k + 1 + 1) := by
  rw [Nat.pow_succ 16 (k + 1)]
  exact Nat.mul_le_mul h hb
theorem lw_wh {N : z_Mem} {q : t_C} (hw : 1000 ≤ w) (hM : C_c M 7 q) (hN : ∀ a b, BC ((z_wI (fr_c M a b) 137 1 0).1 142) q) (hv : VC q) {n : Nat} (hn : n ≤ q.2.2.1) (h : r_Rel M) : ∀ (m i a b c c' : Nat), i + m = n → m < c → m < c' → a ≤ 16 ^ (i + 1) → b ≤ 16 ^ (i + 1) → (∃ A B, L_X11_whose w c M (nI n) (lN a) (lN b) (nI i) = some (true, fr_c M A B) ∧ ∀ K : z_Mem, K.1 142 = M.1 142 → L_X12_whose w c' K (nI n) (lN a) (lN b) (nI i) = some (true, fr_m K A B)) ∨ (L_X11_whose w c M (nI n) (lN a) (lN b) (nI i) = some (false, z_wI M 0 11 8) ∧ ∀ K : z_Mem, K.1 142 = M.1 142 → L_X12_whose w c' K (nI n) (lN a) (lN b) (nI i) = some (false, z_wI K 137 0 8)) := by
  have hbc : BC (M.1 142) q := hN 0 0
  intro m
  induction m with
  | zero =>
    intro i a b c c' h1 h2 h3 h4 h5
    obtain ⟨c, rfl⟩ : ∃ x, c = x + 1 := ⟨c - 1, by omega⟩
    obtain ⟨c', rfl⟩ : ∃ x, c' = x + 1 := ⟨c' - 1, by omega⟩
    have hq6 := hv.2.2.1
    have h6 : 16 ^ (i + 1) ≤ 16 ^ 7 := Nat.pow_le_pow_right (by omega) (by have := hv.2.2.1; omega)
    have h7 : (16 : Nat) ^ 7 = 268435456 := by decide
    by_cases g : a + b = 0
    · right
      obtain rfl : a = 0 := by omega
      obtain rfl : b = 0 := by omega
      constructor
      · rw [L_X11_whose, if_pos (nI_le (by omega) (by omega)), lN_add, show lN (0 + 0) = 0 from rfl, f_tell0]
        rfl
      · intro K _
        rw [L_X12_whose, if_pos (nI_le (by omega) (by omega)), lN_add, show lN (0 + 0) = 0 from rfl, if_pos (by decide)]
        rfl
    · left
      refine ⟨a, a + b, ?_, fun K _ => ?_⟩
      · rw [L_X11_whose, if_pos (nI_le (by omega) (by omega)), lN_add, f_tell hw (by omega) (by omega) (by omega)]
        rfl
      · have p2 : ¬ lN (a + b) = 0 := fun e => by
          have := (pk_lEQ (b := 0) (by omega) (by omega)).mp e
          omega
        rw [L_X12_whose, if_pos (nI_le (by omega) (by omega)), lN_add, if_neg (fun e => p2 ((lg_cmp_eq _ _).mp e)), f_frac hw (by omega) (by omega) (by omega)]
        rfl
  | succ m ih =>
    intro i a b c c' h1 h2 h3 h4 h5
    obtain ⟨c, rfl⟩ : ∃ x, c = x + 1 := ⟨c - 1, by omega⟩
    obtain ⟨c', rfl⟩ : ∃ x, c' = x + 1 := ⟨c' - 1, by omega⟩
    have h6 := hv.2.2.1
    obtain ⟨w1, w2⟩ := hv.2.2.2.2 i (by omega)
    obtain ⟨x, _, hx, ex⟩ := (i_rng 0 16 (by omega) (by omega)).mp w1
    obtain ⟨y, _, hy, ey⟩ := (i_rng 0 16 (by omega) (by omega)).mp w2
    obtain ⟨u1, u2⟩ := hM.2.2.2.2 i (by omega)
    obtain ⟨v1, v2⟩ := hbc.2.2.2.2 i (by omega)
    rw [ex] at u1 v1
    rw [ey] at u2 v2
    have u1' : M.1 22 i = nI x := u1
    have u2' : M.1 23 i = nI y := u2
    have n2 := nI_l (n := x) (by omega)
    have n3 := nI_l (n := y) (by omega)
    have r := ih (i + 1) (a * x) (b * y) c c' (by omega) (by omega) (by omega) (p16_le h4 hx) (p16_le h5 hy)
    have e1 : L_X11_whose w (c + 1) M (nI n) (lN a) (lN b) (nI i) = L_X11_whose w c M (nI n) (lN (a * x)) (lN (b * y)) (nI (i + 1)) := by
      rw [L_X11_whose, if_neg (nI_ge (by omega) (by omega))]
      simp (maxSteps := 2000000) (decide := true) (disch := omega) only [u1', u2', n2, n3, lN_mul, nI_11, Option.bind_some, wI_row, wI_slot, wI_same, wI_2, nI_p0, false_or, nle_f, nI_cl, n_lad, n_adl, nI_add, if_true, if_false, ite_true, ite_false, ↓reduceIte]
    have e2 : ∀ K : z_Mem, K.1 142 = M.1 142 → L_X12_whose w (c' + 1) K (nI n) (lN a) (lN b) (nI i) = L_X12_whose w c' K (nI n) (lN (a * x)) (lN (b * y)) (nI (i + 1)) := by
      intro K hK
      rw [L_X12_whose, if_neg (nI_ge (by omega) (by omega)), hK]
      simp (maxSteps := 2000000) (decide := true) (disch := omega) only [k_91, k_97, v1, v2, n2, n3, lN_mul, nI_11, Option.bind_some, wI_row, wI_slot, wI_same, wI_2, nI_p0, false_or, nle_f, nI_cl, n_lad, n_adl, nI_add, if_true, if_false, ite_true, ite_false, ↓reduceIte]
    rw [e1]
    rcases r with ⟨A, B, r1, r2⟩ | ⟨r1, r2⟩
    · exact Or.inl ⟨A, B, r1, fun K hK => by rw [e2 K hK]; exact r2 K hK⟩
    · exact Or.inr ⟨r1, fun K hK => by rw [e2 K hK]; exact r2 K hK⟩
theorem call_whose (hw : 1000 ≤ w) (h : r_Rel M) (a : Int32) : r_ok (F_X11_whose w M a) (fun M => F_X12_whose w M a) := by
  obtain ⟨P, hc, hb, hv⟩ := h.2.2.2.2.2.2.1
  have h6 : P.2.2.2.1.2.2.1 ≤ 6 := hv.2.2.2.1.2.2.1
  have c6 : M.1 19 6 = nI P.2.2.2.1.2.2.1 := hc.2.2.2.1.2.2.1
  have b4 : M.1 142 4 = nI P.2.2.2.1.2.2.1 := hb.2.2.2.1.2.2.1
  have c5 : M.1 7 5 = P.1 5 := hc.1.1
  have b5 : M.1 142 5 = P.1 5 := hb.1.1
  by_cases hr : (0 : Int32) ≤ a ∧ a ≤ nI P.2.2.2.1.2.2.1
  · have w1 : ∀ N, F_X11_isWithin w N a 0 (nI P.2.2.2.1.2.2.1) = some (true, N) := fun N => by rw [f_wi, decide_eq_true hr]
    have m1 := fun N => in_t (w := w) (M := N) (B := 0) (C := (nI P.2.2.2.1.2.2.1).toInt64) 0 _ rfl rfl hr
    obtain ⟨n, _, hn, rfl⟩ := (i_rng 0 P.2.2.2.1.2.2.1 (by omega) (by omega)).mp hr
    obtain ⟨x, _, hx, ex⟩ := (i_rng 0 16 (by omega) (by omega)).mp hv.1.2.2.2.2.1
    have n1 : (16 : Int32) - nI x = nI (16 - x) := pk_sub (a := 16) hx
    have n2 := nI_l (n := x) (by omega)
    have n3 := nI_l (n := 16 - x) (by omega)
    rw [ex] at c5 b5
    have r := lw_wh (w := w) (N := M) hw hc.2.2.2.1 (fun _ _ => hb.2.2.2.1) hv.2.2.2.1 hn h n 0 x (16 - x) w w (by omega) (by omega) (by omega) (by omega) (by omega)
    rcases r with ⟨A, B, r1, r2⟩ | ⟨r1, r2⟩
    · have r1' : L_X11_whose w w M (nI n) (lN x) (lN (16 - x)) 0 = _ := r1
      have r2' : L_X12_whose w w (z_wI (z_wI (fr_c M A B) 137 1 0) 137 0 0) (nI n) (lN x) (lN (16 - x)) 0 = _ := r2 _ rfl
      refine ⟨true, fr_c M A B, _, ?_, ?_, r_frac h A B⟩
      · simp (maxSteps := 2000000) (decide := true) (disch := omega) only [F_X11_whose, c6, w1, c5, n1, n2, n3, r1', Option.bind_some, wI_row, wI_slot, wI_same, wI_2, nI_p0, false_or, nle_f, nI_cl, n_lad, n_adl, nI_add, if_true, if_false, ite_true, ite_false, ↓reduceIte]
      · have f4 : (fr_c M A B).1 142 4 = _ := b4
        have f5 : (fr_c M A B).1 142 5 = _ := b5
        simp (maxSteps := 2000000) (decide := true) (disch := omega) only [F_X12_whose, f4, m1, f5, n1, n2, n3, r2', Option.bind_some, wI_row, wI_slot, wI_same, wI_2, nI_p0, false_or, nle_f, nI_cl, n_lad, n_adl, nI_add, if_true, if_false, ite_true, ite_false, ↓reduceIte]
    · have r1' : L_X11_whose w w M (nI n) (lN x) (lN (16 - x)) 0 = _ := r1
      have r2' : L_X12_whose w w (z_wI (z_wI (z_wI M 0 11 8) 137 1 0) 137 0 0) (nI n) (lN x) (lN (16 - x)) 0 = _ := r2 _ rfl
      refine ⟨false, z_wI M 0 11 8, z_st M 8, ?_, ?_, r_stv 8 h⟩
      · simp (maxSteps := 2000000) (decide := true) (disch := omega) only [F_X11_whose, c6, w1, c5, n1, n2, n3, r1', Option.bind_some, wI_row, wI_slot, wI_same, wI_2, nI_p0, false_or, nle_f, nI_cl, n_lad, n_adl, nI_add, if_true, if_false, ite_true, ite_false, ↓reduceIte]
      · simp (maxSteps := 2000000) (decide := true) (disch := omega) only [F_X12_whose, b4, m1, b5, n1, n2, n3, r2', z_st, wI_wI, Option.bind_some, wI_row, wI_slot, wI_same, wI_2, nI_p0, false_or, nle_f, nI_cl, n_lad, n_adl, nI_add, if_true, if_false, ite_true, ite_false, ↓reduceIte]
  · have w1 : ∀ N, F_X11_isWithin w N a 0 (nI P.2.2.2.1.2.2.1) = some (false, N) := fun N => by rw [f_wi, decide_eq_false hr]
    have m1 := fun N => in_f (w := w) (M := N) (B := 0) (C := (nI P.2.2.2.1.2.2.1).toInt64) 0 _ rfl rfl hr
    refine ⟨false, z_wI M 0 11 5, z_st M 5, ?_, ?_, r_stv 5 h⟩
    · simp (maxSteps := 2000000) (decide := true) (disch := omega) only [F_X11_whose, F_X11_deny, c6, w1, Bool.false_eq_true, Option.bind_some, wI_row, wI_slot, wI_same, wI_2, nI_p0, false_or, nle_f, nI_cl, n_lad, n_adl, nI_add, if_true, if_false, ite_true, ite_false, ↓reduceIte]
    · simp (maxSteps := 2000000) (decide := true) (disch := omega) only [F_X12_whose, F_X12_no, b4, m1, z_st, wI_wI, Bool.false_eq_true, Option.bind_some, wI_row, wI_slot, wI_same, wI_2, nI_p0, false_or, nle_f, nI_cl, n_lad, n_adl, nI_add, if_true, if_false, ite_true, ite_false, ↓reduceIte]
end
