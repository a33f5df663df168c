/-! ===== tokens: class and reference come to the same one ===== -/
def WV (t : Nat → Nat) (j s : Nat) : Int64 := if s ≤ 8 then lN (wv t j s) else -1
theorem wv_lt {t : Nat → Nat} {s : Nat} : ∀ k, (∀ i, i < k → isL (t (s + i))) → wv t s k < 32 ^ k := by
  intro k
  induction k with
  | zero => intro _; exact Nat.one_pos
  | succ k ih =>
    intro h
    have h1 := ih (fun i hi => h i (by omega))
    have h2 := h k (by omega)
    unfold isL at h2
    rw [wv, Nat.pow_succ]
    omega
section
variable {w : Nat}
theorem Txm_of {N K : z_Mem} {t : Nat → Nat} {n : Nat} (h : Txm N t n) (h6 : K.1 141 = N.1 141) (h5 : K.1 137 9 = N.1 137 9) : Txm K t n := by
  obtain ⟨a, b, c, d⟩ := h
  exact ⟨a, b, by rw [h5]; exact c, by rw [h6]; exact d⟩
theorem f_look {N : z_Mem} {t : Nat → Nat} {n : Nat} (h : Txm N t n) {i : Nat} (hi : i ≤ 900) : F_X12_look2 w N (nI i) = some (nI (if i < n then t i else 0), N) := by
  obtain ⟨a, b, c, d⟩ := h
  unfold F_X12_look2
  rw [c]
  by_cases g : i < n
  · rw [if_neg (nI_ge g (by omega)), if_neg (n_in (by omega) (by omega)), nI_clamp (by omega), d i (by omega), if_pos g]
  · rw [if_pos (nI_le (by omega) (by omega)), if_neg g]; rfl
theorem f_isL (N : z_Mem) {x : Nat} (hx : x < 256) : F_X12_isLetter w N (nI x) = some (decide (97 ≤ x ∧ x ≤ 122), N) := by
  unfold F_X12_isLetter
  by_cases g1 : x < 97
  · rw [if_pos (show nI x < (97 : Int32) from nI_lt (b := 97) g1 (by omega)), decide_eq_false (by omega)]
  · rw [if_neg (i_nlt.mpr (show (97 : Int32) ≤ nI x from nI_le (a := 97) (by omega) (by omega)))]
    by_cases g2 : 122 < x
    · rw [if_pos (show (122 : Int32) < nI x from nI_lt (a := 122) g2 (by omega)), decide_eq_false (by omega)]
    · rw [if_neg (i_nlt.mpr (show nI x ≤ (122 : Int32) from nI_le (b := 122) (by omega) (by omega))), decide_eq_true (by omega)]
theorem f_isD (N : z_Mem) {x : Nat} (hx : x < 256) : F_X12_isDigit w N (nI x) = some (decide (48 ≤ x ∧ x ≤ 57), N) := by
  unfold F_X12_isDigit
  by_cases g1 : x < 48
  · rw [if_pos (show nI x < (48 : Int32) from nI_lt (b := 48) g1 (by omega)), decide_eq_false (by omega)]
  · rw [if_neg (i_nlt.mpr (show (48 : Int32) ≤ nI x from nI_le (a := 48) (by omega) (by omega)))]
    by_cases g2 : 57 < x
    · rw [if_pos (show (57 : Int32) < nI x from nI_lt (a := 57) g2 (by omega)), decide_eq_false (by omega)]
    · rw [if_neg (i_nlt.mpr (show nI x ≤ (57 : Int32) from nI_le (b := 57) (by omega) (by omega))), decide_eq_true (by omega)]
/-- the reference, at a token's first byte -/
def tlM (w : Nat) (c : Nat) (M : z_Mem) : Option (Unit × z_Mem) :=
      if (M.1 137 15) < (M.1 137 9) then
      (F_X12_look2 w (z_wI M 137 16 (M.1 137 15)) (M.1 137 15)).bind fun q21 =>
      (F_X12_isLetter w q21.2 q21.1).bind fun q23 =>
      if q23.1 = true then
      L_X12_advance w c 1 (z_wL (z_wI q23.2 137 14 (1 : Int32)) 137 19 (0 : Int64))
      else
      (F_X12_isDigit w q23.2 q21.1).bind fun q26 =>
      if q26.1 = true then
      L_X12_advance w c 2 (z_wI q26.2 137 17 (0 : Int32))
      else
      (F_X12_isSignByte w (z_wI (z_wI q26.2 137 16 ((q26.2.1 137 15) + (1 : Int32))) 137 17 q21.1) q21.1).bind fun q29 =>
      if q29.1 = true then
      some ((), (z_wI q29.2 137 14 (3 : Int32)))
      else
      some ((), (z_wI q29.2 137 14 (4 : Int32)))
      else
      some ((), (z_wI (z_wI M 137 16 (M.1 137 15)) 137 14 (0 : Int32)))
theorem m_skip {t : Nat → Nat} {n j : Nat} (hj : j ≤ n) (hs : j = n ∨ ¬ isB (t j)) : ∀ d i c (N : z_Mem), Txm N t n → i + d = j → (∀ k, i ≤ k → k < j → isB (t k)) → N.1 137 15 = nI i → L_X12_advance w (c + d + 1) 0 N = tlM w c (z_wI N 137 15 (nI j)) := by
  intro d
  induction d with
  | zero =>
    intro i c N h hi _ h15
    obtain rfl : i = j := by omega
    have h9 := h.1
    rw [L_X12_advance, if_pos rfl, h15, wI_self h15, h.2.2.1]
    unfold tlM
    rw [h15, h.2.2.1]
    by_cases g : i = n
    · subst g
      rw [if_pos (nI_le (Nat.le_refl _) (by omega))]
    · have e := hs.resolve_left g
      unfold isB at e
      have tb := h.2.1 i
      rw [if_neg (nI_ge (by omega) (by omega)), f_look h (by omega), bindS, if_pos (show i < n by omega), if_neg (show ¬ nI (t i) = 10 from fun x => by have := (nI_eq (b := 10) (by omega) (by omega)).mp x; omega)]
      dsimp only
      rw [h15, f_look h (by omega), bindS, if_pos (show i < n by omega), if_neg (show ¬ nI (t i) = 32 from fun x => by have := (nI_eq (b := 32) (by omega) (by omega)).mp x; omega)]
      dsimp only
      rw [h15, h.2.2.1]
  | succ d ih =>
    intro i c N h hi hb h15
    have h9 := h.1
    have r := ih (i + 1) c (z_wI N 137 15 (nI (i + 1))) (Txm_of h (wI_row (by omega)) (wI_slot (by omega))) (by omega) (fun k a b => hb k (by omega) b) wI_same
    rw [wI_wI] at r
    have tb := h.2.1 i
    have e := hb i (Nat.le_refl i) (by omega)
    rw [show c + (d + 1) + 1 = (c + d + 1) + 1 by omega, L_X12_advance, if_pos rfl, h15, h.2.2.1, if_neg (nI_ge (by omega) (by omega)), f_look h (by omega), bindS, if_pos (show i < n by omega)]
    dsimp only
    rcases e with e | e
    · rw [if_neg (show ¬ nI (t i) = 10 from fun x => by have := (nI_eq (b := 10) (by omega) (by omega)).mp x; omega), h15, f_look h (by omega), bindS, if_pos (show i < n by omega), e, if_pos (show nI 32 = 32 from rfl)]
      dsimp only
      rw [h15, nI_11]
      exact r
    · rw [e, if_pos (show nI 10 = 10 from rfl), h15, nI_11]
      exact r
theorem m_let {t : Nat → Nat} {n j e : Nat} (hj : j ≤ e) (he : e ≤ n) (hl : ∀ k, j ≤ k → k < e → isL (t k)) (hs : e = n ∨ ¬ isL (t e)) : ∀ d k c (N : z_Mem), Txm N t n → j + k + d = e → N.1 137 15 = nI j → N.1 137 16 = nI (j + k) → N.2 137 19 = WV t j k → L_X12_advance w (c + d + 1) 1 N = some ((), z_wI (z_wI (z_wL N 137 19 (WV t j (e - j))) 137 16 (nI e)) 137 18 (nI (e - j))) := by
  intro d
  induction d with
  | zero =>
    intro k c N h hk h15 h16 h19
    have h9 := h.1
    have ek : e = j + k := by omega
    have tb := h.2.1 (j + k)
    have nl : decide (97 ≤ (if j + k < n then t (j + k) else 0) ∧ (if j + k < n then t (j + k) else 0) ≤ 122) = false := by
      rw [decide_eq_false_iff_not]
      by_cases g : j + k < n
      · rw [if_pos g]
        have := hs.resolve_left (by omega)
        rw [ek] at this
        exact this
      · rw [if_neg g]; omega
    rw [L_X12_advance, if_neg (by decide), if_pos rfl, h16, f_look h (by omega), bindS, f_isL _ (by split <;> omega), bindS, nl, if_neg (by simp)]
    dsimp only
    rw [h16, h15, pk_sub (by omega), ek, show j + k - j = k by omega, ← h19]
    congr 2
    rw [wI_self (M := z_wL N 137 19 (N.2 137 19)) (by rw [wL_1]; exact h16)]
    congr 1
    refine Prod.ext rfl ?_
    funext b i
    rw [wL_rd]
    by_cases g : b = 137 ∧ i = 19
    · rw [if_pos g, g.1, g.2]
    · rw [if_neg g]
  | succ d ih =>
    intro k c N h hk h15 h16 h19
    have h9 := h.1
    have tb := h.2.1 (j + k)
    have il := hl (j + k) (by omega) (by omega)
    unfold isL at il
    have lk := f_look (w := w) h (i := j + k) (by omega)
    rw [if_pos (by omega)] at lk
    have ln : nI (j + k) - nI j = nI k := by rw [pk_sub (by omega)]; exact congrArg nI (by omega)
    rw [show c + (d + 1) + 1 = (c + d + 1) + 1 by omega, L_X12_advance, if_neg (by decide), if_pos rfl, h16, lk, bindS, f_isL _ tb, bindS, decide_eq_true il, if_pos rfl]
    dsimp only
    rw [h16, h15, ln, nI_11]
    have fin : ∀ W, W = WV t j (k + 1) → L_X12_advance w (c + d + 1) 1 (z_wI (z_wL N 137 19 W) 137 16 (nI (j + k + 1))) = some ((), z_wI (z_wI (z_wL N 137 19 (WV t j (e - j))) 137 16 (nI e)) 137 18 (nI (e - j))) := by
      intro W hW
      have r := ih (k + 1) c (z_wI (z_wL N 137 19 W) 137 16 (nI (j + k + 1))) (Txm_of h (by rw [wI_row (by omega)]; rfl) (by rw [wI_slot (by omega)]; rfl)) (by omega) (by rw [wI_slot (by omega)]; exact h15) wI_same (by rw [wI_2, wL_rd, if_pos ⟨rfl, rfl⟩]; exact hW)
      rw [r]
      congr 3
      refine Prod.ext ?_ ?_
      · funext b i
        rw [wI_rd, wL_1, wI_rd, wI_rd, wL_1, wL_1]
        by_cases g : b = 137 ∧ i = 16
        · rw [if_pos g, if_pos g]
        · rw [if_neg g, if_neg g, if_neg g]
      · funext b i
        rw [wI_2, wL_rd, wI_2, wL_rd, wI_2, wL_rd]
        by_cases g : b = 137 ∧ i = 19
        · rw [if_pos g, if_pos g]
        · rw [if_neg g, if_neg g, if_neg g]
    by_cases g : 8 ≤ k
    · rw [if_pos (show (8 : Int32) ≤ nI k from nI_le (a := 8) g (by omega))]
      exact fin (-1) (by unfold WV; rw [if_neg (by omega)])
    · rw [if_neg (show ¬ (8 : Int32) ≤ nI k from nI_ge (b := 8) (by omega) (by omega)), lk, bindS]
      dsimp only
      rw [h16, nI_11]
      refine fin _ ?_
      have wl := wv_lt (t := t) (s := j) k (fun i hi => hl (j + i) (by omega) (by omega))
      have w8 : 32 ^ k ≤ 32 ^ 8 := Nat.pow_le_pow_right (by omega) (by omega)
      have w9 : (32 : Nat) ^ 8 = 1099511627776 := by decide
      rw [h19]
      unfold WV
      rw [if_pos (by omega), if_pos (by omega), nI_l (by omega), show (32 : Int64) = lN 32 from rfl, show (96 : Int64) = lN 96 from rfl, lN_mul, lN_add, lN_sub (by omega)]
      congr 1
      rw [wv]
      omega
theorem m_dig {t : Nat → Nat} {n j e : Nat} (hj : j ≤ e) (he : e ≤ n) (hl : ∀ k, j ≤ k → k < e → isD (t k)) (hs : e = n ∨ ¬ isD (t e)) : ∀ d k c (N : z_Mem), Txm N t n → j + k + d = e → N.1 137 15 = nI j → N.1 137 16 = nI (j + k) → N.1 137 17 = nI (dv t j (min k 4)) → L_X12_advance w (c + d + 1) 2 N = some ((), z_wI (z_wI (z_wI N 137 17 (nI (dv t j (min (e - j) 4)))) 137 16 (nI e)) 137 14 (if e - j ≤ 4 then 2 else 4)) := by
  intro d
  induction d with
  | zero =>
    intro k c N h hk h15 h16 h17
    have h9 := h.1
    have ek : e = j + k := by omega
    have tb := h.2.1 (j + k)
    have nl : decide (48 ≤ (if j + k < n then t (j + k) else 0) ∧ (if j + k < n then t (j + k) else 0) ≤ 57) = false := by
      rw [decide_eq_false_iff_not]
      by_cases g : j + k < n
      · rw [if_pos g]
        have := hs.resolve_left (by omega)
        rw [ek] at this
        exact this
      · rw [if_neg g]; omega
    rw [L_X12_advance, if_neg (by decide), if_neg (by decide), if_pos rfl, h16, f_look h (by omega), bindS, f_isD _ (by split <;> omega), bindS, nl, if_neg (by simp)]
    dsimp only
    rw [h16, h15, pk_sub (by omega), ek, show j + k - j = k by omega, wI_self h17, wI_self h16]
    by_cases g : k ≤ 4
    · rw [if_pos (show nI k ≤ (4 : Int32) from nI_le (b := 4) g (by omega)), if_pos g]
    · rw [if_neg (show ¬ nI k ≤ (4 : Int32) from nI_ge (a := 4) (by omega) (by omega)), if_neg g]
  | succ d ih =>
    intro k c N h hk h15 h16 h17
    have h9 := h.1
    have tb := h.2.1 (j + k)
    have il := hl (j + k) (by omega) (by omega)
    unfold isD at il
    have lk := f_look (w := w) h (i := j + k) (by omega)
    rw [if_pos (by omega)] at lk
    have ln : nI (j + k) - nI j = nI k := by rw [pk_sub (by omega)]; exact congrArg nI (by omega)
    rw [show c + (d + 1) + 1 = (c + d + 1) + 1 by omega, L_X12_advance, if_neg (by decide), if_neg (by decide), if_pos rfl, h16, lk, bindS, f_isD _ tb, bindS, decide_eq_true il, if_pos rfl]
    dsimp only
    rw [h16, h15, ln, nI_11]
    have fin : ∀ V, V = nI (dv t j (min (k + 1) 4)) → L_X12_advance w (c + d + 1) 2 (z_wI (z_wI N 137 17 V) 137 16 (nI (j + k + 1))) = some ((), z_wI (z_wI (z_wI N 137 17 (nI (dv t j (min (e - j) 4)))) 137 16 (nI e)) 137 14 (if e - j ≤ 4 then 2 else 4)) := by
      intro V hV
      have r := ih (k + 1) c (z_wI (z_wI N 137 17 V) 137 16 (nI (j + k + 1))) (Txm_of h (by rw [wI_row (by omega), wI_row (by omega)]) (by rw [wI_slot (by omega), wI_slot (by omega)])) (by omega) (by rw [wI_slot (by omega), wI_slot (by omega)]; exact h15) wI_same (by rw [wI_slot (by omega), wI_same]; exact hV)
      rw [r]
      congr 3
      refine Prod.ext ?_ rfl
      funext b i
      rw [wI_rd, wI_rd, wI_rd, wI_rd, wI_rd, wI_rd]
      by_cases g : b = 137 ∧ i = 16
      · rw [if_pos g, if_pos g]
      · rw [if_neg g, if_neg g, if_neg g]
        by_cases g2 : b = 137 ∧ i = 17
        · rw [if_pos g2, if_pos g2]
        · rw [if_neg g2, if_neg g2, if_neg g2]
    by_cases g : 4 ≤ k
    · rw [if_pos (show (4 : Int32) ≤ nI k from nI_le (a := 4) g (by omega))]
      have := fin (nI (dv t j (min k 4))) (by rw [show min k 4 = min (k + 1) 4 by omega])
      rw [wI_self h17] at this
      exact this
    · rw [if_neg (show ¬ (4 : Int32) ≤ nI k from nI_ge (b := 4) (by omega) (by omega)), lk, bindS]
      dsimp only
      rw [h16, nI_11, h17]
      refine fin _ ?_
      rw [show min k 4 = k by omega, show min (k + 1) 4 = k + 1 by omega, show (10 : Int32) = nI 10 from rfl, show (48 : Int32) = nI 48 from rfl, g_nmul, nI_add, pk_sub (by omega)]
      congr 1
      rw [dv]
      omega
end
