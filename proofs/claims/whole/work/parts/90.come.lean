/-! ===== years: how both come along ===== -/
def YR (A N : z_Mem) (d L S : Nat) : Prop := A.1 47 5 = nI L ∧ A.1 47 6 = nI S ∧ N.1 137 25 = nI S ∧ A.1 56 3 = nI d ∧ nf (Rw A) L = S ∧ df (Rw A) L = d ∧ L + d ≤ 2 * S ∧ S ≤ 30 ∧ d ≤ 3 ∧ ∀ i, i < L → ∃ p, p < 60 ∧ A.1 52 i = nI p
def KA (A A' : z_Mem) : Prop := (∀ x, x ≠ 5 → (x < 47 ∨ 53 ≤ x) → x ≠ 56 → x ≠ 57 → A'.1 x = A.1 x) ∧ (∀ k, k < 3 → A'.1 5 k = A.1 5 k) ∧ A'.2 = A.2
def KN (q : Nat) (N N' : z_Mem) : Prop := (∀ x, x ≠ 137 → x ≠ 142 → N'.1 x = N.1 x) ∧ (∀ k, k < q → N'.1 142 k = N.1 142 k) ∧ (∀ k, k < 12 ∨ 19 ≤ k → k ≠ 25 → N'.1 137 k = N.1 137 k) ∧ (∀ x, x ≠ 137 → N'.2 x = N.2 x) ∧ ∀ k, k ≠ 19 → N'.2 137 k = N.2 137 k
theorem KA_r {A : z_Mem} : KA A A := ⟨fun _ _ _ _ _ => rfl, fun _ _ => rfl, rfl⟩
theorem KA_t {A B C : z_Mem} (h : KA A B) (g : KA B C) : KA A C :=
  ⟨fun x a b c d => (g.1 x a b c d).trans (h.1 x a b c d), fun k a => (g.2.1 k a).trans (h.2.1 k a), g.2.2.trans h.2.2⟩
theorem KN_r {q : Nat} {N : z_Mem} : KN q N N := ⟨fun _ _ _ => rfl, fun _ _ => rfl, fun _ _ _ => rfl, fun _ _ => rfl, fun _ _ => rfl⟩
theorem KN_t {q : Nat} {N O Q : z_Mem} (h : KN q N O) (g : KN q O Q) : KN q N Q :=
  ⟨fun x a b => (g.1 x a b).trans (h.1 x a b), fun k a => (g.2.1 k a).trans (h.2.1 k a), fun k a b => (g.2.2.1 k a b).trans (h.2.2.1 k a b), fun x a => (g.2.2.2.1 x a).trans (h.2.2.2.1 x a), fun k a => (g.2.2.2.2 k a).trans (h.2.2.2.2 k a)⟩
theorem KN_le {q q' : Nat} {N O : z_Mem} (h : KN q N O) (hq : q' ≤ q) : KN q' N O := ⟨h.1, fun k a => h.2.1 k (by omega), h.2.2⟩
theorem KN_w {q k : Nat} {N : z_Mem} {v : Int32} (hk : q ≤ k) : KN q N (z_wI N 142 k v) :=
  ⟨fun x _ a => wI_row a, fun i a => wI_slot (by omega), fun i _ _ => by rw [wI_row (by omega)], fun _ _ => rfl, fun _ _ => rfl⟩
theorem KN_5 {q : Nat} {N : z_Mem} {v : Int32} : KN q N (z_wI N 137 25 v) :=
  ⟨fun x a _ => wI_row a, fun i a => by rw [wI_row (by omega)], fun i _ a => wI_slot a, fun _ _ => rfl, fun _ _ => rfl⟩
theorem Kt_A {A B N O : z_Mem} (h : Kt A B N O) : KA A B := ⟨fun x a _ _ _ => h.1 x a, h.2.1, h.2.2.1⟩
theorem Kt_N {q : Nat} {A B N O : z_Mem} (h : Kt A B N O) : KN q N O :=
  ⟨fun x a _ => h.2.2.2.1 x a, fun k _ => by rw [h.2.2.2.1 142 (by omega)], fun k a _ => h.2.2.2.2.1 k a, h.2.2.2.2.2.1, h.2.2.2.2.2.2⟩
theorem Ky_A {W : Nat} {A B N O : z_Mem} (h : Ky W A B N O) : KA A B := ⟨fun x a _ b _ => h.1 x a b, h.2.1, h.2.2.2.1⟩
theorem Ky_N {W : Nat} {A B N O : z_Mem} (h : Ky W A B N O) : KN (W + 1) N O :=
  ⟨h.2.2.2.2.1, fun k a => h.2.2.2.2.2.1 k (by omega), fun k a _ => h.2.2.2.2.2.2.1 k a, h.2.2.2.2.2.2.2.1, h.2.2.2.2.2.2.2.2⟩
/-- both have come on well -/
def Og (w : Nat) (t : Nat → Nat) (n : Nat) (A N' : z_Mem) (j d L : Nat) : Prop := ∃ A' j' e' c' L' S' k, Gd A' N' t n j' e' c' ∧ j + k ≤ j' ∧ 1 ≤ k ∧ YR A' N' d L' S' ∧ Sg A' N' L L' ∧ KA A A' ∧ (∀ i, i < L → Rw A' i = Rw A i) ∧ (∀ i, i < d → A'.1 57 i = A.1 57 i) ∧ ∀ c0 x, x ≤ j → L_X10_readText w (c0 + k) A (nI n) (nI x) = L_X10_readText w c0 A' (nI n) (nI (x + k))
/-- both have found the same fault -/
def Ob (w n : Nat) (A N' : z_Mem) (j : Nat) : Prop := ∃ A' k, Bd A' N' ∧ KA A A' ∧ j + k ≤ n + 1 ∧ ∀ c0 x, x ≤ j → L_X10_readText w (c0 + k) A (nI n) (nI x) = some (false, A')
def ST (w m d : Nat) (t : Nat → Nat) (n : Nat) : Prop := ∀ (A N : z_Mem) (j e : Nat) (c : Int32) (L S : Nat), Gd A N t n j e c → YR A N d L S → (d = 0 ∨ ¬ c = 28) → (¬ c = 38 ∨ 0 < d) → ∃ N', F_X12_readStep w m N (nI d) = some ((), N') ∧ KN (1605 + 9 * S) N N' ∧ (Og w t n A N' j d L ∨ Ob w n A N' j)
section
variable {w : Nat} {A A1 N N' : z_Mem} {t : Nat → Nat} {n j j1 e d L k0 : Nat} {c : Int32}
theorem Og_pre (h : Og w t n A1 N' j1 d L) (s : ∀ c0 x, x ≤ j → L_X10_readText w (c0 + k0) A (nI n) (nI x) = L_X10_readText w c0 A1 (nI n) (nI (x + k0))) (hj : j + k0 ≤ j1) (ka : KA A A1) (kr : ∀ i, i < L → Rw A1 i = Rw A i) (k57 : ∀ i, i < d → A1.1 57 i = A.1 57 i) : Og w t n A N' j d L := by
  obtain ⟨A', j', e', c', L', S', k, h1, h2, h3, h4, h5, h6, h7, h8, h9⟩ := h
  refine ⟨A', j', e', c', L', S', k0 + k, h1, by omega, by omega, h4, h5, KA_t ka h6, fun i hi => (h7 i hi).trans (kr i hi), fun i hi => (h8 i hi).trans (k57 i hi), fun c0 x hx => ?_⟩
  rw [show c0 + (k0 + k) = (c0 + k) + k0 by omega, s _ x hx, h9 c0 (x + k0) (by omega), show x + k0 + k = x + (k0 + k) by omega]
theorem Ob_pre (h : Ob w n A1 N' j1) (s : ∀ c0 x, x ≤ j → L_X10_readText w (c0 + k0) A (nI n) (nI x) = L_X10_readText w c0 A1 (nI n) (nI (x + k0))) (hj : j + k0 ≤ j1) (ka : KA A A1) : Ob w n A N' j := by
  obtain ⟨A', k, h1, h2, h3, h4⟩ := h
  refine ⟨A', k0 + k, h1, KA_t ka h2, by omega, fun c0 x hx => ?_⟩
  rw [show c0 + (k0 + k) = (c0 + k) + k0 by omega, s _ x hx, h4 c0 (x + k0) (by omega)]
theorem Ob_m (h : Ob w n A N' j) {k : Nat} {v : Int32} : Ob w n A (z_wI N' 142 k v) j := by
  obtain ⟨A', k, h1, h2⟩ := h
  exact ⟨A', k, Bd_m h1, h2⟩
/-! one turn of the class's loop -/
theorem lp_step (h3 : A.1 5 3 = c) (h38 : ¬ c = 38) (h28 : ¬ c = 28) (hn : n ≤ 900) (c0 x : Nat) (hx : x ≤ n) : L_X10_readText w (c0 + 1) A (nI n) (nI x) = (F_X10_readStep w A).bind fun q => if q.1 = true then L_X10_readText w c0 q.2 (nI n) (nI (x + 1)) else some (false, q.2) := by
  rw [L_X10_readText, if_neg (Int32.not_lt.mpr (nI_le hx (by omega))), h3, if_neg h38, if_neg h28, nI_1]
theorem lp_end (h3 : A.1 5 3 = c) (h28 : c = 28) (hn : n ≤ 900) (c0 x : Nat) (hx : x ≤ n) : L_X10_readText w (c0 + 1) A (nI n) (nI x) = (F_X10_readEnd w A).bind fun q => if q.1 = true then L_X10_readText w c0 q.2 (nI n) (nI (x + 1)) else some (false, q.2) := by
  rw [L_X10_readText, if_neg (Int32.not_lt.mpr (nI_le hx (by omega))), h3, if_neg (show ¬ c = 38 by rw [h28]; decide), if_pos h28, nI_1]
/-- a fault at this token -/
theorem ob_1 (h : Gd A N t n j e c) (hb : Bd A1 N') (ka : KA A A1) (s : (∀ c0 x, x ≤ n → L_X10_readText w (c0 + 1) A (nI n) (nI x) = some (false, A1))) : Ob w n A N' j := by
  have := h.2.2.1.2.1
  have := h.2.2.1.2.2.1
  exact ⟨A1, 1, hb, ka, by omega, fun c0 x hx => s c0 x (by omega)⟩
theorem ob_st (h : Gd A N t n j e c) (hb : Bd A1 N') (ka : KA A A1) (h38 : ¬ c = 38) (h28 : ¬ c = 28) (s : F_X10_readStep w A = some (false, A1)) : Ob w n A N' j := by
  refine ob_1 h hb ka (fun c0 x hx => ?_)
  rw [lp_step h.2.2.1.2.2.2.1 h38 h28 h.1.1 c0 x hx, s, bindS]
  exact if_neg (by simp)
/-! the reference's loop, at fault -/
theorem lb_bad (h : Bn N) {G : z_Mem → Int32 → Option (Unit × z_Mem)} {W : Nat} (hW : W + 8 < 1875) (c0 : Nat) (a x3 : Int32) : L_X12_readStep w G (c0 + 1) N a x3 (nI W) = some ((), z_wI N 142 (W + 8) (N.1 137 25)) := by
  obtain ⟨b, hb⟩ := p_isEnd (w := w) (N := N)
  obtain ⟨b', hb'⟩ := p_sign (w := w) (N := N) 59
  rw [L_X12_readStep, wadd W 8, if_neg (win hW (by omega)), wcl hW (by omega)]
  by_cases g : x3 = 0
  · rw [if_pos g, if_pos g]
  · rw [if_neg g, if_neg h.2, if_neg g, hb, bindS]
    dsimp only
    rw [b_must h, bindS]
    dsimp only
    rw [hb', bindS]
    dsimp only
    rw [b_must h, bindS]
    dsimp only
    rw [if_neg (fun y => y.elim (nI_pos (by omega)) (fun z => by omega))]
/-! a row in the reference, out of its numbers -/
def PB (N : z_Mem) (W : Nat) (r : t_Y) : Prop := N.1 142 W = y_kind r.1 ∧ sv N W r.1 r.2.1 r.2.2.1 r.2.2.2.1
theorem PB_of {W : Nat} {r : t_Y} (h : PB N W r) (k : ∀ i, i < 8 → N'.1 142 (W + i) = N.1 142 (W + i)) : PB N' W r := by
  unfold PB sv at h ⊢
  rw [show N'.1 142 W = N.1 142 W from k 0 (by omega), k 1 (by omega), k 2 (by omega), k 3 (by omega), k 5 (by omega), k 6 (by omega), k 7 (by omega)]
  exact h
theorem BF_mk {R : Nat → t_Y} {i S q : Nat} (hS : nf R i = S) (h : PB N (1605 + 9 * S) (R i)) (h8 : N.1 142 (1605 + 9 * S + 8) = nI q) (hq : nf R (y_next i (R i)) = q) : BF (fun k => N.1 142 (1500 + k)) R i := by
  have g : ∀ k, N.1 142 (1500 + (105 + k + 9 * S)) = N.1 142 (1605 + 9 * S + k) := fun k => by
    rw [show 1500 + (105 + k + 9 * S) = 1605 + 9 * S + k by omega]
  obtain ⟨h1, h2, h3, h4, h5, h6⟩ := h
  unfold BF
  dsimp only
  rw [hS, hq, show N.1 142 (1500 + (105 + 9 * S)) = N.1 142 (1605 + 9 * S) from g 0, show N.1 142 (1500 + (106 + 9 * S)) = N.1 142 (1605 + 9 * S + 1) from g 1, show N.1 142 (1500 + (107 + 9 * S)) = N.1 142 (1605 + 9 * S + 2) from g 2, show N.1 142 (1500 + (108 + 9 * S)) = N.1 142 (1605 + 9 * S + 3) from g 3, show N.1 142 (1500 + (110 + 9 * S)) = N.1 142 (1605 + 9 * S + 5) from g 5, show N.1 142 (1500 + (111 + 9 * S)) = N.1 142 (1605 + 9 * S + 6) from g 6, show N.1 142 (1500 + (112 + 9 * S)) = N.1 142 (1605 + 9 * S + 7) from g 7, show N.1 142 (1500 + (113 + 9 * S)) = N.1 142 (1605 + 9 * S + 8) from g 8]
  exact ⟨h1, h8, h3, h4, h5, h6⟩
/-- what stands behind any step's word -/
theorem rs_any (hw : 10000 ≤ w) (h : Gd A N t n j e c) {W : Nat} (hW : W + 8 < 1875) {x : Int32} (hx : x = 20 ∨ x = 21 ∨ x = 22 ∨ x = 23 ∨ x = 24 ∨ x = 29 ∨ x = 25 ∨ x = 27) : ∃ b A' N', rst w (z0 A) x = some (b, A') ∧ F_X12_readRest w (z_wI N 142 W (y_kind x)) (nI W) = some ((), N') ∧ Rs (z0 A) A' (z_wI N 142 W (y_kind x)) N' W t n j x b := by
  have G : Gd (z0 A) (z_wI N 142 W (y_kind x)) t n j e c := Gd_n (Gd_a (Gd_a (Gd_a h)))
  have z4 : (z0 A).1 56 4 = 0 := by unfold z0; rw [wI_slot (by omega), wI_slot (by omega), wI_same]
  have z5 : (z0 A).1 56 5 = 0 := by unfold z0; rw [wI_slot (by omega), wI_same]
  have hk : (z_wI N 142 W (y_kind x)).1 142 W = y_kind x := wI_same
  rcases hx with rfl | rfl | rfl | rfl | rfl | rfl | rfl | rfl
  · exact rs_one hw G hW z5 20 _ 1 24 (Or.inl ⟨rfl, rfl, rfl, rfl⟩) hk
  · exact rs_carry hw G hW hk
  · exact rs_swear hw G hW hk
  · exact rs_one hw G hW z5 23 _ 0 4 (Or.inr (Or.inl ⟨rfl, rfl, rfl, rfl⟩)) hk
  · exact rs_none G hW z4 z5 24 _ (Or.inl ⟨rfl, rfl⟩) hk
  · exact rs_none G hW z4 z5 29 _ (Or.inr ⟨rfl, rfl⟩) hk
  · exact rs_when hw G hW hk
  · exact rs_one hw G hW z5 27 _ 1 99 (Or.inr (Or.inr ⟨rfl, rfl, rfl, rfl⟩)) hk
end
