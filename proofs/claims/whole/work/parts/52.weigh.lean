/-! ===== plans: what the class keeps of them ===== -/
theorem i_alg (a b c : Int32) : a + c + (b - c) = a + b := by rw [Int32.add_assoc, Int32.add_comm c, Int32.sub_add_cancel]
theorem i_alg2 (a b v : Int32) : a + v + b = a + b + v := by rw [Int32.add_assoc, Int32.add_comm v, ← Int32.add_assoc]
def z_w (p k : Nat) : Nat := if p.testBit k = true then 0 else 1
theorem z_w2 (p k : Nat) : z_w p k < 2 := by unfold z_w; split <;> omega
def g_T (B : Nat → Int32) (s p : Nat) : Nat → Int32
  | 0 => 0
  | k + 1 => g_T B s p k + B ((s * 12 + k) * 2 + z_w p k)
theorem g_T_u (B : Nat → Int32) {s s' p l wi : Nat} (hs : s < 2) (hs' : s' < 2) (hl : l < 12) (hwi : wi < 2) (v : Int32) : ∀ k, k ≤ 12 → g_T (fun x => if x = (s' * 12 + l) * 2 + wi then B ((s' * 12 + l) * 2 + wi) + v else B x) s p k = if s = s' ∧ l < k ∧ wi = z_w p l then g_T B s p k + v else g_T B s p k := by
  intro k
  induction k with
  | zero => intro _; rw [if_neg (by omega)]; rfl
  | succ k ih =>
    intro hk
    rw [g_T, ih (by omega), g_T]
    have hz := z_w2 p k
    by_cases e : (s * 12 + k) * 2 + z_w p k = (s' * 12 + l) * 2 + wi
    · have e1 : s = s' := by omega
      have e2 : k = l := by omega
      subst e2
      rw [if_pos e, if_neg (by omega), if_pos (by omega), ← e, Int32.add_assoc]
    · rw [if_neg e]
      by_cases g : s = s' ∧ l < k ∧ wi = z_w p l
      · rw [if_pos g, if_pos (by omega), i_alg2]
      · rw [if_neg g]
        by_cases g2 : s = s' ∧ l < k + 1 ∧ wi = z_w p l
        · exfalso
          obtain ⟨a1, a2, a3⟩ := g2
          have : l = k := by omega
          subst this
          omega
        · rw [if_neg g2]
theorem g_T_0 {B : Nat → Int32} (h : ∀ x, x < 48 → B x = 0) {s p : Nat} (hs : s < 2) : ∀ k, k ≤ 12 → g_T B s p k = 0 := by
  intro k
  induction k with
  | zero => intro _; rfl
  | succ k ih =>
    intro hk
    have hz := z_w2 p k
    rw [g_T, ih (by omega), h _ (by omega)]
    rfl
theorem g_wh_n {p l : Nat} (hl : l < 12) : g_wh p (-1) l = nI (z_w p l) := by
  unfold g_wh z_w
  rw [if_neg (fun e => by
    have := nI_pos (n := l) (by omega)
    rw [e] at this
    exact this (by decide))]
  cases p.testBit l <;> rfl
section
variable {w : Nat}
theorem f_isIn6 {M : z_Mem} {p i : Nat} {r : t_R} (h : R_c M p r) (h8 : r.1 ≤ 8) (hi : i < r.1) (x : Int32) : F_X6_isIn w M p (nI i) x = some (decide (((r.2 4 i >>> (x &&& 31)) &&& 1) = 1), M) := by
  obtain ⟨_, _, _, _, g⟩ := h.2 i hi
  unfold F_X6_isIn
  rw [if_neg (n_in (by omega) (by omega)), nI_clamp (by omega), g]
  by_cases e : ((r.2 4 i >>> (x &&& 31)) &&& 1) = 1
  · rw [if_pos e, decide_eq_true e]
  · rw [if_neg e, decide_eq_false e]
theorem f_bAt (M : z_Mem) (a b c : Nat) : F_X5_bearingAt w M (nI a) (nI b) (nI c) = some (nI ((a * 12 + b) * 2 + c), M) := by
  unfold F_X5_bearingAt
  rw [show (12 : Int32) = nI 12 from rfl, show (2 : Int32) = nI 2 from rfl, g_nmul, nI_add, g_nmul, nI_add]
theorem cl_wr {p i s' wi : Nat} (hp : p + 23 ≤ 59) {r : t_R} (hv : VR r) (hi : i < r.1) (hs : r.2 0 i = nI s') (hs' : s' < 2) (hwi : wi = if r.2 1 i = 1 then 1 - s' else s') (Z : Nat → Nat → Int32) : ∀ (k m c : Nat) (M : z_Mem), m + k = 12 → k < c → R_c M p r → (∀ s q, s < 2 → g_T (M.1 60) s q 12 = if s = s' then Z s q + g_m r i (nI s) q (-1) m else Z s q) → ∃ M', L_X5_weighRight w p c M (nI i) (nI s') (nI wi) (nI m) = some ((), M') ∧ (∀ a, a ≠ 60 → M'.1 a = M.1 a) ∧ M'.2 = M.2 ∧ ∀ s q, s < 2 → g_T (M'.1 60) s q 12 = if s = s' then Z s q + g_m r i (nI s) q (-1) 12 else Z s q := by
  have h8 := hv.1
  have hw2 : wi < 2 := by rw [hwi]; split <;> omega
  intro k
  induction k with
  | zero =>
    intro m c M h1 h2 h3 h4
    obtain ⟨c, rfl⟩ : ∃ x, c = x + 1 := ⟨c - 1, by omega⟩
    obtain rfl : m = 12 := by omega
    refine ⟨M, ?_, fun _ _ => rfl, rfl, h4⟩
    rw [L_X5_weighRight, if_pos (by decide)]
  | succ k ih =>
    intro m c M h1 h2 h3 h4
    obtain ⟨c, rfl⟩ : ∃ x, c = x + 1 := ⟨c - 1, by omega⟩
    obtain ⟨g0, g1, g2, g3, g4⟩ := h3.2 i hi
    have hlk : g_lk r i m < 12 ∧ (nI m + 12 - r.2 2 i) - (nI m + 12 - r.2 2 i) / 12 * 12 = nI (g_lk r i m) := by
      rcases lk_lag hv hi (m := m) (by omega) with ⟨_, e2, e3⟩ | ⟨_, e2, e3⟩
      · exact ⟨e3, e2⟩
      · rw [e2]; exact ⟨by omega, e3⟩
    have gb : ∀ s q, s < 2 → s = s' → g_b r i (nI s) q (-1) m = (decide (((r.2 4 i >>> (nI m &&& 31)) &&& 1) = 1) && decide (wi = z_w q (g_lk r i m))) := by
      intro s q hs2 e
      unfold g_b
      rw [g_wh_n hlk.1]
      have hz := z_w2 q (g_lk r i m)
      have e5 : (nI (z_w q (g_lk r i m)) = nI s) ↔ z_w q (g_lk r i m) = s := nI_eq (by omega) (by omega)
      congr 1
      by_cases k1 : r.2 1 i = 1
      · rw [if_pos k1] at hwi ⊢
        by_cases e6 : z_w q (g_lk r i m) = s
        · rw [decide_eq_true (e5.mpr e6), decide_eq_false (by omega)]; rfl
        · rw [decide_eq_false (fun x => e6 (e5.mp x)), decide_eq_true (by omega)]; rfl
      · rw [if_neg k1] at hwi ⊢
        by_cases e6 : z_w q (g_lk r i m) = s
        · rw [decide_eq_true (e5.mpr e6), decide_eq_true (by omega)]
        · rw [decide_eq_false (fun x => e6 (e5.mp x)), decide_eq_false (by omega)]
    have f1 := f_isIn6 (w := w) h3 h8 hi (nI m)
    rw [L_X5_weighRight, if_neg (ge12 (by omega)), f1, bindS]
    by_cases hh : ((r.2 4 i >>> (nI m &&& 31)) &&& 1) = 1
    · rw [if_pos (decide_eq_true hh)]
      obtain ⟨M', r1, r2, r3, r4⟩ := ih (m + 1) c (z_wI M 60 ((s' * 12 + g_lk r i m) * 2 + wi) (M.1 60 ((s' * 12 + g_lk r i m) * 2 + wi) + r.2 3 i)) (by omega) (by omega) (by
        unfold R_c
        rw [wI_row (by omega), wI_row (by omega), wI_row (by omega), wI_row (by omega), wI_row (by omega), wI_row (by omega)]
        exact h3) (fun s q hs2 => by
        rw [wI_fun, g_T_u (M.1 60) hs2 hs' hlk.1 hw2 (r.2 3 i) 12 (by omega), h4 s q hs2, g_m]
        by_cases e : s = s'
        · rw [if_pos e, if_pos e, gb s q hs2 e]
          by_cases e2 : wi = z_w q (g_lk r i m)
          · rw [if_pos ⟨e, hlk.1, e2⟩, if_pos (by rw [decide_eq_true hh, decide_eq_true e2]; rfl), Int32.add_assoc]
          · rw [if_neg (fun x => e2 x.2.2), if_neg (by rw [decide_eq_false e2]; simp)]
        · rw [if_neg e, if_neg e, if_neg (fun x => e x.1)])
      refine ⟨M', ?_, fun a ha => (r2 a ha).trans (wI_row ha), r3, r4⟩
      have fb := fun N => f_bAt (w := w) N s' (g_lk r i m) wi
      simp (maxSteps := 2000000) (decide := true) (disch := omega) only [g2, g3, hlk.2, fb, nI_11, bindS, wI_row, wI_slot, wI_same, wI_2, nI_p0, false_or, nle_f, nI_cl, n_lad, n_adl, nI_add, if_true, if_false, ite_true, ite_false, ↓reduceIte]
      exact r1
    · rw [if_neg (by rw [decide_eq_true_iff]; exact hh), nI_11]
      exact ih (m + 1) c M (by omega) (by omega) h3 (fun s q hs2 => by
        rw [h4 s q hs2, g_m]
        by_cases e : s = s'
        · rw [if_pos e, if_pos e, gb s q hs2 e, if_neg (by rw [decide_eq_false hh]; simp)]
        · rw [if_neg e, if_neg e])
theorem f_wr (hw : 1000 ≤ w) {M : z_Mem} {p i : Nat} (hp : p + 23 ≤ 59) {r : t_R} (hv : VR r) (hi : i < r.1) (h : R_c M p r) (hT : ∀ s q, s < 2 → g_T (M.1 60) s q 12 = g_r r (nI s) q (-1) i) : ∃ M', F_X5_weighRight w M p (nI i) = some ((), M') ∧ (∀ a, a ≠ 60 → M'.1 a = M.1 a) ∧ M'.2 = M.2 ∧ ∀ s q, s < 2 → g_T (M'.1 60) s q 12 = g_r r (nI s) q (-1) (i + 1) := by
  have h8 := hv.1
  obtain ⟨g0, g1, g2, g3, g4⟩ := h.2 i hi
  obtain ⟨s', hs', hs⟩ : ∃ s', s' < 2 ∧ r.2 0 i = nI s' := by
    rcases (hv.2 i hi).1 with e | e
    · exact ⟨0, by omega, e⟩
    · exact ⟨1, by omega, e⟩
  obtain ⟨M', r1, r2, r3, r4⟩ := cl_wr (w := w) hp hv hi hs hs' rfl (fun s q => g_r r (nI s) q (-1) i) 12 0 w M (by omega) (by omega) h (fun s q hs2 => by
    rw [hT s q hs2, g_m, Int32.add_zero]
    split <;> rfl)
  refine ⟨M', ?_, r2, r3, fun s q hs2 => ?_⟩
  · have r1' : L_X5_weighRight w p w M (nI i) (nI s') (nI (if r.2 1 i = 1 then 1 - s' else s')) 0 = _ := r1
    unfold F_X5_weighRight
    rw [if_neg (n_in (by omega) (by omega)), if_neg (n_in (by omega) (by omega)), nI_clamp (by omega), g1, g0, hs]
    by_cases k1 : r.2 1 i = 1
    · rw [if_pos k1] at r1' ⊢
      rw [show (1 : Int32) = nI 1 from rfl, pk_sub (by omega)]
      exact r1'
    · rw [if_neg k1] at r1' ⊢
      exact r1'
  · rw [r4 s q hs2, g_r, hs]
    by_cases e : s = s'
    · rw [if_pos e, if_pos (congrArg nI e.symm)]
    · rw [if_neg e, if_neg (fun x => e ((nI_eq (by omega) (by omega)).mp x).symm)]
theorem cl_w0 {p : Nat} : ∀ (k m c : Nat) (M : z_Mem), m + k = 48 → (∀ x, x < m → M.1 60 x = 0) → ∃ M', L_X5_weigh w p (c + k + 1) 0 M (nI m) = L_X5_weigh w p c 1 M' 0 ∧ (∀ a, a ≠ 60 → M'.1 a = M.1 a) ∧ M'.2 = M.2 ∧ ∀ x, x < 48 → M'.1 60 x = 0 := by
  intro k
  induction k with
  | zero =>
    intro m c M h1 h2
    obtain rfl : m = 48 := by omega
    refine ⟨M, ?_, fun _ _ => rfl, rfl, h2⟩
    rw [L_X5_weigh, if_pos rfl, if_pos (by decide)]
  | succ k ih =>
    intro m c M h1 h2
    obtain ⟨M', r1, r2, r3, r4⟩ := ih (m + 1) c (z_wI M 60 m 0) (by omega) (fun x hx => by
      rw [wI_rd]
      by_cases e : x = m
      · rw [if_pos ⟨rfl, e⟩]
      · rw [if_neg (fun y => e y.2)]; exact h2 x (by omega))
    refine ⟨M', ?_, fun a ha => (r2 a ha).trans (wI_row ha), r3, r4⟩
    rw [show c + (k + 1) + 1 = (c + k + 1) + 1 by omega, L_X5_weigh, if_pos rfl, if_neg (show ¬ (48 : Int32) ≤ nI m from nI_ge (b := 48) (by omega) (by omega))]
    simp (maxSteps := 2000000) (decide := true) (disch := omega) only [nI_11, bindS, wI_row, wI_slot, wI_same, wI_2, nI_p0, false_or, nle_f, nI_cl, n_lad, n_adl, nI_add, if_true, if_false, ite_true, ite_false, ↓reduceIte]
    exact r1
theorem cl_w1 (hw : 1000 ≤ w) {p : Nat} (hp : p + 23 ≤ 59) {r : t_R} (hv : VR r) : ∀ (k i c : Nat) (M : z_Mem), i + k = r.1 → R_c M p r → (∀ s q, s < 2 → g_T (M.1 60) s q 12 = g_r r (nI s) q (-1) i) → ∃ M', L_X5_weigh w p (c + k + 1) 1 M (nI i) = L_X5_weigh w p c 2 M' 0 ∧ (∀ a, a ≠ 60 → M'.1 a = M.1 a) ∧ M'.2 = M.2 ∧ ∀ s q, s < 2 → g_T (M'.1 60) s q 12 = g_r r (nI s) q (-1) r.1 := by
  have h8 := hv.1
  intro k
  induction k with
  | zero =>
    intro i c M h1 h2 h3
    obtain rfl : i = r.1 := by omega
    refine ⟨M, ?_, fun _ _ => rfl, rfl, h3⟩
    rw [L_X5_weigh, if_neg (by decide), if_pos rfl, h2.1, if_pos (nI_le (by omega) (by omega))]
  | succ k ih =>
    intro i c M h1 h2 h3
    obtain ⟨N, n1, n2, n3, n4⟩ := f_wr (w := w) hw hp hv (i := i) (by omega) h2 h3
    obtain ⟨M', r1, r2, r3, r4⟩ := ih (i + 1) c N (by omega) (by
      unfold R_c
      rw [n2 _ (by omega), n2 _ (by omega), n2 _ (by omega), n2 _ (by omega), n2 _ (by omega), n2 _ (by omega)]
      exact h2) n4
    refine ⟨M', ?_, fun a ha => (r2 a ha).trans (n2 a ha), r3.trans n3, r4⟩
    rw [show c + (k + 1) + 1 = (c + k + 1) + 1 by omega, L_X5_weigh, if_neg (by decide), if_pos rfl, h2.1, if_neg (nI_ge (by omega) (by omega)), n1, bindS, nI_11]
    exact r1
/-! sums over half a year -/
def g_H (B : Nat → Int32) (s f t : Nat) : Nat → Int32
  | 0 => 0
  | k + 1 => g_H B s f t k + B ((s * 12 + (f + k)) * 2 + z_w t k)
theorem tb_b : ∀ i, i < 6 → ∀ t, t < 64 → ∀ k, k < 6 → (!decide (t < 2 ^ i) || (((2 ^ i + t).testBit k == (decide (k = i) || t.testBit k)) && (!decide (k = i) || !t.testBit k))) = true := by decide +kernel
theorem tb_all (i : Nat) (hi : i < 6) (t : Nat) (ht : t < 64) (h : t < 2 ^ i) (k : Nat) (hk : k < 6) : (2 ^ i + t).testBit k = (decide (k = i) || t.testBit k) ∧ (k = i → t.testBit k = false) := by
  have b := tb_b i hi t ht k hk
  simp only [h, decide_true, Bool.not_true, Bool.false_or, Bool.and_eq_true, beq_iff_eq, Bool.or_eq_true, Bool.not_eq_true', decide_eq_false_iff_not] at b
  refine ⟨b.1, fun e => ?_⟩
  rcases b.2 with g | g
  · exact absurd e g
  · exact g
theorem g_H_u (B : Nat → Int32) (s f : Nat) {i t : Nat} (hi : i < 6) (ht : t < 2 ^ i) : ∀ k, k ≤ 6 → g_H B s f (2 ^ i + t) k = if i < k then g_H B s f t k + (B ((s * 12 + (f + i)) * 2 + 0) - B ((s * 12 + (f + i)) * 2 + 1)) else g_H B s f t k := by
  have h64 : t < 64 := Nat.lt_of_lt_of_le ht (show 2 ^ i ≤ 2 ^ 6 from Nat.pow_le_pow_right (by omega) (by omega))
  intro k
  induction k with
  | zero => intro _; rw [if_neg (by omega)]; rfl
  | succ k ih =>
    intro hk
    obtain ⟨b1, b2⟩ := tb_all i hi t h64 ht k (by omega)
    rw [g_H, ih (by omega), g_H]
    by_cases e : k = i
    · subst e
      have z1 : z_w (2 ^ k + t) k = 0 := by unfold z_w; rw [b1]; simp
      have z2 : z_w t k = 1 := by unfold z_w; rw [b2 rfl]; simp
      rw [if_neg (by omega), if_pos (by omega), z1, z2, i_alg]
    · have z1 : z_w (2 ^ i + t) k = z_w t k := by unfold z_w; rw [b1]; simp [e]
      rw [z1]
      by_cases g : i < k
      · rw [if_pos g, if_pos (by omega), i_alg2]
      · rw [if_neg g, if_neg (by omega)]
theorem cl_h0 {S s f : Nat} (hS : S = 61 ∨ S = 62) (hs : s < 2) (hf : f ≤ 6) (B : Nat → Int32) : ∀ (k j c : Nat) (M : z_Mem), j + k = 6 → M.1 60 = B → M.1 S (64 * s) = g_H B s f 0 j → ∃ M', L_X5_sumHalf w S (c + k + 1) 0 M (nI s) (nI f) (nI (64 * s)) (nI (f + j)) 0 0 = L_X5_sumHalf w S c 1 M' (nI s) (nI f) (nI (64 * s)) 0 0 0 ∧ (∀ a, a ≠ S → M'.1 a = M.1 a) ∧ M'.2 = M.2 ∧ M'.1 S (64 * s) = g_H B s f 0 6 ∧ ∀ x, x ≠ 64 * s → M'.1 S x = M.1 S x := by
  intro k
  induction k with
  | zero =>
    intro j c M h1 h2 h3
    obtain rfl : j = 6 := by omega
    refine ⟨M, ?_, fun _ _ => rfl, rfl, h3, fun _ _ => rfl⟩
    rw [L_X5_sumHalf, if_pos rfl, show (6 : Int32) = nI 6 from rfl, nI_add, if_pos (nI_le (by omega) (by omega))]
  | succ k ih =>
    intro j c M h1 h2 h3
    have z2 : z_w 0 j = 1 := by unfold z_w; rw [Nat.zero_testBit]; simp
    obtain ⟨M', r1, r2, r3, r4, r5⟩ := ih (j + 1) c (z_wI M S (64 * s) (M.1 S (64 * s) + B ((s * 12 + (f + j)) * 2 + 1))) (by omega) (by rw [wI_row (by omega)]; exact h2) (by rw [wI_same, h3, g_H, z2])
    refine ⟨M', ?_, fun a ha => (r2 a ha).trans (wI_row ha), r3, r4, fun x hx => (r5 x hx).trans (wI_slot hx)⟩
    have fb : ∀ N, F_X5_bearingAt w N (nI s) (nI (f + j)) 1 = some (nI ((s * 12 + (f + j)) * 2 + 1), N) := fun N => f_bAt N s (f + j) 1
    have q1 : ¬ nI f + 6 ≤ nI (f + j) := by
      rw [show (6 : Int32) = nI 6 from rfl, nI_add]
      exact nI_ge (by omega) (by omega)
    rw [show c + (k + 1) + 1 = (c + k + 1) + 1 by omega, L_X5_sumHalf, if_pos rfl]
    simp (maxSteps := 2000000) (decide := true) (disch := omega) only [q1, fb, nI_11, h2, bindS, wI_row, wI_slot, wI_same, wI_2, nI_p0, false_or, nle_f, nI_cl, n_lad, n_adl, nI_add, if_true, if_false, ite_true, ite_false, ↓reduceIte]
    exact r1
theorem s_pow : ∀ n, n < 6 → (1 : Int32) <<< (nI n &&& 31) = nI (2 ^ n) := by decide +kernel
theorem cl_h2 {S s f i : Nat} (hS : S = 61 ∨ S = 62) (hs : s < 2) (hf : f ≤ 6) (hi : i < 6) (B : Nat → Int32) (more : Int32) (hm : more = B ((s * 12 + (f + i)) * 2 + 0) - B ((s * 12 + (f + i)) * 2 + 1)) : ∀ (k j c : Nat) (M : z_Mem), j + k = 2 ^ i → (∀ t, t < 2 ^ i + j → M.1 S (64 * s + t) = g_H B s f t 6) → ∃ M', L_X5_sumHalf w S (c + k + 1) 2 M (nI s) (nI f) (nI (64 * s)) (nI i) more (nI j) = L_X5_sumHalf w S c 1 M' (nI s) (nI f) (nI (64 * s)) (nI (i + 1)) 0 0 ∧ (∀ a, a ≠ S → M'.1 a = M.1 a) ∧ M'.2 = M.2 ∧ (∀ t, t < 2 ^ (i + 1) → M'.1 S (64 * s + t) = g_H B s f t 6) ∧ ∀ x, x < 64 * s ∨ 64 * s + 64 ≤ x → M'.1 S x = M.1 S x := by
  have hp : 2 ^ i ≤ 32 := show 2 ^ i ≤ 2 ^ 5 from Nat.pow_le_pow_right (by omega) (by omega)
  have hp1 : 2 ^ (i + 1) = 2 ^ i + 2 ^ i := by rw [Nat.pow_succ]; omega
  intro k
  induction k with
  | zero =>
    intro j c M h1 h2
    refine ⟨M, ?_, fun _ _ => rfl, rfl, fun t ht => h2 t (by omega), fun _ _ => rfl⟩
    rw [L_X5_sumHalf, if_neg (by decide), if_neg (by decide), if_pos rfl, s_pow i hi, if_pos (nI_le (by omega) (by omega)), nI_11]
  | succ k ih =>
    intro j c M h1 h2
    obtain ⟨M', r1, r2, r3, r4, r5⟩ := ih (j + 1) c (z_wI M S (64 * s + j + 2 ^ i) (g_H B s f j 6 + more)) (by omega) (fun t ht => by
      rw [wI_rd]
      by_cases e : t = 2 ^ i + j
      · rw [if_pos ⟨rfl, by omega⟩, e, g_H_u B s f hi (by omega) 6 (by omega), if_pos (by omega), hm]
      · rw [if_neg (by omega)]; exact h2 t (by omega))
    refine ⟨M', ?_, fun a ha => (r2 a ha).trans (wI_row ha), r3, r4, fun x hx => (r5 x hx).trans (wI_slot (by omega))⟩
    have e1 := h2 j (by omega)
    rw [show c + (k + 1) + 1 = (c + k + 1) + 1 by omega, L_X5_sumHalf, if_neg (by decide), if_neg (by decide), if_pos rfl, s_pow i hi, if_neg (nI_ge (by omega) (by omega))]
    simp (maxSteps := 2000000) (decide := true) (disch := omega) only [e1, nI_11, bindS, wI_row, wI_slot, wI_same, wI_2, nI_p0, false_or, nle_f, nI_cl, n_lad, n_adl, nI_add, if_true, if_false, ite_true, ite_false, ↓reduceIte]
    exact r1
theorem cl_h1 {S s f : Nat} (hS : S = 61 ∨ S = 62) (hs : s < 2) (hf : f ≤ 6) (B : Nat → Int32) : ∀ (k i c : Nat) (M : z_Mem), i + k = 6 → 40 * k < c → M.1 60 = B → (∀ t, t < 2 ^ i → M.1 S (64 * s + t) = g_H B s f t 6) → ∃ M', L_X5_sumHalf w S c 1 M (nI s) (nI f) (nI (64 * s)) (nI i) 0 0 = some ((), M') ∧ (∀ a, a ≠ S → M'.1 a = M.1 a) ∧ M'.2 = M.2 ∧ (∀ t, t < 64 → M'.1 S (64 * s + t) = g_H B s f t 6) ∧ ∀ x, x < 64 * s ∨ 64 * s + 64 ≤ x → M'.1 S x = M.1 S x := by
  intro k
  induction k with
  | zero =>
    intro i c M h1 h2 h3 h4
    obtain ⟨c, rfl⟩ : ∃ x, c = x + 1 := ⟨c - 1, by omega⟩
    obtain rfl : i = 6 := by omega
    refine ⟨M, ?_, fun _ _ => rfl, rfl, h4, fun _ _ => rfl⟩
    rw [L_X5_sumHalf, if_neg (by decide), if_pos rfl, if_pos (by decide)]
  | succ k ih =>
    intro i c M h1 h2 h3 h4
    have hp : 2 ^ i ≤ 32 := show 2 ^ i ≤ 2 ^ 5 from Nat.pow_le_pow_right (by omega) (by omega)
    obtain ⟨c, rfl⟩ : ∃ x, c = (x + 2 ^ i + 1) + 1 := ⟨c - 2 ^ i - 2, by omega⟩
    obtain ⟨N, n1, n2, n3, n4, n5⟩ := cl_h2 (w := w) hS hs hf (i := i) (by omega) B _ rfl (2 ^ i) 0 c M (by omega) (fun t ht => h4 t (by omega))
    obtain ⟨M', r1, r2, r3, r4, r5⟩ := ih (i + 1) c N (by omega) (by omega) (by rw [n2 60 (by omega)]; exact h3) n4
    refine ⟨M', ?_, fun a ha => (r2 a ha).trans (n2 a ha), r3.trans n3, r4, fun x hx => (r5 x hx).trans (n5 x hx)⟩
    have fb0 : ∀ N, F_X5_bearingAt w N (nI s) (nI (f + i)) 0 = some (nI ((s * 12 + (f + i)) * 2 + 0), N) := fun N => f_bAt N s (f + i) 0
    have fb1 : ∀ N, F_X5_bearingAt w N (nI s) (nI (f + i)) 1 = some (nI ((s * 12 + (f + i)) * 2 + 1), N) := fun N => f_bAt N s (f + i) 1
    have n1' : L_X5_sumHalf w S (c + 2 ^ i + 1) 2 M (nI s) (nI f) (nI (64 * s)) (nI i) (B ((s * 12 + (f + i)) * 2 + 0) - B ((s * 12 + (f + i)) * 2 + 1)) 0 = _ := n1
    rw [L_X5_sumHalf, if_neg (by decide), if_pos rfl, if_neg (show ¬ (6 : Int32) ≤ nI i from nI_ge (b := 6) (by omega) (by omega))]
    rw [← h3] at n1'
    simp (maxSteps := 2000000) (decide := true) (disch := omega) only [fb0, fb1, bindS, wI_row, wI_slot, wI_same, wI_2, nI_p0, false_or, nle_f, nI_cl, n_lad, n_adl, nI_add, if_true, if_false, ite_true, ite_false, ↓reduceIte]
    rw [n1']
    exact r1
theorem f_half (hw : 1000 ≤ w) {M : z_Mem} {S s f : Nat} (hS : S = 61 ∨ S = 62) (hs : s < 2) (hf : f ≤ 6) : ∃ M', F_X5_sumHalf w M S (nI s) (nI f) = some ((), M') ∧ (∀ a, a ≠ S → M'.1 a = M.1 a) ∧ M'.2 = M.2 ∧ (∀ t, t < 64 → M'.1 S (64 * s + t) = g_H (M.1 60) s f t 6) ∧ ∀ x, x < 64 * s ∨ 64 * s + 64 ≤ x → M'.1 S x = M.1 S x := by
  obtain ⟨c, hc⟩ : ∃ c, w = c + 6 + 1 := ⟨w - 7, by omega⟩
  obtain ⟨N, n1, n2, n3, n4, n5⟩ := cl_h0 (w := w) hS hs hf (M.1 60) 6 0 c (z_wI M S (64 * s) 0) (by omega) (wI_row (by omega)) (by rw [wI_same]; rfl)
  obtain ⟨M', r1, r2, r3, r4, r5⟩ := cl_h1 (w := w) hS hs hf (M.1 60) 6 0 c N (by omega) (by omega) (by rw [n2 60 (by omega), wI_row (by omega)]) (fun t ht => by
    obtain rfl : t = 0 := by omega
    exact n4)
  refine ⟨M', ?_, fun a ha => (r2 a ha).trans ((n2 a ha).trans (wI_row ha)), r3.trans n3, r4, fun x hx => (r5 x hx).trans ((n5 x (by omega)).trans (wI_slot (by omega)))⟩
  have r1' : L_X5_sumHalf w S c 1 N (nI s) (nI f) (nI (64 * s)) 0 0 0 = _ := r1
  rw [← hc, Nat.add_zero, r1'] at n1
  unfold F_X5_sumHalf
  rw [show (64 : Int32) = nI 64 from rfl, g_nmul, Nat.mul_comm s 64, if_neg (n_in (by omega) (by omega)), nI_clamp (by omega)]
  exact n1
end
