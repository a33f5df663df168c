/-! ===== rent: a month in which he lies with neither ===== -/
def g_X (B : Nat → Int32) (s p m0 : Nat) : Nat → Int32
  | 0 => 0
  | k + 1 => if k = m0 then g_X B s p m0 k else g_X B s p m0 k + B ((s * 12 + k) * 2 + z_w p k)
theorem g_X_T (B : Nat → Int32) (s p m0 : Nat) : ∀ k, g_T B s p k = if m0 < k then g_X B s p m0 k + B ((s * 12 + m0) * 2 + z_w p m0) else g_X B s p m0 k := by
  intro k
  induction k with
  | zero => rw [if_neg (by omega)]; rfl
  | succ k ih =>
    rw [g_T, g_X, ih]
    by_cases e : k = m0
    · subst e
      rw [if_pos rfl, if_neg (by omega), if_pos (by omega)]
    · rw [if_neg e]
      by_cases g : m0 < k
      · rw [if_pos g, if_pos (by omega), i_alg2]
      · rw [if_neg g, if_neg (by omega)]
theorem g_X_u (B : Nat → Int32) {s s' p l wi : Nat} (hs : s < 2) (hs' : s' < 2) (hl : l < 12) (hwi : wi < 2) (m0 : Nat) (v : Int32) : ∀ k, k ≤ 12 → g_X (fun x => if x = (s' * 12 + l) * 2 + wi then B ((s' * 12 + l) * 2 + wi) + v else B x) s p m0 k = if s = s' ∧ l < k ∧ wi = z_w p l ∧ ¬ l = m0 then g_X B s p m0 k + v else g_X B s p m0 k := by
  intro k
  induction k with
  | zero => intro _; rw [if_neg (by omega)]; rfl
  | succ k ih =>
    intro hk
    rw [g_X, ih (by omega), g_X]
    have hz := z_w2 p k
    by_cases e0 : k = m0
    · rw [if_pos e0, if_pos e0]
      by_cases g : s = s' ∧ l < k ∧ wi = z_w p l ∧ ¬ l = m0
      · rw [if_pos g, if_pos ⟨g.1, by omega, g.2.2⟩]
      · rw [if_neg g, if_neg (fun x => g ⟨x.1, by have := x.2.2.2; omega, x.2.2⟩)]
    · rw [if_neg e0, if_neg e0]
      by_cases e : (s * 12 + k) * 2 + z_w p k = (s' * 12 + l) * 2 + wi
      · have e1 : s = s' := by omega
        have e2 : k = l := by omega
        subst e2
        rw [if_pos e, if_neg (by omega), if_pos ⟨e1, by omega, by omega, e0⟩, ← e, Int32.add_assoc]
      · rw [if_neg e]
        by_cases g : s = s' ∧ l < k ∧ wi = z_w p l ∧ ¬ l = m0
        · rw [if_pos g, if_pos ⟨g.1, by omega, g.2.2⟩, i_alg2]
        · rw [if_neg g]
          by_cases g2 : s = s' ∧ l < k + 1 ∧ wi = z_w p l ∧ ¬ l = m0
          · exfalso
            obtain ⟨a1, a2, a3, a4⟩ := g2
            by_cases g5 : l = k
            · subst g5; omega
            · exact g ⟨a1, by omega, a3, a4⟩
          · rw [if_neg g2]
theorem g_X_0 {B : Nat → Int32} (h : ∀ x, x < 48 → B x = 0) {s p : Nat} (hs : s < 2) (m0 : Nat) : ∀ k, k ≤ 12 → g_X B s p m0 k = 0 := by
  intro k
  induction k with
  | zero => intro _; rfl
  | succ k ih =>
    intro hk
    have hz := z_w2 p k
    rw [g_X, ih (by omega), h _ (by omega)]
    split <;> rfl
def h_b (r : t_R) (i : Nat) (s : Int32) (p m0 m : Nat) : Bool := g_b r i s p (-1) m && !decide (g_lk r i m = m0)
def h_m (r : t_R) (i : Nat) (s : Int32) (p m0 : Nat) : Nat → Int32
  | 0 => 0
  | m + 1 => if h_b r i s p m0 m = true then h_m r i s p m0 m + r.2 3 i else h_m r i s p m0 m
def h_r (r : t_R) (s : Int32) (p m0 : Nat) : Nat → Int32
  | 0 => 0
  | i + 1 => if r.2 0 i = s then h_r r s p m0 i + h_m r i s p m0 12 else h_r r s p m0 i
section
variable {w : Nat}
theorem xl_wr {m0 : Nat} (hm0 : m0 < 12) {p i s' wi : Nat} (hp : p + 23 ≤ 59) {r : t_R} (hv : VR r) (hi : i < r.1) (hs : r.2 0 i = nI s') (hs' : s' < 2) (hwi : wi = if r.2 1 i = 1 then 1 - s' else s') (Z : Nat → Nat → Int32) : ∀ (k m c : Nat) (M : z_Mem), m + k = 12 → k < c → R_c M p r → (∀ s q, s < 2 → g_X (M.1 60) s q m0 12 = if s = s' then Z s q + h_m r i (nI s) q m0 m else Z s q) → ∃ M', L_X5_weighRight w p c M (nI i) (nI s') (nI wi) (nI m) = some ((), M') ∧ (∀ a, a ≠ 60 → M'.1 a = M.1 a) ∧ M'.2 = M.2 ∧ ∀ s q, s < 2 → g_X (M'.1 60) s q m0 12 = if s = s' then Z s q + h_m r i (nI s) q m0 12 else Z s q := by
  have h8 := hv.1
  have hw2 : wi < 2 := by rw [hwi]; split <;> omega
  intro k
  induction k with
  | zero =>
    intro m c M h1 h2 h3 h4
    obtain ⟨c, rfl⟩ : ∃ x, c = x + 1 := ⟨c - 1, by omega⟩
    obtain rfl : m = 12 := by omega
    refine ⟨M, ?_, fun _ _ => rfl, rfl, h4⟩
    rw [L_X5_weighRight, if_pos (by decide)]
  | succ k ih =>
    intro m c M h1 h2 h3 h4
    obtain ⟨c, rfl⟩ : ∃ x, c = x + 1 := ⟨c - 1, by omega⟩
    obtain ⟨g0, g1, g2, g3, g4⟩ := h3.2 i hi
    have hlk : g_lk r i m < 12 ∧ (nI m + 12 - r.2 2 i) - (nI m + 12 - r.2 2 i) / 12 * 12 = nI (g_lk r i m) := by
      rcases lk_lag hv hi (m := m) (by omega) with ⟨_, e2, e3⟩ | ⟨_, e2, e3⟩
      · exact ⟨e3, e2⟩
      · rw [e2]; exact ⟨by omega, e3⟩
    have gb : ∀ s q, s < 2 → s = s' → h_b r i (nI s) q m0 m = (decide (((r.2 4 i >>> (nI m &&& 31)) &&& 1) = 1) && decide (wi = z_w q (g_lk r i m)) && !decide (g_lk r i m = m0)) := by
      intro s q hs2 e
      unfold h_b g_b
      rw [g_wh_n hlk.1]
      congr 1
      have hz := z_w2 q (g_lk r i m)
      have e5 : (nI (z_w q (g_lk r i m)) = nI s) ↔ z_w q (g_lk r i m) = s := nI_eq (by omega) (by omega)
      congr 1
      by_cases k1 : r.2 1 i = 1
      · rw [if_pos k1] at hwi ⊢
        by_cases e6 : z_w q (g_lk r i m) = s
        · rw [decide_eq_true (e5.mpr e6), decide_eq_false (by omega)]; rfl
        · rw [decide_eq_false (fun x => e6 (e5.mp x)), decide_eq_true (by omega)]; rfl
      · rw [if_neg k1] at hwi ⊢
        by_cases e6 : z_w q (g_lk r i m) = s
        · rw [decide_eq_true (e5.mpr e6), decide_eq_true (by omega)]
        · rw [decide_eq_false (fun x => e6 (e5.mp x)), decide_eq_false (by omega)]
    have f1 := f_isIn6 (w := w) h3 h8 hi (nI m)
    rw [L_X5_weighRight, if_neg (ge12 (by omega)), f1, bindS]
    by_cases hh : ((r.2 4 i >>> (nI m &&& 31)) &&& 1) = 1
    · rw [if_pos (decide_eq_true hh)]
      obtain ⟨M', r1, r2, r3, r4⟩ := ih (m + 1) c (z_wI M 60 ((s' * 12 + g_lk r i m) * 2 + wi) (M.1 60 ((s' * 12 + g_lk r i m) * 2 + wi) + r.2 3 i)) (by omega) (by omega) (by
        unfold R_c
        rw [wI_row (by omega), wI_row (by omega), wI_row (by omega), wI_row (by omega), wI_row (by omega), wI_row (by omega)]
        exact h3) (fun s q hs2 => by
        rw [wI_fun, g_X_u (M.1 60) hs2 hs' hlk.1 hw2 m0 (r.2 3 i) 12 (by omega), h4 s q hs2, h_m]
        by_cases e : s = s'
        · rw [if_pos e, if_pos e, gb s q hs2 e]
          by_cases e2 : wi = z_w q (g_lk r i m) ∧ ¬ g_lk r i m = m0
          · rw [if_pos ⟨e, hlk.1, e2⟩, if_pos (by rw [decide_eq_true hh, decide_eq_true e2.1, decide_eq_false e2.2]; rfl), Int32.add_assoc]
          · rw [if_neg (fun x => e2 x.2.2), if_neg (fun y => e2 (by simpa [hh] using y))]
        · rw [if_neg e, if_neg e, if_neg (fun x => e x.1)])
      refine ⟨M', ?_, fun a ha => (r2 a ha).trans (wI_row ha), r3, r4⟩
      have fb := fun N => f_bAt (w := w) N s' (g_lk r i m) wi
      simp (maxSteps := 2000000) (decide := true) (disch := omega) only [g2, g3, hlk.2, fb, nI_11, bindS, wI_row, wI_slot, wI_same, wI_2, nI_p0, false_or, nle_f, nI_cl, n_lad, n_adl, nI_add, if_true, if_false, ite_true, ite_false, ↓reduceIte]
      exact r1
    · rw [if_neg (by rw [decide_eq_true_iff]; exact hh), nI_11]
      exact ih (m + 1) c M (by omega) (by omega) h3 (fun s q hs2 => by
        rw [h4 s q hs2, h_m]
        by_cases e : s = s'
        · rw [if_pos e, if_pos e, gb s q hs2 e, if_neg (by rw [decide_eq_false hh]; simp)]
        · rw [if_neg e, if_neg e])
theorem x_wr {m0 : Nat} (hm0 : m0 < 12) (hw : 1000 ≤ w) {M : z_Mem} {p i : Nat} (hp : p + 23 ≤ 59) {r : t_R} (hv : VR r) (hi : i < r.1) (h : R_c M p r) (hT : ∀ s q, s < 2 → g_X (M.1 60) s q m0 12 = h_r r (nI s) q m0 i) : ∃ M', F_X5_weighRight w M p (nI i) = some ((), M') ∧ (∀ a, a ≠ 60 → M'.1 a = M.1 a) ∧ M'.2 = M.2 ∧ ∀ s q, s < 2 → g_X (M'.1 60) s q m0 12 = h_r r (nI s) q m0 (i + 1) := by
  have h8 := hv.1
  obtain ⟨g0, g1, g2, g3, g4⟩ := h.2 i hi
  obtain ⟨s', hs', hs⟩ : ∃ s', s' < 2 ∧ r.2 0 i = nI s' := by
    rcases (hv.2 i hi).1 with e | e
    · exact ⟨0, by omega, e⟩
    · exact ⟨1, by omega, e⟩
  obtain ⟨M', r1, r2, r3, r4⟩ := xl_wr (w := w) hm0 hp hv hi hs hs' rfl (fun s q => h_r r (nI s) q m0 i) 12 0 w M (by omega) (by omega) h (fun s q hs2 => by
    rw [hT s q hs2, h_m, Int32.add_zero]
    split <;> rfl)
  refine ⟨M', ?_, r2, r3, fun s q hs2 => ?_⟩
  · have r1' : L_X5_weighRight w p w M (nI i) (nI s') (nI (if r.2 1 i = 1 then 1 - s' else s')) 0 = _ := r1
    unfold F_X5_weighRight
    rw [if_neg (n_in (by omega) (by omega)), if_neg (n_in (by omega) (by omega)), nI_clamp (by omega), g1, g0, hs]
    by_cases k1 : r.2 1 i = 1
    · rw [if_pos k1] at r1' ⊢
      rw [show (1 : Int32) = nI 1 from rfl, pk_sub (by omega)]
      exact r1'
    · rw [if_neg k1] at r1' ⊢
      exact r1'
  · rw [r4 s q hs2, h_r, hs]
    by_cases e : s = s'
    · rw [if_pos e, if_pos (congrArg nI e.symm)]
    · rw [if_neg e, if_neg (fun x => e ((nI_eq (by omega) (by omega)).mp x).symm)]
theorem xl_w1 {m0 : Nat} (hm0 : m0 < 12) (hw : 1000 ≤ w) {p : Nat} (hp : p + 23 ≤ 59) {r : t_R} (hv : VR r) : ∀ (k i c : Nat) (M : z_Mem), i + k = r.1 → R_c M p r → (∀ s q, s < 2 → g_X (M.1 60) s q m0 12 = h_r r (nI s) q m0 i) → ∃ M', L_X5_weigh w p (c + k + 1) 1 M (nI i) = L_X5_weigh w p c 2 M' 0 ∧ (∀ a, a ≠ 60 → M'.1 a = M.1 a) ∧ M'.2 = M.2 ∧ ∀ s q, s < 2 → g_X (M'.1 60) s q m0 12 = h_r r (nI s) q m0 r.1 := by
  have h8 := hv.1
  intro k
  induction k with
  | zero =>
    intro i c M h1 h2 h3
    obtain rfl : i = r.1 := by omega
    refine ⟨M, ?_, fun _ _ => rfl, rfl, h3⟩
    rw [L_X5_weigh, if_neg (by decide), if_pos rfl, h2.1, if_pos (nI_le (by omega) (by omega))]
  | succ k ih =>
    intro i c M h1 h2 h3
    obtain ⟨N, n1, n2, n3, n4⟩ := x_wr (w := w) hm0 hw hp hv (i := i) (by omega) h2 h3
    obtain ⟨M', r1, r2, r3, r4⟩ := ih (i + 1) c N (by omega) (by
      unfold R_c
      rw [n2 _ (by omega), n2 _ (by omega), n2 _ (by omega), n2 _ (by omega), n2 _ (by omega), n2 _ (by omega)]
      exact h2) n4
    refine ⟨M', ?_, fun a ha => (r2 a ha).trans (n2 a ha), r3.trans n3, r4⟩
    rw [show c + (k + 1) + 1 = (c + k + 1) + 1 by omega, L_X5_weigh, if_neg (by decide), if_pos rfl, h2.1, if_neg (nI_ge (by omega) (by omega)), n1, bindS, nI_11]
    exact r1
theorem x_weigh {m0 : Nat} (hm0 : m0 < 12) (hw : 1000 ≤ w) {M : z_Mem} {P : t_P} (h : CP M 7 P) (hv : VP P) : ∃ M', F_X5_weigh w M 7 = some ((), M') ∧ ∀ s q, s < 2 → g_X (M'.1 60) s q m0 12 = h_r P.2.1 (nI s) q m0 P.2.1.1 := by
  have h8 := hv.2.1.1
  obtain ⟨c, hc⟩ : ∃ c, w = (((c + 1) + 1 + 1) + P.2.1.1 + 1) + 48 + 1 := ⟨w - P.2.1.1 - 53, by omega⟩
  have t6 : M.1 7 6 = P.1 6 := h.1.2.1
  have t7 : M.1 7 7 = P.1 7 := h.1.2.2.1
  have t8 : M.1 7 8 = P.1 8 := h.1.2.2.2.1
  obtain ⟨A, a1, a2, a3, a4⟩ := cl_w0 (w := w) (p := 7) 48 0 (((c + 1) + 1 + 1) + P.2.1.1 + 1) (z_wI (z_wI M 59 4 (P.1 6)) 59 5 (P.1 8)) (by omega) (fun x hx => by omega)
  have kA : ∀ a, a ≠ 59 → a ≠ 60 → A.1 a = M.1 a := fun a h1 h2 => by rw [a2 a h2, wI_row h1, wI_row h1]
  have hR : R_c A 7 P.2.1 := by
    unfold R_c
    rw [kA _ (by omega) (by omega), kA _ (by omega) (by omega), kA _ (by omega) (by omega), kA _ (by omega) (by omega), kA _ (by omega) (by omega), kA _ (by omega) (by omega)]
    exact h.2.1
  obtain ⟨B, b1, b2, b3, b4⟩ := xl_w1 (w := w) hm0 hw (p := 7) (by omega) hv.2.1 P.2.1.1 0 ((c + 1) + 1 + 1) A (by omega) hR (fun s q hs => g_X_0 a4 hs m0 12 (by omega))
  obtain ⟨C, c1, c2, c3, c4, c5, c6, c7⟩ := w_side (w := w) hw (M := B) (s := 0) (by omega) (c + 1 + 1)
  obtain ⟨D, d1, d2, d3, d4, d5, d6, d7⟩ := w_side (w := w) hw (M := C) (s := 1) (by omega) (c + 1)
  have e60 : C.1 60 = B.1 60 := c2 60 (by omega) (by omega) (by omega)
  have e60' : D.1 60 = B.1 60 := (d2 60 (by omega) (by omega) (by omega)).trans e60
  have e7 : B.1 7 7 = P.1 7 := by rw [b2 7 (by omega), kA 7 (by omega) (by omega)]; exact t7
  have e7' : C.1 7 7 = P.1 7 := by rw [c2 7 (by omega) (by omega) (by omega)]; exact e7
  refine ⟨D, ?_, fun s q hs => by rw [e60']; exact b4 s q hs⟩
  · have fin : L_X5_weigh w 7 (c + 1) 2 D (nI (1 + 1)) = some ((), D) := by
      rw [L_X5_weigh, if_neg (by decide), if_neg (by decide), if_pos rfl, if_pos (by decide)]
    have b1' : L_X5_weigh w 7 (c + 1 + 1 + 1 + P.2.1.1 + 1) 1 A 0 = _ := b1
    have c1' : L_X5_weigh w 7 (c + 1 + 1 + 1) 2 B 0 = L_X5_weigh w 7 (c + 1 + 1) 2 C (nI 1) := c1
    have a1' : L_X5_weigh w 7 (((c + 1) + 1 + 1) + P.2.1.1 + 1 + 48 + 1) 0 (z_wI (z_wI M 59 4 (P.1 6)) 59 5 (P.1 8)) 0 = _ := a1
    rw [b1', c1', d1, fin, ← hc] at a1'
    unfold F_X5_weigh
    rw [wI_row (by omega), t6, t8]
    exact a1'

/-! .. and what is borne then by those who have him not -/
def a_i (r : t_R) (i m0 : Nat) : Int32 := if r.2 1 i = 1 ∧ ((r.2 4 i >>> (nI m0 &&& 31)) &&& 1) = 1 then r.2 3 i else 0
def a_r (r : t_R) (s : Int32) (m0 : Nat) : Nat → Int32
  | 0 => 0
  | i + 1 => if r.2 0 i = s then a_r r s m0 i + a_i r i m0 else a_r r s m0 i
def a_all (r : t_R) (m0 : Nat) : Nat → Int32
  | 0 => 0
  | i + 1 => a_all r m0 i + a_i r i m0
theorem gm_ne {r : t_R} (hv : VR r) {i : Nat} (hi : i < r.1) {s : Int32} (hs : s = 0 ∨ s = 1) (q : Nat) {m0 : Nat} (hm0 : m0 < 12) : ∀ k, k ≤ 12 → g_m r i s q (nI m0) k = if m0 < k then h_m r i s q m0 k + a_i r i m0 else h_m r i s q m0 k := by
  have s2 : ¬ (2 : Int32) = s := by rcases hs with rfl | rfl <;> decide
  intro k
  induction k with
  | zero => intro _; rw [if_neg (by omega)]; rfl
  | succ k ih =>
    intro hk
    have hlk : g_lk r i k < 12 ∧ (¬ r.2 1 i = 2 → g_lk r i k = k) := by
      rcases lk_lag hv hi (m := k) (by omega) with ⟨e1, _, e3⟩ | ⟨e1, e2, _⟩
      · exact ⟨e3, fun x => absurd e1 x⟩
      · exact ⟨by omega, fun _ => e2⟩
    have nm : ∀ l, l < 12 → (nI l = nI m0 ↔ l = m0) := fun l hl => nI_eq (by omega) (by omega)
    have nn : ∀ l, l < 12 → ¬ nI l = -1 := fun l hl => nI_nm1 (by omega)
    rw [g_m, h_m, ih (by omega)]
    by_cases e : g_lk r i k = m0
    · have hb : h_b r i s q m0 k = false := by unfold h_b; rw [decide_eq_true e]; simp
      have gw : g_wh q (nI m0) (g_lk r i k) = 2 := by unfold g_wh; rw [if_pos ((nm _ hlk.1).mpr e)]
      rw [hb, if_neg (by decide : ¬ false = true)]
      by_cases k1 : r.2 1 i = 1
      · have ek : k = m0 := by
          have := hlk.2 (by rw [k1]; decide)
          omega
        subst ek
        rw [if_neg (show ¬ k < k by omega), if_pos (show k < k + 1 by omega)]
        unfold a_i g_b
        rw [gw, if_pos k1, decide_eq_false s2]
        by_cases hh : ((r.2 4 i >>> (nI k &&& 31)) &&& 1) = 1
        · rw [if_pos (by rw [decide_eq_true hh]; rfl), if_pos ⟨k1, hh⟩]
        · rw [if_neg (by rw [decide_eq_false hh]; decide), if_neg (fun x => hh x.2), Int32.add_zero]
      · have ga : g_b r i s q (nI m0) k = false := by
          unfold g_b
          rw [gw, if_neg k1, decide_eq_false s2, Bool.and_false]
        have ai : a_i r i m0 = 0 := by unfold a_i; rw [if_neg (fun x => k1 x.1)]
        rw [ga, if_neg (by decide : ¬ false = true), ai]
        simp only [Int32.add_zero]
        split <;> split <;> rfl
    · have gw : g_wh q (nI m0) (g_lk r i k) = g_wh q (-1) (g_lk r i k) := by
        unfold g_wh
        rw [if_neg (fun x => e ((nm _ hlk.1).mp x)), if_neg (nn _ hlk.1)]
      have gb : g_b r i s q (nI m0) k = h_b r i s q m0 k := by
        unfold h_b g_b
        rw [gw, decide_eq_false e]
        simp
      rw [gb]
      have cnd : (m0 < k + 1) ↔ (m0 < k) ∨ k = m0 := by omega
      by_cases k1 : r.2 1 i = 1
      · have ek : ¬ k = m0 := by
          have := hlk.2 (by rw [k1]; decide)
          omega
        by_cases g : m0 < k
        · rw [if_pos g, if_pos (show m0 < k + 1 by omega)]
          split
          · rw [i_alg2]
          · rfl
        · rw [if_neg g, if_neg (show ¬ m0 < k + 1 by omega)]
      · have ai : a_i r i m0 = 0 := by unfold a_i; rw [if_neg (fun x => k1 x.1)]
        rw [ai]
        simp only [Int32.add_zero, ite_self]
theorem gr_ne {r : t_R} (hv : VR r) {s : Int32} (hs : s = 0 ∨ s = 1) (q : Nat) {m0 : Nat} (hm0 : m0 < 12) : ∀ i, i ≤ r.1 → g_r r s q (nI m0) i = h_r r s q m0 i + a_r r s m0 i := by
  intro i
  induction i with
  | zero => intro _; rfl
  | succ i ih =>
    intro hi
    rw [g_r, h_r, a_r, ih (by omega)]
    by_cases e : r.2 0 i = s
    · rw [if_pos e, if_pos e, if_pos e, gm_ne hv (i := i) (by omega) hs q hm0 12 (by omega), if_pos hm0]
      rw [Int32.add_assoc, Int32.add_assoc]
      congr 1
      rw [← Int32.add_assoc, Int32.add_comm (a_r r s m0 i), Int32.add_assoc]
    · rw [if_neg e, if_neg e, if_neg e]
theorem a_sum {r : t_R} (hv : VR r) (m0 : Nat) : ∀ i, i ≤ r.1 → a_all r m0 i = a_r r 0 m0 i + a_r r 1 m0 i := by
  intro i
  induction i with
  | zero => intro _; rfl
  | succ i ih =>
    intro hi
    rw [a_all, a_r, a_r, ih (by omega)]
    rcases (hv.2 i (by omega)).1 with e | e
    · rw [e, if_pos rfl, if_neg (by decide), i_alg2]
    · rw [e, if_neg (by decide), if_pos rfl, Int32.add_assoc]
theorem cl_away {M : z_Mem} {r : t_R} (h : R_c M 7 r) (hv : VR r) (m0 : Nat) : ∀ (k i c : Nat), i + k = r.1 → k < c → L_X6_awayIn w 7 c M (nI m0) (a_all r m0 i) (nI i) = some (a_all r m0 r.1, M) := by
  have h8 := hv.1
  have h0 : M.1 (7 + 2) 5 = nI r.1 := h.1
  intro k
  induction k with
  | zero =>
    intro i c h1 h2
    obtain ⟨c, rfl⟩ : ∃ x, c = x + 1 := ⟨c - 1, by omega⟩
    obtain rfl : i = r.1 := by omega
    rw [L_X6_awayIn, h0, if_pos (nI_le (by omega) (by omega))]
  | succ k ih =>
    intro i c h1 h2
    obtain ⟨c, rfl⟩ : ∃ x, c = x + 1 := ⟨c - 1, by omega⟩
    obtain ⟨g0, g1, g2, g3, g4⟩ := h.2 i (by omega)
    have n := ih (i + 1) c (by omega) (by omega)
    have f1 := f_isIn6 (w := w) h h8 (i := i) (by omega) (nI m0)
    rw [a_all] at n
    unfold a_i at n
    rw [L_X6_awayIn, h0, if_neg (nI_ge (by omega) (by omega)), if_neg (n_in (by omega) (by omega)), nI_clamp (by omega), g1]
    by_cases k1 : r.2 1 i = 1
    · rw [if_pos k1, f1, bindS]
      by_cases hh : ((r.2 4 i >>> (nI m0 &&& 31)) &&& 1) = 1
      · rw [if_pos ⟨k1, hh⟩] at n
        rw [if_pos (decide_eq_true hh), if_neg (show ¬ (nI i < 0 ∨ 8 ≤ i) from fun g => g.elim (nI_pos (by omega)) (fun y => by omega))]
        dsimp only
        rw [g3, nI_11]
        exact n
      · rw [if_neg (fun x => hh x.2), Int32.add_zero] at n
        rw [if_neg (by rw [decide_eq_true_iff]; exact hh), nI_11]
        exact n
    · rw [if_neg (fun x => k1 x.1), Int32.add_zero] at n
      rw [if_neg k1, nI_11]
      exact n
end
