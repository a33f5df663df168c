/-! ===== plans: weighed, laid; gain, changes, net ===== -/
def fo (B : Nat → Int32) (s : Nat) (war : Int32) : Nat → Int32
  | 0 => 0
  | m + 1 => if B ((s * 12 + m) * 2 + s) - B ((s * 12 + m) * 2 + (1 - s)) ≤ war then fo B s war m else fo B s war m ||| ((1 : Int32) <<< (nI m &&& 31))
theorem bt_fo {B : Nat → Int32} {s : Nat} {war : Int32} {k : Nat} (hk : k < 32) : ∀ n, n ≤ 12 → bt (fo B s war n) k = (decide (k < n) && !decide (B ((s * 12 + k) * 2 + s) - B ((s * 12 + k) * 2 + (1 - s)) ≤ war)) := by
  intro n
  induction n with
  | zero => intro _; rw [fo, b_0]; simp
  | succ n ih =>
    intro hn
    rw [fo]
    by_cases g : B ((s * 12 + n) * 2 + s) - B ((s * 12 + n) * 2 + (1 - s)) ≤ war
    · rw [if_pos g, ih (by omega)]
      by_cases e : k = n
      · subst e; simp [g]
      · have e2 : (k < n + 1) ↔ k < n := by omega
        simp [e2]
    · rw [if_neg g, b_or, bt_sh (by omega) hk, ih (by omega)]
      by_cases e : k = n
      · subst e; simp [g]
      · have e2 : (k < n + 1) ↔ k < n := by omega
        simp [e2, e]
theorem pl_b : bs_all (fun n => (nI n &&& 63) == nI (n % 64) && ((nI n >>> ((6 : Int32) &&& 31)) &&& 63) == nI (n / 64) && ((4095 : Int32) ^^^ nI n) == nI (4095 - n)) 12 0 = true := by decide +kernel
theorem pl_ok {n : Nat} (h : n < 4096) : (nI n &&& 63) = nI (n % 64) ∧ ((nI n >>> ((6 : Int32) &&& 31)) &&& 63) = nI (n / 64) ∧ ((4095 : Int32) ^^^ nI n) = nI (4095 - n) := by
  have := bs_ok 12 0 pl_b n (Nat.div_eq_of_lt h)
  simp only [Bool.and_eq_true, beq_iff_eq] at this
  exact ⟨this.1.1, this.1.2, this.2⟩
theorem T_low (B : Nat → Int32) (s q : Nat) : ∀ k, k ≤ 6 → g_T B s q k = g_H B s 0 (q % 64) k := by
  intro k
  induction k with
  | zero => intro _; rfl
  | succ k ih =>
    intro hk
    have e : z_w (q % 64) k = z_w q k := by
      unfold z_w
      rw [show (64 : Nat) = 2 ^ 6 from rfl, Nat.testBit_mod_two_pow]
      simp [show k < 6 by omega]
    rw [g_T, g_H, ih (by omega), e, Nat.zero_add]
theorem T_high (B : Nat → Int32) (s q : Nat) : ∀ k, k ≤ 6 → g_T B s q (6 + k) = g_T B s q 6 + g_H B s 6 (q / 64) k := by
  intro k
  induction k with
  | zero => intro _; rw [g_H, Int32.add_zero]
  | succ k ih =>
    intro hk
    have e : z_w (q / 64) k = z_w q (6 + k) := by
      unfold z_w
      rw [show (64 : Nat) = 2 ^ 6 from rfl, Nat.testBit_div_two_pow, Nat.add_comm k 6]
    rw [show 6 + (k + 1) = (6 + k) + 1 from rfl, g_T, g_H, ih (by omega), e, Int32.add_assoc]
def gG (P : t_P) (s q : Nat) : Int32 := g_r P.2.1 (nI s) q (-1) P.2.1.1
def gN (P : t_P) (q : Nat) : Int32 := gG P 0 q + gG P 1 q - P.1 6 * z_ch (nI q) 12
def W_c (M : z_Mem) (P : t_P) : Prop := M.1 59 4 = P.1 6 ∧ M.1 59 5 = P.1 8 ∧ (∀ s q, s < 2 → g_T (M.1 60) s q 12 = gG P s q) ∧ (∀ s t, s < 2 → t < 64 → M.1 61 (64 * s + t) = g_H (M.1 60) s 0 t 6 ∧ M.1 62 (64 * s + t) = g_H (M.1 60) s 6 t 6) ∧ ∀ s, s < 2 → M.1 63 s = fo (M.1 60) s (P.1 7) 12
def Kp (M M' : z_Mem) : Prop := (∀ a, a < 59 ∨ 64 ≤ a → M'.1 a = M.1 a) ∧ M'.2 = M.2
section
variable {w : Nat}
theorem cl_fo {M : z_Mem} {s : Nat} (hs : s < 2) (war : Int32) : ∀ (k m c : Nat), m + k = 12 → k < c → L_X5_foughtBy w c M (nI s) war (fo (M.1 60) s war m) (nI m) = some (fo (M.1 60) s war 12, M) := by
  intro k
  induction k with
  | zero =>
    intro m c h1 h2
    obtain ⟨c, rfl⟩ : ∃ x, c = x + 1 := ⟨c - 1, by omega⟩
    obtain rfl : m = 12 := by omega
    rw [L_X5_foughtBy, if_pos (by decide)]
  | succ k ih =>
    intro m c h1 h2
    obtain ⟨c, rfl⟩ : ∃ x, c = x + 1 := ⟨c - 1, by omega⟩
    have r := ih (m + 1) c (by omega) (by omega)
    have e1 : (1 : Int32) - nI s = nI (1 - s) := pk_sub (a := 1) (by omega)
    rw [L_X5_foughtBy, if_neg (ge12 (by omega)), f_bAt, bindS, e1, f_bAt, bindS]
    rw [fo] at r
    by_cases g : M.1 60 ((s * 12 + m) * 2 + s) - M.1 60 ((s * 12 + m) * 2 + (1 - s)) ≤ war
    · rw [if_pos g] at r
      simp (maxSteps := 2000000) (decide := true) (disch := omega) only [g, nI_11, bindS, wI_row, wI_slot, wI_same, wI_2, nI_p0, false_or, nle_f, nI_cl, n_lad, n_adl, nI_add, if_true, if_false, ite_true, ite_false, ↓reduceIte]
      exact r
    · rw [if_neg g] at r
      simp (maxSteps := 2000000) (decide := true) (disch := omega) only [g, nI_11, bindS, wI_row, wI_slot, wI_same, wI_2, nI_p0, false_or, nle_f, nI_cl, n_lad, n_adl, nI_add, if_true, if_false, ite_true, ite_false, ↓reduceIte]
      exact r
theorem w_side (hw : 1000 ≤ w) {M : z_Mem} {s : Nat} (hs : s < 2) (c : Nat) : ∃ M', L_X5_weigh w 7 (c + 1) 2 M (nI s) = L_X5_weigh w 7 c 2 M' (nI (s + 1)) ∧ (∀ a, a ≠ 61 → a ≠ 62 → a ≠ 63 → M'.1 a = M.1 a) ∧ M'.2 = M.2 ∧ (∀ t, t < 64 → M'.1 61 (64 * s + t) = g_H (M.1 60) s 0 t 6 ∧ M'.1 62 (64 * s + t) = g_H (M.1 60) s 6 t 6) ∧ (∀ x, x < 64 * s ∨ 64 * s + 64 ≤ x → M'.1 61 x = M.1 61 x ∧ M'.1 62 x = M.1 62 x) ∧ M'.1 63 s = fo (M.1 60) s (M.1 7 7) 12 ∧ ∀ x, x ≠ s → M'.1 63 x = M.1 63 x := by
  obtain ⟨A, a1, a2, a3, a4, a5⟩ := f_half (w := w) hw (M := M) (S := 61) (f := 0) (Or.inl rfl) hs (by omega)
  obtain ⟨B, b1, b2, b3, b4, b5⟩ := f_half (w := w) hw (M := A) (S := 62) (f := 6) (Or.inr rfl) hs (by omega)
  have a1' : F_X5_sumHalf w M 61 (nI s) 0 = _ := a1
  have b1' : F_X5_sumHalf w A 62 (nI s) 6 = _ := b1
  have e60 : B.1 60 = M.1 60 := by rw [b2 60 (by omega), a2 60 (by omega)]
  have e7 : B.1 7 7 = M.1 7 7 := by rw [b2 7 (by omega), a2 7 (by omega)]
  have f1 : F_X5_foughtBy w B (nI s) (B.1 7 7) = some (fo (B.1 60) s (B.1 7 7) 12, B) := cl_fo (w := w) hs (B.1 7 7) 12 0 w (by omega) (by omega)
  rw [e60, e7] at f1
  rw [a2 60 (by omega)] at b4
  have q1 : ¬ (1 : Int32) < nI s := i_nlt.mpr (nI_le (b := 1) (by omega) (by omega))
  refine ⟨z_wI B 63 s (fo (M.1 60) s (M.1 7 7) 12), ?_, fun a h1 h2 h3 => ?_, ?_, fun t ht => ⟨?_, ?_⟩, fun x hx => ⟨?_, ?_⟩, wI_same, fun x hx => ?_⟩
  · rw [L_X5_weigh, if_neg (by decide), if_neg (by decide), if_pos rfl, if_neg q1, a1', bindS, b1', bindS, e7, f1, bindS]
    simp (maxSteps := 2000000) (decide := true) (disch := omega) only [nI_11, bindS, wI_row, wI_slot, wI_same, wI_2, nI_p0, false_or, nle_f, nI_cl, n_lad, n_adl, nI_add, if_true, if_false, ite_true, ite_false, ↓reduceIte]
  · rw [wI_row h3, b2 a h2, a2 a h1]
  · rw [wI_2, b3, a3]
  · rw [wI_row (by omega), b2 61 (by omega)]
    exact a4 t ht
  · rw [wI_row (by omega)]
    exact b4 t ht
  · rw [wI_row (by omega), b2 61 (by omega)]
    exact a5 x hx
  · rw [wI_row (by omega), b5 x hx, a2 62 (by omega)]
  · rw [wI_slot hx, b2 63 (by omega), a2 63 (by omega)]
theorem f_weigh (hw : 1000 ≤ w) {M : z_Mem} {P : t_P} (h : CP M 7 P) (hv : VP P) : ∃ M', F_X5_weigh w M 7 = some ((), M') ∧ W_c M' P ∧ Kp M M' := by
  have h8 := hv.2.1.1
  obtain ⟨c, hc⟩ : ∃ c, w = (((c + 1) + 1 + 1) + P.2.1.1 + 1) + 48 + 1 := ⟨w - P.2.1.1 - 53, by omega⟩
  have t6 : M.1 7 6 = P.1 6 := h.1.2.1
  have t7 : M.1 7 7 = P.1 7 := h.1.2.2.1
  have t8 : M.1 7 8 = P.1 8 := h.1.2.2.2.1
  obtain ⟨A, a1, a2, a3, a4⟩ := cl_w0 (w := w) (p := 7) 48 0 (((c + 1) + 1 + 1) + P.2.1.1 + 1) (z_wI (z_wI M 59 4 (P.1 6)) 59 5 (P.1 8)) (by omega) (fun x hx => by omega)
  have kA : ∀ a, a ≠ 59 → a ≠ 60 → A.1 a = M.1 a := fun a h1 h2 => by rw [a2 a h2, wI_row h1, wI_row h1]
  have hR : R_c A 7 P.2.1 := by
    unfold R_c
    rw [kA _ (by omega) (by omega), kA _ (by omega) (by omega), kA _ (by omega) (by omega), kA _ (by omega) (by omega), kA _ (by omega) (by omega), kA _ (by omega) (by omega)]
    exact h.2.1
  obtain ⟨B, b1, b2, b3, b4⟩ := cl_w1 (w := w) hw (p := 7) (by omega) hv.2.1 P.2.1.1 0 ((c + 1) + 1 + 1) A (by omega) hR (fun s q hs => g_T_0 a4 hs 12 (by omega))
  obtain ⟨C, c1, c2, c3, c4, c5, c6, c7⟩ := w_side (w := w) hw (M := B) (s := 0) (by omega) (c + 1 + 1)
  obtain ⟨D, d1, d2, d3, d4, d5, d6, d7⟩ := w_side (w := w) hw (M := C) (s := 1) (by omega) (c + 1)
  have e60 : C.1 60 = B.1 60 := c2 60 (by omega) (by omega) (by omega)
  have e60' : D.1 60 = B.1 60 := (d2 60 (by omega) (by omega) (by omega)).trans e60
  have e7 : B.1 7 7 = P.1 7 := by rw [b2 7 (by omega), kA 7 (by omega) (by omega)]; exact t7
  have e7' : C.1 7 7 = P.1 7 := by rw [c2 7 (by omega) (by omega) (by omega)]; exact e7
  rw [e60] at d4 d6
  rw [e7] at c6
  rw [e7'] at d6
  have e59 : D.1 59 = (z_wI (z_wI M 59 4 (P.1 6)) 59 5 (P.1 8)).1 59 := by
    rw [d2 59 (by omega) (by omega) (by omega), c2 59 (by omega) (by omega) (by omega), b2 59 (by omega), a2 59 (by omega)]
  refine ⟨D, ?_, ⟨?_, ?_, fun s q hs => ?_, fun s t hs ht => ?_, fun s hs => ?_⟩, fun a ha => ?_, ?_⟩
  · have fin : L_X5_weigh w 7 (c + 1) 2 D (nI (1 + 1)) = some ((), D) := by
      rw [L_X5_weigh, if_neg (by decide), if_neg (by decide), if_pos rfl, if_pos (by decide)]
    have b1' : L_X5_weigh w 7 (c + 1 + 1 + 1 + P.2.1.1 + 1) 1 A 0 = _ := b1
    have c1' : L_X5_weigh w 7 (c + 1 + 1 + 1) 2 B 0 = L_X5_weigh w 7 (c + 1 + 1) 2 C (nI 1) := c1
    have a1' : L_X5_weigh w 7 (((c + 1) + 1 + 1) + P.2.1.1 + 1 + 48 + 1) 0 (z_wI (z_wI M 59 4 (P.1 6)) 59 5 (P.1 8)) 0 = _ := a1
    rw [b1', c1', d1, fin, ← hc] at a1'
    unfold F_X5_weigh
    rw [wI_row (by omega), t6, t8]
    exact a1'
  · rw [e59]; simp (maxSteps := 2000000) (decide := true) (disch := omega) only [bindS, wI_row, wI_slot, wI_same, wI_2, nI_p0, false_or, nle_f, nI_cl, n_lad, n_adl, nI_add, if_true, if_false, ite_true, ite_false, ↓reduceIte]
  · rw [e59]; simp (maxSteps := 2000000) (decide := true) (disch := omega) only [bindS, wI_row, wI_slot, wI_same, wI_2, nI_p0, false_or, nle_f, nI_cl, n_lad, n_adl, nI_add, if_true, if_false, ite_true, ite_false, ↓reduceIte]
  · rw [e60']; exact b4 s q hs
  · rw [e60']
    rcases (show s = 0 ∨ s = 1 by omega) with rfl | rfl
    · obtain ⟨x1, x2⟩ := d5 (64 * 0 + t) (by omega)
      rw [x1, x2]
      exact c4 t ht
    · exact d4 t ht
  · rw [e60']
    rcases (show s = 0 ∨ s = 1 by omega) with rfl | rfl
    · rw [d7 0 (by omega)]; exact c6
    · exact d6
  · rw [d2 a (by omega) (by omega) (by omega), c2 a (by omega) (by omega) (by omega), b2 a (by omega), kA a (by omega) (by omega)]
  · rw [d3, c3, b3, a3]; rfl
theorem f_gain5 {M : z_Mem} {P : t_P} (h : W_c M P) {s q : Nat} (hs : s < 2) (hq : q < 4096) : F_X5_gainOf w M (nI s) (nI q) = some (gG P s q, M) := by
  obtain ⟨o1, o2, _⟩ := pl_ok hq
  have e := h.2.2.1 s q hs
  rw [show 12 = 6 + 6 from rfl, T_high _ _ _ 6 (by omega), T_low _ _ _ 6 (by omega)] at e
  have h1 := (h.2.2.2.1 s (q % 64) hs (by omega)).1
  have h2 := (h.2.2.2.1 s (q / 64) hs (by omega)).2
  unfold F_X5_gainOf
  rw [o1, o2, show (64 : Int32) = nI 64 from rfl, g_nmul, nI_add, nI_add, if_neg (n_in (by omega) (by omega)), if_neg (n_in (by omega) (by omega)), nI_clamp (by omega), nI_clamp (by omega), Nat.mul_comm s 64, h1, h2, e]
theorem f_net5 {M : z_Mem} {P : t_P} (h : W_c M P) {q : Nat} (hq : q < 4096) : F_X5_netOf w M (nI q) = some (gN P q, M) := by
  have g0 : F_X5_gainOf w M 0 (nI q) = some (gG P 0 q, M) := f_gain5 h (s := 0) (by omega) hq
  have g1 : F_X5_gainOf w M 1 (nI q) = some (gG P 1 q, M) := f_gain5 h (s := 1) (by omega) hq
  unfold F_X5_netOf
  rw [g0, bindS, g1, bindS, f_ch5 M hq, bindS, h.1]
  rfl
/-! laid by the reference -/
def Q_c (M : z_Mem) (r : t_R) (toll ne : Int32) (ch : Nat → Int32) (q : Nat) : Prop := M.1 145 q = g_r r 0 q ne r.1 ∧ M.1 145 (4096 + q) = g_r r 1 q ne r.1 ∧ M.1 146 q = g_r r 0 q ne r.1 + g_r r 1 q ne r.1 - toll * ch q
theorem ml_lays (hw : 1000 ≤ w) {r : t_R} (hv : VR r) (toll ne : Int32) (ch : Nat → Int32) (hch : ∀ N q, q < 4096 → F_X12_changesOf w N (nI q) ne = some (ch q, N)) : ∀ (k i c : Nat) (M : z_Mem), i + k = 4096 → k < c → BR (M.1 142) r → M.1 142 6 = toll → (∀ q, q < i → Q_c M r toll ne ch q) → ∃ M', L_X12_laysPlans w c M ne (nI i) = some ((), M') ∧ (∀ a, a ≠ 145 → a ≠ 146 → M'.1 a = M.1 a) ∧ M'.2 = M.2 ∧ ∀ q, q < 4096 → Q_c M' r toll ne ch q := by
  intro k
  induction k with
  | zero =>
    intro i c M h1 h2 h3 h4 h5
    obtain ⟨c, rfl⟩ : ∃ x, c = x + 1 := ⟨c - 1, by omega⟩
    obtain rfl : i = 4096 := by omega
    refine ⟨M, ?_, fun _ _ _ => rfl, rfl, h5⟩
    rw [L_X12_laysPlans, if_pos (by decide)]
  | succ k ih =>
    intro i c M h1 h2 h3 h4 h5
    obtain ⟨c, rfl⟩ : ∃ x, c = x + 1 := ⟨c - 1, by omega⟩
    have q1 : ¬ (4096 : Int32) ≤ nI i := nI_ge (b := 4096) (by omega) (by omega)
    have e0 := f_gain12 (w := w) hw h3 hv 0 ne i
    have e1 := f_gain12 (w := w) (M := z_wI M 145 i (g_r r 0 i ne r.1)) hw (show BR (M.1 142) r from h3) hv 1 ne i
    obtain ⟨M', r1, r2, r3, r4⟩ := ih (i + 1) c (z_wI (z_wI (z_wI M 145 i (g_r r 0 i ne r.1)) 145 (4096 + i) (g_r r 1 i ne r.1)) 146 i (g_r r 0 i ne r.1 + g_r r 1 i ne r.1 - toll * ch i)) (by omega) (by omega) h3 h4 (fun q hq => by
      by_cases e : q = i
      · subst e
        refine ⟨?_, ?_, ?_⟩
        · simp (maxSteps := 2000000) (decide := true) (disch := omega) only [bindS, wI_row, wI_slot, wI_same, wI_2, nI_p0, false_or, nle_f, nI_cl, n_lad, n_adl, nI_add, if_true, if_false, ite_true, ite_false, ↓reduceIte]
        · simp (maxSteps := 2000000) (decide := true) (disch := omega) only [bindS, wI_row, wI_slot, wI_same, wI_2, nI_p0, false_or, nle_f, nI_cl, n_lad, n_adl, nI_add, if_true, if_false, ite_true, ite_false, ↓reduceIte]
        · simp (maxSteps := 2000000) (decide := true) (disch := omega) only [bindS, wI_row, wI_slot, wI_same, wI_2, nI_p0, false_or, nle_f, nI_cl, n_lad, n_adl, nI_add, if_true, if_false, ite_true, ite_false, ↓reduceIte]
      · obtain ⟨x1, x2, x3⟩ := h5 q (by omega)
        refine ⟨?_, ?_, ?_⟩
        · simp (maxSteps := 2000000) (decide := true) (disch := omega) only [x1, bindS, wI_row, wI_slot, wI_same, wI_2, nI_p0, false_or, nle_f, nI_cl, n_lad, n_adl, nI_add, if_true, if_false, ite_true, ite_false, ↓reduceIte]
        · simp (maxSteps := 2000000) (decide := true) (disch := omega) only [x2, bindS, wI_row, wI_slot, wI_same, wI_2, nI_p0, false_or, nle_f, nI_cl, n_lad, n_adl, nI_add, if_true, if_false, ite_true, ite_false, ↓reduceIte]
        · simp (maxSteps := 2000000) (decide := true) (disch := omega) only [x3, bindS, wI_row, wI_slot, wI_same, wI_2, nI_p0, false_or, nle_f, nI_cl, n_lad, n_adl, nI_add, if_true, if_false, ite_true, ite_false, ↓reduceIte])
    refine ⟨M', ?_, fun a h1 h2 => by rw [r2 a h1 h2, wI_row h2, wI_row h1, wI_row h1], r3, r4⟩
    rw [L_X12_laysPlans, if_neg q1, e0, bindS]
    have k4 : (4096 : Int32) = nI 4096 := rfl
    simp (maxSteps := 2000000) (decide := true) (disch := omega) only [e1, k4, hch, nI_11, h4, bindS, wI_row, wI_slot, wI_same, wI_2, nI_p0, false_or, nle_f, nI_cl, n_lad, n_adl, nI_add, if_true, if_false, ite_true, ite_false, ↓reduceIte]
    exact r1
theorem f_lays (hw : 10000 ≤ w) {M : z_Mem} {P : t_P} (hb : BP (M.1 142) P) (hv : VP P) (ne : Int32) (ch : Nat → Int32) (hch : ∀ N q, q < 4096 → F_X12_changesOf w N (nI q) ne = some (ch q, N)) : ∃ M', F_X12_laysPlans w M ne = some ((), M') ∧ (∀ a, a ≠ 145 → a ≠ 146 → M'.1 a = M.1 a) ∧ M'.2 = M.2 ∧ ∀ q, q < 4096 → Q_c M' P.2.1 (P.1 6) ne ch q :=
  ml_lays (w := w) (by omega) hv.2.1 (P.1 6) ne ch hch 4096 0 w M (by omega) (by omega) hb.2.1 hb.1.2.1 (fun q hq => by omega)
variable {M : z_Mem}
/-- behind a call that weighed plans -/
theorem r_pl {A N : z_Mem} (h : r_Rel M) (v : Int32) (hA : Kp M A) (hN : ∀ a, a ≠ 145 → a ≠ 146 → a ≠ 137 → N.1 a = (z_wI A 0 11 v).1 a) (h0 : N.1 137 0 = v) (hk : ∀ k, k ≠ 0 → k ≠ 1 → k ≠ 28 → N.1 137 k = A.1 137 k) (hl : N.2 = A.2) : r_Rel N := by
  refine r_q h ?_ ?_ ?_ ?_ ?_ ?_
  · rw [h0, hN 0 (by omega) (by omega) (by omega), wI_same]
  · intro k hk
    rw [hN 0 (by omega) (by omega) (by omega), wI_slot (by omega), hA.1 0 (by omega)]
  · intro k hk2
    rw [hk k (by omega) (by omega) (by omega), hA.1 137 (by omega)]
  · rw [hN 5 (by omega) (by omega) (by omega), wI_row (by omega), hA.1 5 (by omega)]
  · intro a ha
    unfold r_core at ha
    rw [hN a (by omega) (by omega) (by omega), wI_row (by omega), hA.1 a (by omega)]
  · intro a k _
    rw [hl, hA.2]
/-- .. with nothing written but the status -/
theorem r_pl0 {A : z_Mem} (h : r_Rel M) (v : Int32) (hA : Kp M A) : r_Rel (z_st A v) := by
  refine r_pl h v hA (fun a _ _ h3 => ?_) ?_ (fun k h1 h2 _ => ?_) rfl
  · unfold z_st
    simp (maxSteps := 2000000) (decide := true) (disch := omega) only [bindS, wI_row, wI_slot, wI_same, wI_2, nI_p0, false_or, nle_f, nI_cl, n_lad, n_adl, nI_add, if_true, if_false, ite_true, ite_false, ↓reduceIte]
  · unfold z_st
    simp (maxSteps := 2000000) (decide := true) (disch := omega) only [bindS, wI_row, wI_slot, wI_same, wI_2, nI_p0, false_or, nle_f, nI_cl, n_lad, n_adl, nI_add, if_true, if_false, ite_true, ite_false, ↓reduceIte]
  · unfold z_st
    simp (maxSteps := 2000000) (decide := true) (disch := omega) only [bindS, wI_row, wI_slot, wI_same, wI_2, nI_p0, false_or, nle_f, nI_cl, n_lad, n_adl, nI_add, if_true, if_false, ite_true, ite_false, ↓reduceIte]
theorem Kp_142 {A : z_Mem} (h : Kp M A) : A.1 142 = M.1 142 := h.1 142 (by omega)
theorem call_gain (hw : 1000 ≤ w) (h : r_Rel M) (a b : Int32) : r_ok (F_X11_gain w M a b) (fun M => F_X12_gain w M a b) := by
  obtain ⟨P, hc, hb, hv⟩ := h.2.2.2.2.2.2.1
  have ref : ∀ v : Int32, F_X11_gain w M a b = some (-1, z_wI M 0 11 v) → F_X12_gain w (z_wI M 0 11 v) a b = some (-1, z_st M v) → r_ok (F_X11_gain w M a b) (fun M => F_X12_gain w M a b) := fun v e1 e2 => ⟨-1, _, _, e1, e2, r_stv v h⟩
  by_cases hs : a = 0 ∨ a = 1
  · have s1 : ∀ N, F_X11_isSide w N a = some (true, N) := fun N => by rcases hs with rfl | rfl <;> rfl
    have s2 : ∀ N, F_X12_isSideAt w N a = some (true, N) := fun N => by rcases hs with rfl | rfl <;> rfl
    obtain ⟨s, hs2, rfl⟩ : ∃ s, s < 2 ∧ a = nI s := by
      rcases hs with e | e
      · exact ⟨0, by omega, e⟩
      · exact ⟨1, by omega, e⟩
    by_cases g : (0 : Int32) ≤ b ∧ b ≤ 4095
    · have m1 := fun N => in_t (w := w) (M := N) (a := b) (B := 0) (C := 4095) 0 4095 rfl rfl g
      have w1 : ∀ N, F_X11_isPlan w N b = some (true, N) := fun N => by rw [f_pl, decide_eq_true g]
      obtain ⟨q, _, hq, rfl⟩ := (i_rng 0 4095 (by omega) (by omega)).mp g
      obtain ⟨A, a1, a2, a3⟩ := f_weigh (w := w) hw hc hv
      have e1 := f_gain5 (w := w) a2 hs2 (q := q) (by omega)
      have e2 := f_gain12 (w := w) (M := z_wI (z_wI (z_wI A 0 11 0) 137 1 0) 137 0 0) (r := P.2.1) hw (by rw [wI_row (by omega), wI_row (by omega), wI_row (by omega), Kp_142 a3]; exact hb.2.1) hv.2.1 (nI s) (-1) q
      refine ⟨gG P s q, z_wI A 0 11 0, z_st A 0, ?_, ?_, r_pl0 h 0 a3⟩
      · simp (maxSteps := 2000000) (decide := true) (disch := omega) only [F_X11_gain, F_X11_answer, s1, w1, a1, e1, bindS, wI_row, wI_slot, wI_same, wI_2, nI_p0, false_or, nle_f, nI_cl, n_lad, n_adl, nI_add, if_true, if_false, ite_true, ite_false, ↓reduceIte]
      · simp (maxSteps := 2000000) (decide := true) (disch := omega) only [F_X12_gain, F_X12_isPlan, s2, m1, e2, z_st, bindS, wI_row, wI_slot, wI_same, wI_2, nI_p0, false_or, nle_f, nI_cl, n_lad, n_adl, nI_add, if_true, if_false, ite_true, ite_false, ↓reduceIte]
        rfl
    · have m1 := fun N => in_f (w := w) (M := N) (a := b) (B := 0) (C := 4095) 0 4095 rfl rfl g
      have w1 : ∀ N, F_X11_isPlan w N b = some (false, N) := fun N => by rw [f_pl, decide_eq_false g]
      exact ref 5 (by simp (maxSteps := 2000000) (decide := true) (disch := omega) only [F_X11_gain, F_X11_refuse, s1, w1, Bool.false_eq_true, bindS, wI_row, wI_slot, wI_same, wI_2, nI_p0, false_or, nle_f, nI_cl, n_lad, n_adl, nI_add, if_true, if_false, ite_true, ite_false, ↓reduceIte]) (by simp (maxSteps := 2000000) (decide := true) (disch := omega) only [F_X12_gain, F_X12_isPlan, F_X12_refuse, s2, m1, z_st, wI_wI, Bool.false_eq_true, bindS, wI_row, wI_slot, wI_same, wI_2, nI_p0, false_or, nle_f, nI_cl, n_lad, n_adl, nI_add, if_true, if_false, ite_true, ite_false, ↓reduceIte])
  · have x := fun N => sd_f (w := w) (M := N) hs
    exact ref 2 (by simp (maxSteps := 2000000) (decide := true) (disch := omega) only [F_X11_gain, F_X11_refuse, (x _).1, Bool.false_eq_true, bindS, wI_row, wI_slot, wI_same, wI_2, nI_p0, false_or, nle_f, nI_cl, n_lad, n_adl, nI_add, if_true, if_false, ite_true, ite_false, ↓reduceIte]) (by simp (maxSteps := 2000000) (decide := true) (disch := omega) only [F_X12_gain, F_X12_refuse, (x _).2, z_st, wI_wI, Bool.false_eq_true, bindS, wI_row, wI_slot, wI_same, wI_2, nI_p0, false_or, nle_f, nI_cl, n_lad, n_adl, nI_add, if_true, if_false, ite_true, ite_false, ↓reduceIte])
theorem call_changes (hw : 1000 ≤ w) (h : r_Rel M) (b : Int32) : r_ok (F_X11_changes w M b) (fun M => F_X12_changes w M b) := by
  by_cases g : (0 : Int32) ≤ b ∧ b ≤ 4095
  · have m1 := fun N => in_t (w := w) (M := N) (a := b) (B := 0) (C := 4095) 0 4095 rfl rfl g
    have w1 : ∀ N, F_X11_isPlan w N b = some (true, N) := fun N => by rw [f_pl, decide_eq_true g]
    obtain ⟨q, _, hq, rfl⟩ := (i_rng 0 4095 (by omega) (by omega)).mp g
    have e1 := fun N => f_ch5 (w := w) N (p := q) (by omega)
    have e2 := fun N => f_ch12 (w := w) hw N (nI q)
    refine ⟨z_ch (nI q) 12, z_wI M 0 11 0, z_st M 0, ?_, ?_, r_stv 0 h⟩
    · simp (maxSteps := 2000000) (decide := true) (disch := omega) only [F_X11_changes, F_X11_answer, w1, e1, bindS, wI_row, wI_slot, wI_same, wI_2, nI_p0, false_or, nle_f, nI_cl, n_lad, n_adl, nI_add, if_true, if_false, ite_true, ite_false, ↓reduceIte]
    · simp (maxSteps := 2000000) (decide := true) (disch := omega) only [F_X12_changes, F_X12_isPlan, m1, e2, z_st, bindS, wI_row, wI_slot, wI_same, wI_2, nI_p0, false_or, nle_f, nI_cl, n_lad, n_adl, nI_add, if_true, if_false, ite_true, ite_false, ↓reduceIte]
  · have m1 := fun N => in_f (w := w) (M := N) (a := b) (B := 0) (C := 4095) 0 4095 rfl rfl g
    have w1 : ∀ N, F_X11_isPlan w N b = some (false, N) := fun N => by rw [f_pl, decide_eq_false g]
    exact ⟨-1, z_wI M 0 11 5, z_st M 5, by simp (maxSteps := 2000000) (decide := true) (disch := omega) only [F_X11_changes, F_X11_refuse, w1, Bool.false_eq_true, bindS, wI_row, wI_slot, wI_same, wI_2, nI_p0, false_or, nle_f, nI_cl, n_lad, n_adl, nI_add, if_true, if_false, ite_true, ite_false, ↓reduceIte], by simp (maxSteps := 2000000) (decide := true) (disch := omega) only [F_X12_changes, F_X12_isPlan, F_X12_refuse, m1, z_st, wI_wI, Bool.false_eq_true, bindS, wI_row, wI_slot, wI_same, wI_2, nI_p0, false_or, nle_f, nI_cl, n_lad, n_adl, nI_add, if_true, if_false, ite_true, ite_false, ↓reduceIte], r_stv 5 h⟩
theorem call_net (hw : 1000 ≤ w) (h : r_Rel M) (b : Int32) : r_ok (F_X11_net w M b) (fun M => F_X12_net w M b) := by
  obtain ⟨P, hc, hb, hv⟩ := h.2.2.2.2.2.2.1
  by_cases g : (0 : Int32) ≤ b ∧ b ≤ 4095
  · have m1 := fun N => in_t (w := w) (M := N) (a := b) (B := 0) (C := 4095) 0 4095 rfl rfl g
    have w1 : ∀ N, F_X11_isPlan w N b = some (true, N) := fun N => by rw [f_pl, decide_eq_true g]
    obtain ⟨q, _, hq, rfl⟩ := (i_rng 0 4095 (by omega) (by omega)).mp g
    obtain ⟨A, a1, a2, a3⟩ := f_weigh (w := w) hw hc hv
    have e1 := f_net5 (w := w) a2 (q := q) (by omega)
    have hbr : (z_wI (z_wI (z_wI A 0 11 0) 137 1 0) 137 0 0).1 142 = M.1 142 := by rw [wI_row (by omega), wI_row (by omega), wI_row (by omega), Kp_142 a3]
    have e2 := fun s => f_gain12 (w := w) (M := z_wI (z_wI (z_wI A 0 11 0) 137 1 0) 137 0 0) (r := P.2.1) hw (by rw [hbr]; exact hb.2.1) hv.2.1 s (-1) q
    have e3 := fun N => f_ch12 (w := w) hw N (nI q)
    have t6 : A.1 142 6 = P.1 6 := by rw [Kp_142 a3]; exact hb.1.2.1
    refine ⟨gN P q, z_wI A 0 11 0, z_st A 0, ?_, ?_, r_pl0 h 0 a3⟩
    · simp (maxSteps := 2000000) (decide := true) (disch := omega) only [F_X11_net, F_X11_answer, w1, a1, e1, bindS, wI_row, wI_slot, wI_same, wI_2, nI_p0, false_or, nle_f, nI_cl, n_lad, n_adl, nI_add, if_true, if_false, ite_true, ite_false, ↓reduceIte]
    · simp (maxSteps := 2000000) (decide := true) (disch := omega) only [F_X12_net, F_X12_isPlan, m1, e2, e3, t6, z_st, bindS, wI_row, wI_slot, wI_same, wI_2, nI_p0, false_or, nle_f, nI_cl, n_lad, n_adl, nI_add, if_true, if_false, ite_true, ite_false, ↓reduceIte]
      rfl
  · have m1 := fun N => in_f (w := w) (M := N) (a := b) (B := 0) (C := 4095) 0 4095 rfl rfl g
    have w1 : ∀ N, F_X11_isPlan w N b = some (false, N) := fun N => by rw [f_pl, decide_eq_false g]
    exact ⟨-1, z_wI M 0 11 5, z_st M 5, by simp (maxSteps := 2000000) (decide := true) (disch := omega) only [F_X11_net, F_X11_refuse, w1, Bool.false_eq_true, bindS, wI_row, wI_slot, wI_same, wI_2, nI_p0, false_or, nle_f, nI_cl, n_lad, n_adl, nI_add, if_true, if_false, ite_true, ite_false, ↓reduceIte], by simp (maxSteps := 2000000) (decide := true) (disch := omega) only [F_X12_net, F_X12_isPlan, F_X12_refuse, m1, z_st, wI_wI, Bool.false_eq_true, bindS, wI_row, wI_slot, wI_same, wI_2, nI_p0, false_or, nle_f, nI_cl, n_lad, n_adl, nI_add, if_true, if_false, ite_true, ite_false, ↓reduceIte], r_stv 5 h⟩
end
