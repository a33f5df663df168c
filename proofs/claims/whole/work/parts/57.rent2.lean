/-! ===== rent, the call ===== -/
/-- a plan with the month m0 as the one ahead -/
def rp (q m0 : Nat) : Nat := if q.testBit ((m0 + 11) % 12) = true then q ||| 2 ^ m0 else (q ||| 2 ^ m0) ^^^ 2 ^ m0
theorem rp_bit (q m0 k : Nat) : (rp q m0).testBit k = if k = m0 then q.testBit ((m0 + 11) % 12) else q.testBit k := by
  unfold rp
  cases g : q.testBit ((m0 + 11) % 12)
  · rw [if_neg (by decide), Nat.testBit_xor, Nat.testBit_or, Nat.testBit_two_pow]
    by_cases e : k = m0
    · subst e; simp
    · rw [if_neg e, decide_eq_false (fun x => e x.symm)]; simp
  · rw [if_pos rfl, Nat.testBit_or, Nat.testBit_two_pow]
    by_cases e : k = m0
    · subst e; simp
    · rw [if_neg e, decide_eq_false (fun x => e x.symm)]; simp
theorem rp_lt {q m0 : Nat} (hq : q < 4096) (hm : m0 < 12) : rp q m0 < 4096 := by
  have hp : 2 ^ m0 < 2 ^ 12 := Nat.pow_lt_pow_right (by omega) (by omega)
  unfold rp
  split
  · exact or_lt hq hm
  · exact Nat.xor_lt_two_pow (n := 12) (or_lt hq hm) hp
theorem rp_id {q m0 : Nat} (h : q.testBit m0 = q.testBit ((m0 + 11) % 12)) : rp q m0 = q := by
  apply Nat.eq_of_testBit_eq
  intro k
  rw [rp_bit]
  by_cases e : k = m0
  · rw [if_pos e, e, h]
  · rw [if_neg e]
theorem rp_eq {q m0 : Nat} (hm : m0 < 12) : (rp q m0).testBit m0 = (rp q m0).testBit ((m0 + 11) % 12) := by
  rw [rp_bit, rp_bit, if_pos rfl, if_neg (by omega)]
theorem gm_cong {r : t_R} (hv : VR r) {i : Nat} (hi : i < r.1) (s ne : Int32) {p q : Nat} (h : ∀ l, l < 12 → g_wh p ne l = g_wh q ne l) : ∀ k, k ≤ 12 → g_m r i s p ne k = g_m r i s q ne k := by
  intro k
  induction k with
  | zero => intro _; rfl
  | succ k ih =>
    intro hk
    have hlk : g_lk r i k < 12 := by
      rcases lk_lag hv hi (m := k) (by omega) with ⟨_, _, e3⟩ | ⟨_, e2, _⟩ <;> omega
    have gb : g_b r i s p ne k = g_b r i s q ne k := by unfold g_b; rw [h _ hlk]
    rw [g_m, g_m, ih (by omega), gb]
theorem gr_cong {r : t_R} (hv : VR r) (s ne : Int32) {p q : Nat} (h : ∀ l, l < 12 → g_wh p ne l = g_wh q ne l) : ∀ i, i ≤ r.1 → g_r r s p ne i = g_r r s q ne i := by
  intro i
  induction i with
  | zero => intro _; rfl
  | succ i ih =>
    intro hi
    rw [g_r, g_r, ih (by omega), gm_cong hv (i := i) (by omega) s ne h 12 (by omega)]
/-- NET of a plan, if in the month m0 he lies with neither -/
def gV (P : t_P) (m0 q : Nat) : Int32 := g_r P.2.1 0 q (nI m0) P.2.1.1 + g_r P.2.1 1 q (nI m0) P.2.1.1 - P.1 6 * z_ch (nI (rp q m0)) 12
theorem gV_rp {P : t_P} (hv : VP P) {m0 q : Nat} (hm : m0 < 12) : gV P m0 (rp q m0) = gV P m0 q := by
  have h : ∀ l, l < 12 → g_wh (rp q m0) (nI m0) l = g_wh q (nI m0) l := by
    intro l hl
    unfold g_wh
    by_cases e : l = m0
    · rw [e, if_pos rfl, if_pos rfl]
    · rw [rp_bit, if_neg e]
  unfold gV
  rw [gr_cong hv.2.1 0 (nI m0) h _ (Nat.le_refl _), gr_cong hv.2.1 1 (nI m0) h _ (Nat.le_refl _), rp_id (rp_eq hm)]
theorem gV_rng {P : t_P} (hv : VP P) {m0 q : Nat} (hm : m0 < 12) (hq : q < 4096) : ¬ gV P m0 q ≤ -1000000 := by
  have h8 := hv.2.1.1
  obtain ⟨n, hn, e1⟩ := gr_rng hv.2.1 0 q (nI m0) P.2.1.1 (Nat.le_refl _)
  obtain ⟨m, hm2, e2⟩ := gr_rng hv.2.1 1 q (nI m0) P.2.1.1 (Nat.le_refl _)
  unfold gV
  rw [e1, e2]
  exact (net_rng (by omega) (by omega) hv.1.2.2.2.2.2.1 (ch_ok (rp_lt hq hm)).2).1
theorem i_alc (a b c : Int32) : a + (b + c) = b + (a + c) := by rw [← Int32.add_assoc, Int32.add_comm a, Int32.add_assoc]
theorem i_alg5 (x0 b0 x1 b1 t a0 a1 : Int32) : x0 + b0 + (x1 + b1) - t - (b0 + b1) + (a0 + a1) = x0 + a0 + (x1 + a1) - t := by
  have e : ∀ x y z : Int32, x - y + z = x + z - y := fun x y z => by rw [Int32.sub_eq_add_neg, Int32.sub_eq_add_neg, Int32.add_assoc, Int32.add_comm (-y), ← Int32.add_assoc]
  rw [e, e]
  have e2 : x0 + b0 + (x1 + b1) + (a0 + a1) = x0 + a0 + (x1 + a1) + (b0 + b1) := by
    simp only [Int32.add_assoc, Int32.add_comm, i_alc]
  rw [e2, Int32.sub_sub, Int32.add_comm t, ← Int32.sub_sub, Int32.add_sub_cancel]
section
variable {w : Nat}
theorem f_chm (hw : 1000 ≤ w) (N : z_Mem) {q m0 : Nat} (hm : m0 < 12) : F_X12_changesOf w N (nI q) (nI m0) = some (z_ch (nI (rp q m0)) 12, N) := by
  have e : nI m0 + 11 - (nI m0 + 11) / 12 * 12 = nI ((m0 + 11) % 12) := by
    rw [show (11 : Int32) = nI 11 from rfl, show (12 : Int32) = nI 12 from rfl, nI_add, pk_rem (by omega) (by omega) (by omega)]
  unfold F_X12_changesOf
  rw [if_neg (nI_pos (by omega)), e, f_has12, bindS, n_pow2 (by omega), n_or]
  have bn := bit_n (p := q) (m := (m0 + 11) % 12) (by omega)
  unfold rp
  cases g : q.testBit ((m0 + 11) % 12)
  · have e2 : nI q &&& (nI (2 ^ m0) ^^^ (-1)) = nI ((q ||| 2 ^ m0) ^^^ 2 ^ m0) := by
      refine b_ext fun i hi => ?_
      rw [b_and, b_xor, b_m1 i hi, bt_nI hi, bt_nI hi, bt_nI hi, Nat.testBit_xor, Nat.testBit_or]
      cases q.testBit i <;> cases (2 ^ m0).testBit i <;> rfl
    rw [if_neg (by rw [decide_eq_true_iff]; exact fun x => by rw [bn.mp x] at g; exact absurd g (by decide)), if_neg (by decide), e2]
    exact ml_ch _ 12 0 w (by omega) (by omega)
  · rw [if_pos (decide_eq_true (bn.mpr g)), if_pos rfl]
    exact ml_ch _ 12 0 w (by omega) (by omega)
theorem ml_gn {N : z_Mem} (V : Nat → Int32) (hV : ∀ q, q < 4096 → N.1 146 q = V q) : ∀ (k i c : Nat) (x : Int32), i + k = 4096 → k < c → ∃ y, L_X12_greatestNet w c N x (nI i) = some (y, N) ∧ x ≤ y ∧ (∀ q, i ≤ q → q < 4096 → V q ≤ y) ∧ (y = x ∨ ∃ q, q < 4096 ∧ y = V q) := by
  intro k
  induction k with
  | zero =>
    intro i c x h1 h2
    obtain ⟨c, rfl⟩ : ∃ x, c = x + 1 := ⟨c - 1, by omega⟩
    obtain rfl : i = 4096 := by omega
    refine ⟨x, ?_, Int32.le_refl x, fun q h3 h4 => by omega, Or.inl rfl⟩
    rw [L_X12_greatestNet, if_pos (by decide)]
  | succ k ih =>
    intro i c x h1 h2
    obtain ⟨c, rfl⟩ : ∃ x, c = x + 1 := ⟨c - 1, by omega⟩
    obtain ⟨y, y1, y2, y3, y4⟩ := ih (i + 1) c (if x < V i then V i else x) (by omega) (by omega)
    have hm := i_max x (V i)
    have y2' := Int32.le_iff_toInt_le.mp y2
    rw [hm] at y2'
    refine ⟨y, ?_, Int32.le_iff_toInt_le.mpr (by omega), fun q h3 h4 => ?_, ?_⟩
    · rw [L_X12_greatestNet, if_neg (ge4096 (by omega)), if_neg (n_in (by omega) (by omega)), nI_clamp (by omega), hV i (by omega), nI_11]
      exact y1
    · by_cases e : q = i
      · subst e; exact Int32.le_iff_toInt_le.mpr (by omega)
      · exact y3 q (by omega) h4
    · rcases y4 with y4 | y4
      · by_cases g : x < V i
        · rw [if_pos g] at y4
          exact Or.inr ⟨i, by omega, y4⟩
        · rw [if_neg g] at y4
          exact Or.inl y4
      · exact Or.inr y4
theorem f_gn (hw : 10000 ≤ w) {M : z_Mem} {P : t_P} (hb : BP (M.1 142) P) (hv : VP P) (ne : Int32) (ch : Nat → Int32) (hch : ∀ N q, q < 4096 → F_X12_changesOf w N (nI q) ne = some (ch q, N)) : ∃ N y, F_X12_greatestNet w M ne = some (y, N) ∧ (∀ a, a ≠ 145 → a ≠ 146 → N.1 a = M.1 a) ∧ N.2 = M.2 ∧ (∀ q, q < 4096 → g_r P.2.1 0 q ne P.2.1.1 + g_r P.2.1 1 q ne P.2.1.1 - P.1 6 * ch q ≤ y) ∧ ∃ q, q < 4096 ∧ y = g_r P.2.1 0 q ne P.2.1.1 + g_r P.2.1 1 q ne P.2.1.1 - P.1 6 * ch q := by
  obtain ⟨N, n1, n2, n3, n4⟩ := f_lays (w := w) hw hb hv ne ch hch
  obtain ⟨y, y1, y2, y3, y4⟩ := ml_gn (w := w) (N := N) (fun q => g_r P.2.1 0 q ne P.2.1.1 + g_r P.2.1 1 q ne P.2.1.1 - P.1 6 * ch q) (fun q hq => (n4 q hq).2.2) 4095 1 w (N.1 146 0) (by omega) (by omega)
  have z0 := (n4 0 (by omega)).2.2
  refine ⟨N, y, ?_, n2, n3, fun q hq => ?_, ?_⟩
  · unfold F_X12_greatestNet
    rw [n1, bindS]
    exact y1
  · by_cases e : q = 0
    · subst e; rw [← z0]; exact y2
    · exact y3 q (by omega) hq
  · rcases y4 with y4 | y4
    · exact ⟨0, by omega, by rw [← z0]; exact y4⟩
    · exact y4
theorem cl_bw12 {A : z_Mem} {P : t_P} (ha : W_c A P) : ∀ (k i c b : Nat), i + k = 4096 → k < c → b < 4096 → ∃ r, r < 4096 ∧ L_X5_bestWithin w c A 12 (nI b) (gN P b) (nI i) = some (nI r, A) ∧ gN P b ≤ gN P r ∧ ∀ q, i ≤ q → q < 4096 → gN P q ≤ gN P r := by
  intro k
  induction k with
  | zero =>
    intro i c b h1 h2 hb
    obtain ⟨c, rfl⟩ : ∃ x, c = x + 1 := ⟨c - 1, by omega⟩
    obtain rfl : i = 4096 := by omega
    refine ⟨b, hb, ?_, Int32.le_refl _, fun q _ _ => by omega⟩
    rw [L_X5_bestWithin, if_pos (by decide)]
  | succ k ih =>
    intro i c b h1 h2 hb
    obtain ⟨c, rfl⟩ : ∃ x, c = x + 1 := ⟨c - 1, by omega⟩
    have f1 := f_net5 (w := w) ha (q := i) (by omega)
    rw [L_X5_bestWithin, if_neg (lt4096 (by omega)), f_ch5 A (by omega), bindS, if_neg (i_nlt.mpr (ch_ok (n := i) (by omega)).2.2), f1, bindS, nI_11]
    by_cases g : gN P i ≤ gN P b
    · rw [if_pos g]
      obtain ⟨r, r1, r2, r3, r4⟩ := ih (i + 1) c b (by omega) (by omega) hb
      refine ⟨r, r1, r2, r3, fun q h3 h4 => ?_⟩
      by_cases e : q = i
      · subst e; exact Int32.le_trans g r3
      · exact r4 q (by omega) h4
    · rw [if_neg g, f1, bindS]
      obtain ⟨r, r1, r2, r3, r4⟩ := ih (i + 1) c i (by omega) (by omega) (by omega)
      refine ⟨r, r1, r2, ?_, fun q h3 h4 => ?_⟩
      · refine Int32.le_trans ?_ r3
        have := Int32.lt_iff_toInt_lt.mp (i_nle.mp g)
        exact Int32.le_iff_toInt_le.mpr (by omega)
      · by_cases e : q = i
        · subst e; exact r3
        · exact r4 q (by omega) h4
theorem z_wv {q m : Nat} : (q.testBit m = true → z_w q m = 0) ∧ (q.testBit m = false → z_w q m = 1) := by
  unfold z_w
  constructor
  · intro g; rw [if_pos g]
  · intro g; rw [if_neg (by rw [g]; decide)]
theorem cl_gw {A : z_Mem} {P : t_P} (hv : VP P) (ha : W_c A P) {m0 : Nat} (hm : m0 < 12) (hX : ∀ s q, s < 2 → g_X (A.1 60) s q m0 12 = h_r P.2.1 (nI s) q m0 P.2.1.1) : ∀ (k i c : Nat) (x : Int32), i + k = 4096 → k < c → ∃ y, L_X5_greatestWithout w c A (nI m0) (a_all P.2.1 m0 P.2.1.1) (nI ((m0 + 11) % 12)) x (nI i) = some (y, A) ∧ x ≤ y ∧ (∀ q, i ≤ q → q < 4096 → q.testBit m0 = q.testBit ((m0 + 11) % 12) → gV P m0 q ≤ y) ∧ (y = x ∨ ∃ q, q < 4096 ∧ y = gV P m0 q) := by
  have val : ∀ q, q < 4096 → q.testBit m0 = q.testBit ((m0 + 11) % 12) → gN P q - (A.1 60 ((0 * 12 + m0) * 2 + z_w q m0) + A.1 60 ((1 * 12 + m0) * 2 + z_w q m0)) + a_all P.2.1 m0 P.2.1.1 = gV P m0 q := by
    intro q hq e
    have t0 := ha.2.2.1 0 q (by omega)
    have t1 := ha.2.2.1 1 q (by omega)
    rw [g_X_T _ _ _ m0, if_pos hm, hX 0 q (by omega)] at t0
    rw [g_X_T _ _ _ m0, if_pos hm, hX 1 q (by omega)] at t1
    have n0 : g_r P.2.1 0 q (nI m0) P.2.1.1 = h_r P.2.1 0 q m0 P.2.1.1 + a_r P.2.1 0 m0 P.2.1.1 := gr_ne hv.2.1 (Or.inl rfl) q hm _ (Nat.le_refl _)
    have n1 : g_r P.2.1 1 q (nI m0) P.2.1.1 = h_r P.2.1 1 q m0 P.2.1.1 + a_r P.2.1 1 m0 P.2.1.1 := gr_ne hv.2.1 (Or.inr rfl) q hm _ (Nat.le_refl _)
    unfold gN gV
    rw [← t0, ← t1, n0, n1, a_sum hv.2.1 m0 _ (Nat.le_refl _), rp_id e]
    exact i_alg5 _ _ _ _ _ _ _
  intro k
  induction k with
  | zero =>
    intro i c x h1 h2
    obtain ⟨c, rfl⟩ : ∃ x, c = x + 1 := ⟨c - 1, by omega⟩
    obtain rfl : i = 4096 := by omega
    refine ⟨x, ?_, Int32.le_refl x, fun q h3 h4 => by omega, Or.inl rfl⟩
    rw [L_X5_greatestWithout, if_pos (by decide)]
  | succ k ih =>
    intro i c x h1 h2
    obtain ⟨c, rfl⟩ : ∃ x, c = x + 1 := ⟨c - 1, by omega⟩
    have f1 := f_net5 (w := w) ha (q := i) (by omega)
    have b1 := b_bit (nI i) (k := m0) (by omega)
    have b2 := b_bit (nI i) (k := (m0 + 11) % 12) (by omega)
    rw [bt_nI (by omega)] at b1 b2
    rw [L_X5_greatestWithout, if_neg (lt4096 (by omega)), b1, b2, nI_11]
    by_cases e : i.testBit m0 = i.testBit ((m0 + 11) % 12)
    · rw [if_pos (by rw [e])]
      obtain ⟨y, y1, y2, y3, y4⟩ := ih (i + 1) c (if x < gV P m0 i then gV P m0 i else x) (by omega) (by omega)
      have hmx := i_max x (gV P m0 i)
      have y2' := Int32.le_iff_toInt_le.mp y2
      rw [hmx] at y2'
      refine ⟨y, ?_, Int32.le_iff_toInt_le.mpr (by omega), fun q h3 h4 h5 => ?_, ?_⟩
      · have v := val i (by omega) e
        cases g : i.testBit m0
        · have zw := z_wv.2 g
          rw [zw] at v
          have fb0 : ∀ N, F_X5_bearingAt w N 0 (nI m0) 1 = some (nI ((0 * 12 + m0) * 2 + 1), N) := fun N => f_bAt N 0 m0 1
          have fb1 : ∀ N, F_X5_bearingAt w N 1 (nI m0) 1 = some (nI ((1 * 12 + m0) * 2 + 1), N) := fun N => f_bAt N 1 m0 1
          rw [if_neg (by decide : ¬ (if false = true then (1 : Int32) else 0) = 1), fb0, bindS, if_neg (n_in (by omega) (by omega)), fb1, bindS, if_neg (n_in (by omega) (by omega)), f1, bindS]
          dsimp only
          rw [nI_clamp (by omega), nI_clamp (by omega), v]
          exact y1
        · have zw := z_wv.1 g
          rw [zw] at v
          have fb0 : ∀ N, F_X5_bearingAt w N 0 (nI m0) 0 = some (nI ((0 * 12 + m0) * 2 + 0), N) := fun N => f_bAt N 0 m0 0
          have fb1 : ∀ N, F_X5_bearingAt w N 1 (nI m0) 0 = some (nI ((1 * 12 + m0) * 2 + 0), N) := fun N => f_bAt N 1 m0 0
          rw [if_pos (by decide : (if true = true then (1 : Int32) else 0) = 1), fb0, bindS, if_neg (n_in (by omega) (by omega)), fb1, bindS, if_neg (n_in (by omega) (by omega)), f1, bindS]
          dsimp only
          rw [nI_clamp (by omega), nI_clamp (by omega), v]
          exact y1
      · by_cases e2 : q = i
        · subst e2; exact Int32.le_iff_toInt_le.mpr (by omega)
        · exact y3 q (by omega) h4 h5
      · rcases y4 with y4 | y4
        · by_cases g : x < gV P m0 i
          · rw [if_pos g] at y4
            exact Or.inr ⟨i, by omega, y4⟩
          · rw [if_neg g] at y4
            exact Or.inl y4
        · exact Or.inr y4
    · have ne : ¬ (if i.testBit m0 = true then (1 : Int32) else 0) = if i.testBit ((m0 + 11) % 12) = true then 1 else 0 := by
        revert e
        cases i.testBit m0 <;> cases i.testBit ((m0 + 11) % 12) <;> decide
      rw [if_neg ne]
      obtain ⟨y, y1, y2, y3, y4⟩ := ih (i + 1) c x (by omega) (by omega)
      refine ⟨y, y1, y2, fun q h3 h4 h5 => ?_, y4⟩
      by_cases e2 : q = i
      · subst e2; exact absurd h5 e
      · exact y3 q (by omega) h4 h5
variable {M : z_Mem}
theorem call_rent (hw : 10000 ≤ w) (h : r_Rel M) (a : Int32) : r_ok (F_X11_rent w M a) (fun M => F_X12_rent w M a) := by
  obtain ⟨P, hc, hb, hv⟩ := h.2.2.2.2.2.2.1
  by_cases g : (0 : Int32) ≤ a ∧ a ≤ 11
  · have m1 := fun N => in_t (w := w) (M := N) (a := a) (B := 0) (C := 11) 0 11 rfl rfl g
    have w1 : ∀ N, F_X11_isWithin w N a 0 11 = some (true, N) := fun N => by rw [f_wi, decide_eq_true g]
    obtain ⟨m0, _, hm, rfl⟩ := (i_rng 0 11 (by omega) (by omega)).mp g
    have h8 := hv.2.1.1
    obtain ⟨A, a1, a2, a3⟩ := f_weigh (w := w) (by omega) hc hv
    obtain ⟨A', a1', hX⟩ := x_weigh (w := w) (m0 := m0) (by omega) (by omega) hc hv
    obtain rfl : A' = A := by
      rw [a1] at a1'
      simp only [Option.some.injEq, Prod.mk.injEq, true_and] at a1'
      exact a1'.symm
    obtain ⟨r, r0, r1, r2, r3⟩ := cl_bw12 (w := w) a2 4095 1 w 0 (by omega) (by omega) (by omega)
    have eb := c_best a2 r1
    have en := f_net5 (w := w) a2 r0
    have hR : R_c A' 7 P.2.1 := by
      unfold R_c
      rw [a3.1 _ (by omega), a3.1 _ (by omega), a3.1 _ (by omega), a3.1 _ (by omega), a3.1 _ (by omega), a3.1 _ (by omega)]
      exact hc.2.1
    have ew : F_X6_awayIn w A' 7 (nI m0) = some (a_all P.2.1 m0 P.2.1.1, A') := cl_away (w := w) hR hv.2.1 m0 P.2.1.1 0 w (by omega) (by omega)
    obtain ⟨y, y1, y2, y3, y4⟩ := cl_gw (w := w) hv a2 (m0 := m0) (by omega) hX 4096 0 w (-1000000) (by omega) (by omega)
    have eg : F_X5_greatestWithout w A' (nI m0) (a_all P.2.1 m0 P.2.1.1) = some (y, A') := by
      unfold F_X5_greatestWithout
      have e : nI m0 + 12 - 1 - (nI m0 + 12 - 1) / 12 * 12 = nI ((m0 + 11) % 12) := by
        rw [show (12 : Int32) = nI 12 from rfl, show (1 : Int32) = nI 1 from rfl, nI_add, pk_sub (by omega), pk_rem (by omega) (by omega) (by omega), show m0 + 12 - 1 = m0 + 11 by omega]
      rw [e]
      exact y1
    have e142 : (z_wI (z_wI (z_wI A' 0 11 0) 137 1 0) 137 0 0).1 142 = M.1 142 := by rw [wI_row (by omega), wI_row (by omega), wI_row (by omega), Kp_142 a3]
    obtain ⟨N, u, n1, n2, n3, n4, q1, n5, n6⟩ := f_gn (w := w) (M := z_wI (z_wI (z_wI A' 0 11 0) 137 1 0) 137 0 0) (P := P) hw (by rw [e142]; exact hb) hv (-1) (fun q => z_ch (nI q) 12) (fun N q _ => f_ch12 (by omega) N (nI q))
    obtain ⟨N2, v, o1, o2, o3, o4, q2, o5, o6⟩ := f_gn (w := w) (M := N) (P := P) hw (by rw [n2 142 (by omega) (by omega), e142]; exact hb) hv (nI m0) (fun q => z_ch (nI (rp q m0)) 12) (fun N q _ => f_chm (by omega) N (by omega))
    have u1 : u = gN P r := by
      have x1 : gN P r ≤ u := n4 r r0
      have x2 : u ≤ gN P r := by
        rw [n6]
        by_cases z : q1 = 0
        · subst z; exact r2
        · exact r3 q1 (by omega) n5
      exact Int32.le_antisymm x2 x1
    have v1 : v = y := by
      have x1 : v ≤ y := by
        rw [o6]
        show gV P m0 q2 ≤ y
        rw [← gV_rp hv (by omega)]
        exact y3 _ (by omega) (rp_lt o5 (by omega)) (rp_eq (by omega))
      rcases y4 with y4 | ⟨q3, z1, z2⟩
      · exfalso
        have := y3 0 (by omega) (by omega) (by rw [Nat.zero_testBit, Nat.zero_testBit])
        rw [y4] at this
        exact gV_rng hv (by omega) (by omega) this
      · have x2 : y ≤ v := by rw [z2]; exact o4 q3 z1
        exact Int32.le_antisymm x1 x2
    subst u1 v1
    refine ⟨gN P r - v, z_wI A' 0 11 0, N2, ?_, ?_, r_plN h a3 (fun a h1 h2 => by rw [o2 a h1 h2, n2 a h1 h2]) (by rw [o3, n3]; rfl)⟩
    · simp (maxSteps := 2000000) (decide := true) (disch := omega) only [F_X11_rent, F_X11_answer, w1, a1, eb, en, ew, eg, bindS, wI_row, wI_slot, wI_same, wI_2, nI_p0, false_or, nle_f, nI_cl, n_lad, n_adl, nI_add, if_true, if_false, ite_true, ite_false, ↓reduceIte]
    · simp (maxSteps := 2000000) (decide := true) (disch := omega) only [F_X12_rent, m1, n1, o1, bindS, wI_row, wI_slot, wI_same, wI_2, nI_p0, false_or, nle_f, nI_cl, n_lad, n_adl, nI_add, if_true, if_false, ite_true, ite_false, ↓reduceIte]
  · have m1 := fun N => in_f (w := w) (M := N) (a := a) (B := 0) (C := 11) 0 11 rfl rfl g
    have w1 : ∀ N, F_X11_isWithin w N a 0 11 = some (false, N) := fun N => by rw [f_wi, decide_eq_false g]
    exact ⟨-1, z_wI M 0 11 5, z_st M 5, by simp (maxSteps := 2000000) (decide := true) (disch := omega) only [F_X11_rent, F_X11_refuse, w1, Bool.false_eq_true, bindS, wI_row, wI_slot, wI_same, wI_2, nI_p0, false_or, nle_f, nI_cl, n_lad, n_adl, nI_add, if_true, if_false, ite_true, ite_false, ↓reduceIte], by simp (maxSteps := 2000000) (decide := true) (disch := omega) only [F_X12_rent, F_X12_refuse, m1, z_st, wI_wI, Bool.false_eq_true, bindS, wI_row, wI_slot, wI_same, wI_2, nI_p0, false_or, nle_f, nI_cl, n_lad, n_adl, nI_add, if_true, if_false, ite_true, ite_false, ↓reduceIte], r_stv 5 h⟩
end
