/-! ===== plans: best, isSo, howMany, bestOf, even ===== -/
def Qn (N : z_Mem) (P : t_P) : Prop := ∀ q, q < 4096 → N.1 145 q = gG P 0 q ∧ N.1 145 (4096 + q) = gG P 1 q ∧ N.1 146 q = gN P q
theorem gm_rng {r : t_R} (hv : VR r) {i : Nat} (hi : i < r.1) (s : Int32) (q : Nat) (ne : Int32) : ∀ m, ∃ n, n ≤ 50 * m ∧ g_m r i s q ne m = nI n := by
  obtain ⟨x, _, hx, ex⟩ := (i_rng 1 50 (by omega) (by omega)).mp (hv.2 i hi).2.2.1
  intro m
  induction m with
  | zero => exact ⟨0, by omega, rfl⟩
  | succ m ih =>
    obtain ⟨n, hn, e⟩ := ih
    rw [g_m]
    by_cases g : g_b r i s q ne m = true
    · rw [if_pos g, e, ex, nI_add]
      exact ⟨n + x, by omega, rfl⟩
    · rw [if_neg g]
      exact ⟨n, by omega, e⟩
theorem gr_rng {r : t_R} (hv : VR r) (s : Int32) (q : Nat) (ne : Int32) : ∀ i, i ≤ r.1 → ∃ n, n ≤ 600 * i ∧ g_r r s q ne i = nI n := by
  intro i
  induction i with
  | zero => intro _; exact ⟨0, by omega, rfl⟩
  | succ i ih =>
    intro hi
    obtain ⟨n, hn, e⟩ := ih (by omega)
    obtain ⟨m, hm, e2⟩ := gm_rng hv (i := i) (by omega) s q ne 12
    rw [g_r]
    by_cases g : r.2 0 i = s
    · rw [if_pos g, e, e2, nI_add]
      exact ⟨n + m, by omega, rfl⟩
    · rw [if_neg g]
      exact ⟨n, by omega, e⟩
theorem gG_rng {P : t_P} (hv : VP P) (s q : Nat) : ∃ n, n ≤ 4800 ∧ gG P s q = nI n := by
  obtain ⟨n, hn, e⟩ := gr_rng hv.2.1 (nI s) q (-1) P.2.1.1 (Nat.le_refl _)
  have := hv.2.1.1
  exact ⟨n, by omega, e⟩
theorem net_rng {a b : Int32} {n m : Nat} (hn : n ≤ 4800) (hm : m ≤ 4800) (ha : 0 ≤ a ∧ a ≤ 99) (hb : 0 ≤ b ∧ b ≤ 12) : ¬ nI n + nI m - a * b ≤ -1000000 ∧ (nI n + nI m - a * b).toInt ≤ 9600 := by
  obtain ⟨x, _, hx, rfl⟩ := (i_rng 0 99 (by omega) (by omega)).mp ha
  obtain ⟨y, _, hy, rfl⟩ := (i_rng 0 12 (by omega) (by omega)).mp hb
  have hxy : x * y ≤ 99 * 12 := Nat.mul_le_mul hx hy
  have e := pk_sub_toInt (a := n + m) (b := x * y) (by omega) (by omega)
  rw [nI_add, g_nmul]
  refine ⟨fun g => ?_, by rw [e]; omega⟩
  have z : (-1000000 : Int32).toInt = -1000000 := rfl
  have := Int32.le_iff_toInt_le.mp g
  rw [e, z] at this
  omega
theorem gN_rng {P : t_P} (hv : VP P) {q : Nat} (hq : q < 4096) : ¬ gN P q ≤ -1000000 := by
  obtain ⟨n, hn, e1⟩ := gG_rng hv 0 q
  obtain ⟨m, hm, e2⟩ := gG_rng hv 1 q
  unfold gN
  rw [e1, e2]
  exact (net_rng hn hm hv.1.2.2.2.2.2.1 (ch_ok hq).2).1
theorem lt4096 {i : Nat} (h : i < 4096) : ¬ (4095 : Int32) < nI i := i_nlt.mpr (nI_le (b := 4095) (by omega) (by omega))
theorem ge4096 {i : Nat} (h : i < 4096) : ¬ (4096 : Int32) ≤ nI i := nI_ge (b := 4096) h (by omega)
section
variable {w : Nat}
theorem f_pN (hw : 10000 ≤ w) {M A : z_Mem} {P : t_P} (hb : BP (M.1 142) P) (hv : VP P) (ha : Kp M A) (v : Int32) : ∃ N, F_X12_laysPlans w (z_wI (z_wI (z_wI A 0 11 v) 137 1 0) 137 0 0) (-1) = some ((), N) ∧ Qn N P ∧ (∀ a, a ≠ 145 → a ≠ 146 → N.1 a = (z_wI (z_wI (z_wI A 0 11 v) 137 1 0) 137 0 0).1 a) ∧ N.2 = A.2 := by
  obtain ⟨N, n1, n2, n3, n4⟩ := f_lays (w := w) (M := z_wI (z_wI (z_wI A 0 11 v) 137 1 0) 137 0 0) (P := P) hw (by rw [wI_row (by omega), wI_row (by omega), wI_row (by omega), Kp_142 ha]; exact hb) hv (-1) (fun q => z_ch (nI q) 12) (fun N q _ => f_ch12 (by omega) N (nI q))
  exact ⟨N, n1, n4, n2, n3⟩
theorem r_plN {M A N : z_Mem} (h : r_Rel M) (ha : Kp M A) (h1 : ∀ a, a ≠ 145 → a ≠ 146 → N.1 a = (z_wI (z_wI (z_wI A 0 11 0) 137 1 0) 137 0 0).1 a) (h2 : N.2 = A.2) : r_Rel N := by
  refine r_pl h 0 ha (fun a h3 h4 h5 => ?_) ?_ (fun k h3 h4 _ => ?_) h2
  · rw [h1 a h3 h4]
    simp (maxSteps := 2000000) (decide := true) (disch := omega) only [bindS, wI_row, wI_slot, wI_same, wI_2, nI_p0, false_or, nle_f, nI_cl, n_lad, n_adl, nI_add, if_true, if_false, ite_true, ite_false, ↓reduceIte]
  · rw [h1 137 (by omega) (by omega)]
    simp (maxSteps := 2000000) (decide := true) (disch := omega) only [bindS, wI_row, wI_slot, wI_same, wI_2, nI_p0, false_or, nle_f, nI_cl, n_lad, n_adl, nI_add, if_true, if_false, ite_true, ite_false, ↓reduceIte]
  · rw [h1 137 (by omega) (by omega)]
    simp (maxSteps := 2000000) (decide := true) (disch := omega) only [bindS, wI_row, wI_slot, wI_same, wI_2, nI_p0, false_or, nle_f, nI_cl, n_lad, n_adl, nI_add, if_true, if_false, ite_true, ite_false, ↓reduceIte]
theorem r_plR {M A N : z_Mem} (h : r_Rel M) (v : Int32) (ha : Kp M A) (h1 : ∀ a, a ≠ 145 → a ≠ 146 → N.1 a = (z_wI (z_wI (z_wI A 0 11 v) 137 1 0) 137 0 0).1 a) (h2 : N.2 = A.2) : r_Rel (z_wI N 137 0 v) := by
  refine r_pl h v ha (fun a h3 h4 h5 => ?_) ?_ (fun k h3 h4 _ => ?_) h2
  · rw [wI_row h5, h1 a h3 h4]
    simp (maxSteps := 2000000) (decide := true) (disch := omega) only [bindS, wI_row, wI_slot, wI_same, wI_2, nI_p0, false_or, nle_f, nI_cl, n_lad, n_adl, nI_add, if_true, if_false, ite_true, ite_false, ↓reduceIte]
  · simp (maxSteps := 2000000) (decide := true) (disch := omega) only [bindS, wI_row, wI_slot, wI_same, wI_2, nI_p0, false_or, nle_f, nI_cl, n_lad, n_adl, nI_add, if_true, if_false, ite_true, ite_false, ↓reduceIte]
  · rw [wI_slot h3, h1 137 (by omega) (by omega)]
    simp (maxSteps := 2000000) (decide := true) (disch := omega) only [bindS, wI_row, wI_slot, wI_same, wI_2, nI_p0, false_or, nle_f, nI_cl, n_lad, n_adl, nI_add, if_true, if_false, ite_true, ite_false, ↓reduceIte]
theorem lw_best (hw : 1000 ≤ w) {A N : z_Mem} {P : t_P} (ha : W_c A P) (hn : Qn N P) (m : Int32) : ∀ (k i c c' b : Nat), i + k = 4096 → k < c → k < c' → b < 4096 → ∃ r, r < 4096 ∧ L_X5_bestWithin w c A m (nI b) (gN P b) (nI i) = some (nI r, A) ∧ L_X12_best w c' N m (nI b) (nI i) = some (nI r, N) := by
  intro k
  induction k with
  | zero =>
    intro i c c' b h1 h2 h3 hb
    obtain ⟨c, rfl⟩ : ∃ x, c = x + 1 := ⟨c - 1, by omega⟩
    obtain ⟨c', rfl⟩ : ∃ x, c' = x + 1 := ⟨c' - 1, by omega⟩
    obtain rfl : i = 4096 := by omega
    refine ⟨b, hb, ?_, ?_⟩
    · rw [L_X5_bestWithin, if_pos (by decide)]
    · rw [L_X12_best, if_pos (by decide)]
  | succ k ih =>
    intro i c c' b h1 h2 h3 hb
    obtain ⟨c, rfl⟩ : ∃ x, c = x + 1 := ⟨c - 1, by omega⟩
    obtain ⟨c', rfl⟩ : ∃ x, c' = x + 1 := ⟨c' - 1, by omega⟩
    have q1 := hn i (by omega)
    have q2 := hn b hb
    have f1 := f_net5 (w := w) ha (q := i) (by omega)
    rw [L_X5_bestWithin, if_neg (lt4096 (by omega)), f_ch5 A (by omega), bindS, L_X12_best, if_neg (ge4096 (by omega)), f_ch12 hw, bindS, nI_11]
    by_cases g : m < z_ch (nI i) 12
    · rw [if_pos g, if_pos g]
      exact ih (i + 1) c c' b (by omega) (by omega) (by omega) hb
    · rw [if_neg g, if_neg g, f1, bindS, if_neg (nI_pos (n := b) (by omega)), if_neg (n_in (by omega) (by omega)), if_neg (n_in (by omega) (by omega)), nI_clamp (by omega), nI_clamp (by omega), q1.2.2, q2.2.2, f1, bindS]
      by_cases g2 : gN P i ≤ gN P b
      · rw [if_pos g2, if_pos g2]
        exact ih (i + 1) c c' b (by omega) (by omega) (by omega) hb
      · rw [if_neg g2, if_neg g2]
        exact ih (i + 1) c c' i (by omega) (by omega) (by omega) (by omega)
theorem c_best {A : z_Mem} {P : t_P} (ha : W_c A P) {m : Int32} {x : Option (Int32 × z_Mem)} (h : L_X5_bestWithin w w A m 0 (gN P 0) 1 = x) : F_X5_bestWithin w A m = x := by
  have f1 : F_X5_netOf w A 0 = some (gN P 0, A) := f_net5 (w := w) ha (q := 0) (by omega)
  unfold F_X5_bestWithin
  rw [f1, bindS]
  exact h
theorem m_best (hw : 10000 ≤ w) {N : z_Mem} {m : Int32} (hm : 0 ≤ m) {x : Option (Int32 × z_Mem)} (c : Nat) (h : L_X12_best w c N m 0 1 = x) : L_X12_best w (c + 1) N m (-1) 0 = x := by
  have e : F_X12_changesOf w N 0 (-1) = some (0, N) := by
    rw [f_ch12 (by omega)]
    have : z_ch 0 12 = 0 := by decide +kernel
    rw [this]
  rw [L_X12_best, if_neg (by decide), e, bindS, if_neg (i_nlt.mpr hm), if_pos (by decide)]
  exact h
variable {M : z_Mem}
theorem call_best (hw : 10000 ≤ w) (h : r_Rel M) (a : Int32) : r_ok (F_X11_best w M a) (fun M => F_X12_best w M a) := by
  obtain ⟨P, hc, hb, hv⟩ := h.2.2.2.2.2.2.1
  by_cases g : (0 : Int32) ≤ a ∧ a ≤ 12
  · have m1 := fun N => in_t (w := w) (M := N) (a := a) (B := 0) (C := 12) 0 12 rfl rfl g
    have w1 : ∀ N, F_X11_isWithin w N a 0 12 = some (true, N) := fun N => by rw [f_wi, decide_eq_true g]
    obtain ⟨A, a1, a2, a3⟩ := f_weigh (w := w) (by omega) hc hv
    obtain ⟨N, n1, n2, n3, n4⟩ := f_pN (w := w) hw hb hv a3 0
    obtain ⟨c', hc'⟩ : ∃ c', w = c' + 1 := ⟨w - 1, by omega⟩
    obtain ⟨r, r0, r1, r2⟩ := lw_best (w := w) (by omega) a2 n2 a 4095 1 w c' 0 (by omega) (by omega) (by omega) (by omega)
    have e1 := c_best a2 r1
    have e2 : L_X12_best w w N a (-1) 0 = some (nI r, N) := by
      have := m_best (w := w) hw g.1 c' r2
      rw [← hc'] at this
      exact this
    refine ⟨nI r, z_wI A 0 11 0, N, ?_, ?_, r_plN h a3 n3 n4⟩
    · simp (maxSteps := 2000000) (decide := true) (disch := omega) only [F_X11_best, F_X11_answer, w1, a1, e1, bindS, wI_row, wI_slot, wI_same, wI_2, nI_p0, false_or, nle_f, nI_cl, n_lad, n_adl, nI_add, if_true, if_false, ite_true, ite_false, ↓reduceIte]
    · simp (maxSteps := 2000000) (decide := true) (disch := omega) only [F_X12_best, m1, n1, e2, bindS, wI_row, wI_slot, wI_same, wI_2, nI_p0, false_or, nle_f, nI_cl, n_lad, n_adl, nI_add, if_true, if_false, ite_true, ite_false, ↓reduceIte]
  · have m1 := fun N => in_f (w := w) (M := N) (a := a) (B := 0) (C := 12) 0 12 rfl rfl g
    have w1 : ∀ N, F_X11_isWithin w N a 0 12 = some (false, N) := fun N => by rw [f_wi, decide_eq_false g]
    exact ⟨-1, z_wI M 0 11 5, z_st M 5, by simp (maxSteps := 2000000) (decide := true) (disch := omega) only [F_X11_best, F_X11_refuse, w1, Bool.false_eq_true, bindS, wI_row, wI_slot, wI_same, wI_2, nI_p0, false_or, nle_f, nI_cl, n_lad, n_adl, nI_add, if_true, if_false, ite_true, ite_false, ↓reduceIte], by simp (maxSteps := 2000000) (decide := true) (disch := omega) only [F_X12_best, F_X12_refuse, m1, z_st, wI_wI, Bool.false_eq_true, bindS, wI_row, wI_slot, wI_same, wI_2, nI_p0, false_or, nle_f, nI_cl, n_lad, n_adl, nI_add, if_true, if_false, ite_true, ite_false, ↓reduceIte], r_stv 5 h⟩
/-! fair ones, treaties -/
def q_fair (P : t_P) (q : Nat) : Bool := !decide (gG P 0 q < gG P 0 (4095 - q)) && !decide (gG P 1 q < gG P 1 (4095 - q))
theorem f_fair5 {A : z_Mem} {P : t_P} (ha : W_c A P) {q : Nat} (hq : q < 4096) : F_X5_isFair w A (nI q) = some (q_fair P q, A) := by
  have g0 : ∀ x, x < 4096 → F_X5_gainOf w A 0 (nI x) = some (gG P 0 x, A) := fun x hx => f_gain5 ha (s := 0) (by omega) hx
  have g1 : ∀ x, x < 4096 → F_X5_gainOf w A 1 (nI x) = some (gG P 1 x, A) := fun x hx => f_gain5 ha (s := 1) (by omega) hx
  unfold F_X5_isFair q_fair
  rw [(pl_ok hq).2.2, g0 _ (by omega), bindS, g0 q hq, bindS]
  by_cases e : gG P 0 q < gG P 0 (4095 - q)
  · rw [if_pos e, decide_eq_true e]; rfl
  · rw [if_neg e, decide_eq_false e, g1 _ (by omega), bindS, g1 q hq, bindS]
    by_cases e2 : gG P 1 q < gG P 1 (4095 - q)
    · rw [if_pos e2, decide_eq_true e2]; rfl
    · rw [if_neg e2, decide_eq_false e2]; rfl
theorem f_fair12 {N : z_Mem} {P : t_P} (hn : Qn N P) {q : Nat} (hq : q < 4096) : F_X12_isFair w N (nI q) = some (q_fair P q, N) := by
  obtain ⟨x1, x2, _⟩ := hn q hq
  obtain ⟨y1, y2, _⟩ := hn (4095 - q) (by omega)
  have e0 : (4095 : Int32) - nI q = nI (4095 - q) := pk_sub (a := 4095) (by omega)
  unfold F_X12_isFair q_fair
  rw [e0, show (4096 : Int32) = nI 4096 from rfl, nI_add, nI_add, if_neg (n_in (by omega) (by omega)), if_neg (n_in (by omega) (by omega)), if_neg (n_in (by omega) (by omega)), if_neg (n_in (by omega) (by omega)), nI_clamp (by omega), nI_clamp (by omega), nI_clamp (by omega), nI_clamp (by omega), x1, x2, y1, y2]
  by_cases e : gG P 0 q < gG P 0 (4095 - q)
  · rw [if_pos e, decide_eq_true e]; rfl
  · rw [if_neg e, decide_eq_false e]
    by_cases e2 : gG P 1 q < gG P 1 (4095 - q)
    · rw [if_pos e2, decide_eq_true e2]; rfl
    · rw [if_neg e2, decide_eq_false e2]; rfl
def tc (B : Nat → Int32) (war : Int32) (q m : Nat) : Bool := decide ((if q.testBit m = true then B ((1 * 12 + m) * 2 + 1) - B ((1 * 12 + m) * 2 + (1 - 1)) else B ((0 * 12 + m) * 2 + 0) - B ((0 * 12 + m) * 2 + (1 - 0))) ≤ war)
def tcs (B : Nat → Int32) (war : Int32) (q : Nat) : Nat → Bool
  | 0 => true
  | m + 1 => tcs B war q m && tc B war q m
theorem tcs_iff {B : Nat → Int32} {war : Int32} {q : Nat} : ∀ n, tcs B war q n = true ↔ ∀ m, m < n → tc B war q m = true := by
  intro n
  induction n with
  | zero => exact ⟨fun _ m hm => by omega, fun _ => rfl⟩
  | succ n ih =>
    rw [tcs, Bool.and_eq_true, ih]
    constructor
    · intro h m hm
      by_cases e : m = n
      · subst e; exact h.2
      · exact h.1 m (by omega)
    · intro h
      exact ⟨fun m hm => h m (by omega), h n (by omega)⟩
theorem b_zero {x : Int32} : x = 0 ↔ ∀ i, i < 32 → bt x i = false := by
  constructor
  · rintro rfl i _; exact b_0 i
  · intro h
    exact b_ext fun i hi => by rw [h i hi, b_0]
theorem f_tre5 {A : z_Mem} {P : t_P} (ha : W_c A P) (q : Nat) (hq : q < 4096) : F_X5_isTreaty w A (nI q) = some (tcs (A.1 60) (P.1 7) q 12, A) := by
  have z0 := ha.2.2.2.2 0 (by omega)
  have z1 := ha.2.2.2.2 1 (by omega)
  have h0 : (A.1 63 0 &&& (nI q ^^^ (-1))) = 0 ↔ ∀ m, m < 12 → q.testBit m = false → tc (A.1 60) (P.1 7) q m = true := by
    rw [z0, b_zero]
    constructor
    · intro h m hm g
      have := h m (by omega)
      rw [b_and, b_xor, b_m1 m (by omega), bt_nI (by omega), bt_fo (by omega) 12 (by omega), g] at this
      unfold tc
      rw [if_neg (by rw [g]; decide)]
      simpa [hm] using this
    · intro h i hi
      rw [b_and, b_xor, b_m1 i hi, bt_nI hi, bt_fo hi 12 (by omega)]
      by_cases hm : i < 12
      · cases g : q.testBit i
        · have := h i hm g
          unfold tc at this
          rw [if_neg (by rw [g]; decide)] at this
          simpa [hm] using this
        · simp
      · simp [hm]
  have h1 : (A.1 63 1 &&& nI q) = 0 ↔ ∀ m, m < 12 → q.testBit m = true → tc (A.1 60) (P.1 7) q m = true := by
    rw [z1, b_zero]
    constructor
    · intro h m hm g
      have := h m (by omega)
      rw [b_and, bt_nI (by omega), bt_fo (by omega) 12 (by omega), g] at this
      unfold tc
      rw [if_pos g]
      simpa [hm] using this
    · intro h i hi
      rw [b_and, bt_nI hi, bt_fo hi 12 (by omega)]
      by_cases hm : i < 12
      · cases g : q.testBit i
        · simp
        · have := h i hm g
          unfold tc at this
          rw [if_pos g] at this
          simpa [hm] using this
      · simp [hm]
  have hall : tcs (A.1 60) (P.1 7) q 12 = true ↔ (A.1 63 0 &&& (nI q ^^^ (-1))) = 0 ∧ (A.1 63 1 &&& nI q) = 0 := by
    rw [tcs_iff, h0, h1]
    constructor
    · intro h
      exact ⟨fun m hm _ => h m hm, fun m hm _ => h m hm⟩
    · intro h m hm
      cases g : q.testBit m
      · exact h.1 m hm g
      · exact h.2 m hm g
  unfold F_X5_isTreaty
  by_cases e0 : (A.1 63 0 &&& (nI q ^^^ (-1))) = 0
  · rw [if_pos e0]
    by_cases e1 : (A.1 63 1 &&& nI q) = 0
    · rw [if_pos e1, hall.mpr ⟨e0, e1⟩]
    · rw [if_neg e1]
      cases g : tcs (A.1 60) (P.1 7) q 12
      · rfl
      · exact absurd (hall.mp g).2 e1
  · rw [if_neg e0]
    cases g : tcs (A.1 60) (P.1 7) q 12
    · rfl
    · exact absurd (hall.mp g).1 e0
theorem n_pow2 {m : Nat} (hm : m < 31) : (1 : Int32) <<< (nI m &&& 31) = nI (2 ^ m) := by
  refine b_ext fun i hi => ?_
  rw [bt_sh (by omega) hi, bt_nI hi, Nat.testBit_two_pow]
  by_cases e : i = m
  · subst e; simp
  · rw [decide_eq_false e, decide_eq_false (fun x => e x.symm)]
theorem n_xor (a b : Nat) : nI a ^^^ nI b = nI (a ^^^ b) := b_ext fun i hi => by rw [b_xor, bt_nI hi, bt_nI hi, bt_nI hi, Nat.testBit_xor]
theorem n_or (a b : Nat) : nI a ||| nI b = nI (a ||| b) := b_ext fun i hi => by rw [b_or, bt_nI hi, bt_nI hi, bt_nI hi, Nat.testBit_or]
theorem n_and (a b : Nat) : nI a &&& nI b = nI (a &&& b) := b_ext fun i hi => by rw [b_and, bt_nI hi, bt_nI hi, bt_nI hi, Nat.testBit_and]
theorem zw_flip (q m k : Nat) : z_w (q ^^^ 2 ^ m) k = if k = m then 1 - z_w q m else z_w q k := by
  unfold z_w
  rw [Nat.testBit_xor, Nat.testBit_two_pow]
  by_cases e : k = m
  · subst e
    rw [decide_eq_true rfl, if_pos rfl]
    cases q.testBit k <;> rfl
  · rw [if_neg e, decide_eq_false (fun x => e x.symm), Bool.xor_false]
theorem T_flip (B : Nat → Int32) (s q m : Nat) : ∀ n, g_T B s (q ^^^ 2 ^ m) n = if m < n then g_T B s q n + (B ((s * 12 + m) * 2 + (1 - z_w q m)) - B ((s * 12 + m) * 2 + z_w q m)) else g_T B s q n := by
  intro n
  induction n with
  | zero => rw [if_neg (by omega)]; rfl
  | succ n ih =>
    rw [g_T, ih, g_T, zw_flip]
    by_cases e : n = m
    · subst e
      rw [if_neg (by omega), if_pos rfl, if_pos (by omega), i_alg]
    · rw [if_neg e]
      by_cases g : m < n
      · rw [if_pos g, if_pos (by omega), i_alg2]
      · rw [if_neg g, if_neg (by omega)]
theorem i_alg3 (a b : Int32) : a + b - a = b := by rw [Int32.add_comm, Int32.add_sub_cancel]
theorem ml_tre {A N : z_Mem} {P : t_P} (ha : W_c A P) (hn : Qn N P) (h7 : N.1 142 7 = P.1 7) {q : Nat} (hq : q < 4096) : ∀ (k m c : Nat), m + k = 12 → k < c → tcs (A.1 60) (P.1 7) q m = true → L_X12_isTreaty w c N (nI q) (nI m) = some (tcs (A.1 60) (P.1 7) q 12, N) := by
  intro k
  induction k with
  | zero =>
    intro m c h1 h2 h3
    obtain ⟨c, rfl⟩ : ∃ x, c = x + 1 := ⟨c - 1, by omega⟩
    obtain rfl : m = 12 := by omega
    rw [L_X12_isTreaty, if_pos (by decide), h3]
  | succ k ih =>
    intro m c h1 h2 h3
    obtain ⟨c, rfl⟩ : ∃ x, c = x + 1 := ⟨c - 1, by omega⟩
    have hx : q ^^^ 2 ^ m < 4096 := Nat.xor_lt_two_pow (n := 12) hq (Nat.pow_lt_pow_right (by omega) (by omega))
    obtain ⟨x1, x2, _⟩ := hn q hq
    obtain ⟨y1, y2, _⟩ := hn (q ^^^ 2 ^ m) hx
    have fl := fun s => T_flip (A.1 60) s q m 12
    have t0 := ha.2.2.1 0
    have t1 := ha.2.2.1 1
    have fin : tc (A.1 60) (P.1 7) q m = false → tcs (A.1 60) (P.1 7) q 12 = false := by
      intro g
      cases e : tcs (A.1 60) (P.1 7) q 12
      · rfl
      · have := (tcs_iff 12).mp e m (by omega)
        rw [g] at this
        exact this.symm
    have nx : tc (A.1 60) (P.1 7) q m = true → tcs (A.1 60) (P.1 7) q (m + 1) = true := fun g => by rw [tcs, h3, g]; rfl
    rw [L_X12_isTreaty, if_neg (ge12 (by omega)), f_has12, bindS, n_pow2 (by omega), n_xor, show (4096 : Int32) = nI 4096 from rfl, nI_add, nI_add, Int32.zero_add, Int32.zero_add]
    dsimp only
    cases g : q.testBit m
    · have gb : ¬ ((nI q >>> (nI m &&& 31)) &&& 1) = 1 := fun e => by
        have := (bit_n (by omega)).mp e
        rw [g] at this
        exact absurd this (by decide)
      have zq : z_w q m = 1 := by unfold z_w; rw [g]; rfl
      have d : gG P 0 (q ^^^ 2 ^ m) - gG P 0 q = A.1 60 ((0 * 12 + m) * 2 + 0) - A.1 60 ((0 * 12 + m) * 2 + (1 - 0)) := by
        rw [← t0 _ (by omega), ← t0 _ (by omega), fl 0, if_pos (by omega), zq, i_alg3]
      have tce : tc (A.1 60) (P.1 7) q m = decide (gG P 0 (q ^^^ 2 ^ m) - gG P 0 q ≤ P.1 7) := by
        unfold tc
        rw [if_neg (by rw [g]; decide), d]
      rw [if_neg (by rw [decide_eq_true_iff]; exact gb), if_neg (n_in (by omega) (by omega)), if_neg (n_in (by omega) (by omega)), nI_clamp (by omega), nI_clamp (by omega), x1, y1, h7, nI_11]
      by_cases u : gG P 0 (q ^^^ 2 ^ m) - gG P 0 q ≤ P.1 7
      · rw [if_pos u]
        exact ih (m + 1) c (by omega) (by omega) (nx (by rw [tce, decide_eq_true u]))
      · rw [if_neg u, fin (by rw [tce, decide_eq_false u])]
    · have gb : ((nI q >>> (nI m &&& 31)) &&& 1) = 1 := (bit_n (by omega)).mpr g
      have zq : z_w q m = 0 := by unfold z_w; rw [g]; rfl
      have d : gG P 1 (q ^^^ 2 ^ m) - gG P 1 q = A.1 60 ((1 * 12 + m) * 2 + 1) - A.1 60 ((1 * 12 + m) * 2 + (1 - 1)) := by
        rw [← t1 _ (by omega), ← t1 _ (by omega), fl 1, if_pos (by omega), zq, i_alg3]
      have tce : tc (A.1 60) (P.1 7) q m = decide (gG P 1 (q ^^^ 2 ^ m) - gG P 1 q ≤ P.1 7) := by
        unfold tc
        rw [if_pos g, d]
      rw [if_pos (decide_eq_true gb), if_neg (n_in (by omega) (by omega)), if_neg (n_in (by omega) (by omega)), nI_clamp (by omega), nI_clamp (by omega), x2, y2, h7, nI_11]
      by_cases u : gG P 1 (q ^^^ 2 ^ m) - gG P 1 q ≤ P.1 7
      · rw [if_pos u]
        exact ih (m + 1) c (by omega) (by omega) (nx (by rw [tce, decide_eq_true u]))
      · rw [if_neg u, fin (by rw [tce, decide_eq_false u])]
/-- class and reference alike: fair (0), a treaty (else) -/
def q_of (A : z_Mem) (P : t_P) (a : Int32) (q : Nat) : Bool := if a = 0 then q_fair P q else tcs (A.1 60) (P.1 7) q 12
theorem f_of5 {A : z_Mem} {P : t_P} (ha : W_c A P) (a : Int32) {q : Nat} (hq : q < 4096) : F_X5_isOf w A (nI q) a = some (q_of A P a q, A) := by
  unfold F_X5_isOf q_of
  by_cases e : a = 0
  · rw [if_pos e, if_pos e, f_fair5 ha hq, bindS]
  · rw [if_neg e, if_neg e, f_tre5 ha q hq, bindS]
theorem f_such (hw : 1000 ≤ w) {A N : z_Mem} {P : t_P} (ha : W_c A P) (hn : Qn N P) (h7 : N.1 142 7 = P.1 7) (a : Int32) {q : Nat} (hq : q < 4096) : F_X12_isSuch w N (nI q) a = some (q_of A P a q, N) := by
  have e1 : F_X12_isTreaty w N (nI q) = some (tcs (A.1 60) (P.1 7) q 12, N) := ml_tre (w := w) ha hn h7 hq 12 0 w (by omega) (by omega) rfl
  unfold F_X12_isSuch q_of
  by_cases e : a = 0
  · rw [if_pos e, if_pos e, f_fair12 hn hq, bindS]
  · rw [if_neg e, if_neg e, e1, bindS]
theorem lw_cnt (hw : 1000 ≤ w) {A N : z_Mem} {P : t_P} (ha : W_c A P) (hn : Qn N P) (h7 : N.1 142 7 = P.1 7) (a : Int32) : ∀ (k i c c' : Nat) (acc : Int32), i + k = 4096 → k < c → k < c' → ∃ r, L_X5_countOf w c A a acc (nI i) = some (r, A) ∧ L_X12_howMany w c' N a acc (nI i) = some (r, N) := by
  intro k
  induction k with
  | zero =>
    intro i c c' acc h1 h2 h3
    obtain ⟨c, rfl⟩ : ∃ x, c = x + 1 := ⟨c - 1, by omega⟩
    obtain ⟨c', rfl⟩ : ∃ x, c' = x + 1 := ⟨c' - 1, by omega⟩
    obtain rfl : i = 4096 := by omega
    refine ⟨acc, ?_, ?_⟩
    · rw [L_X5_countOf, if_pos (by decide)]
    · rw [L_X12_howMany, if_pos (by decide)]
  | succ k ih =>
    intro i c c' acc h1 h2 h3
    obtain ⟨c, rfl⟩ : ∃ x, c = x + 1 := ⟨c - 1, by omega⟩
    obtain ⟨c', rfl⟩ : ∃ x, c' = x + 1 := ⟨c' - 1, by omega⟩
    rw [L_X5_countOf, if_neg (lt4096 (by omega)), f_of5 ha a (by omega), bindS, L_X12_howMany, if_neg (ge4096 (by omega)), f_such hw ha hn h7 a (by omega), bindS, nI_11, Int32.add_zero]
    by_cases g : q_of A P a i = true
    · rw [if_pos g, if_pos g]
      exact ih (i + 1) c c' (acc + 1) (by omega) (by omega) (by omega)
    · rw [if_neg g, if_neg g]
      exact ih (i + 1) c c' acc (by omega) (by omega) (by omega)
theorem N_7 {A N : z_Mem} {P : t_P} {v : Int32} (hb : BP (M.1 142) P) (ha : Kp M A) (n3 : ∀ a, a ≠ 145 → a ≠ 146 → N.1 a = (z_wI (z_wI (z_wI A 0 11 v) 137 1 0) 137 0 0).1 a) : N.1 142 = M.1 142 := by
  rw [n3 142 (by omega) (by omega), wI_row (by omega), wI_row (by omega), wI_row (by omega), Kp_142 ha]
theorem call_isSo (hw : 10000 ≤ w) (h : r_Rel M) (a b : Int32) : r_ok (F_X11_isSo w M a b) (fun M => F_X12_isSo w M a b) := by
  obtain ⟨P, hc, hb, hv⟩ := h.2.2.2.2.2.2.1
  have ref : ∀ v : Int32, F_X11_isSo w M a b = some (-1, z_wI M 0 11 v) → F_X12_isSo w (z_wI M 0 11 v) a b = some (-1, z_st M v) → r_ok (F_X11_isSo w M a b) (fun M => F_X12_isSo w M a b) := fun v e1 e2 => ⟨-1, _, _, e1, e2, r_stv v h⟩
  by_cases g : (0 : Int32) ≤ a ∧ a ≤ 4095
  · have m1 := fun N => in_t (w := w) (M := N) (a := a) (B := 0) (C := 4095) 0 4095 rfl rfl g
    have w1 : ∀ N, F_X11_isPlan w N a = some (true, N) := fun N => by rw [f_pl, decide_eq_true g]
    by_cases g2 : (0 : Int32) ≤ b ∧ b ≤ 1
    · have m2 := fun N => in_t (w := w) (M := N) (a := b) (B := 0) (C := 1) 0 1 rfl rfl g2
      have w2 : ∀ N, F_X11_isWithin w N b 0 1 = some (true, N) := fun N => by rw [f_wi, decide_eq_true g2]
      obtain ⟨q, _, hq, rfl⟩ := (i_rng 0 4095 (by omega) (by omega)).mp g
      obtain ⟨A, a1, a2, a3⟩ := f_weigh (w := w) (by omega) hc hv
      obtain ⟨N, n1, n2, n3, n4⟩ := f_pN (w := w) hw hb hv a3 0
      have h7 : N.1 142 7 = P.1 7 := by rw [N_7 hb a3 n3]; exact hb.1.2.2.1
      have e1 := f_of5 (w := w) a2 b (q := q) (by omega)
      have e2 := f_such (w := w) (by omega) a2 n2 h7 b (q := q) (by omega)
      have hr := r_plN h a3 n3 n4
      cases e : q_of A P b q
      · rw [e] at e1 e2
        exact ⟨0, z_wI A 0 11 0, N, by simp (maxSteps := 2000000) (decide := true) (disch := omega) only [F_X11_isSo, F_X11_answer, w1, w2, a1, e1, Bool.false_eq_true, bindS, wI_row, wI_slot, wI_same, wI_2, nI_p0, false_or, nle_f, nI_cl, n_lad, n_adl, nI_add, if_true, if_false, ite_true, ite_false, ↓reduceIte], by simp (maxSteps := 2000000) (decide := true) (disch := omega) only [F_X12_isSo, F_X12_isPlan, m1, m2, n1, e2, Bool.false_eq_true, bindS, wI_row, wI_slot, wI_same, wI_2, nI_p0, false_or, nle_f, nI_cl, n_lad, n_adl, nI_add, if_true, if_false, ite_true, ite_false, ↓reduceIte], hr⟩
      · rw [e] at e1 e2
        exact ⟨1, z_wI A 0 11 0, N, by simp (maxSteps := 2000000) (decide := true) (disch := omega) only [F_X11_isSo, F_X11_answer, w1, w2, a1, e1, bindS, wI_row, wI_slot, wI_same, wI_2, nI_p0, false_or, nle_f, nI_cl, n_lad, n_adl, nI_add, if_true, if_false, ite_true, ite_false, ↓reduceIte], by simp (maxSteps := 2000000) (decide := true) (disch := omega) only [F_X12_isSo, F_X12_isPlan, m1, m2, n1, e2, bindS, wI_row, wI_slot, wI_same, wI_2, nI_p0, false_or, nle_f, nI_cl, n_lad, n_adl, nI_add, if_true, if_false, ite_true, ite_false, ↓reduceIte], hr⟩
    · have m2 := fun N => in_f (w := w) (M := N) (a := b) (B := 0) (C := 1) 0 1 rfl rfl g2
      have w2 : ∀ N, F_X11_isWithin w N b 0 1 = some (false, N) := fun N => by rw [f_wi, decide_eq_false g2]
      exact ref 5 (by simp (maxSteps := 2000000) (decide := true) (disch := omega) only [F_X11_isSo, F_X11_refuse, w1, w2, Bool.false_eq_true, bindS, wI_row, wI_slot, wI_same, wI_2, nI_p0, false_or, nle_f, nI_cl, n_lad, n_adl, nI_add, if_true, if_false, ite_true, ite_false, ↓reduceIte]) (by simp (maxSteps := 2000000) (decide := true) (disch := omega) only [F_X12_isSo, F_X12_isPlan, F_X12_refuse, m1, m2, z_st, wI_wI, Bool.false_eq_true, bindS, wI_row, wI_slot, wI_same, wI_2, nI_p0, false_or, nle_f, nI_cl, n_lad, n_adl, nI_add, if_true, if_false, ite_true, ite_false, ↓reduceIte])
  · have m1 := fun N => in_f (w := w) (M := N) (a := a) (B := 0) (C := 4095) 0 4095 rfl rfl g
    have w1 : ∀ N, F_X11_isPlan w N a = some (false, N) := fun N => by rw [f_pl, decide_eq_false g]
    exact ref 5 (by simp (maxSteps := 2000000) (decide := true) (disch := omega) only [F_X11_isSo, F_X11_refuse, w1, Bool.false_eq_true, bindS, wI_row, wI_slot, wI_same, wI_2, nI_p0, false_or, nle_f, nI_cl, n_lad, n_adl, nI_add, if_true, if_false, ite_true, ite_false, ↓reduceIte]) (by simp (maxSteps := 2000000) (decide := true) (disch := omega) only [F_X12_isSo, F_X12_isPlan, F_X12_refuse, m1, z_st, wI_wI, Bool.false_eq_true, bindS, wI_row, wI_slot, wI_same, wI_2, nI_p0, false_or, nle_f, nI_cl, n_lad, n_adl, nI_add, if_true, if_false, ite_true, ite_false, ↓reduceIte])
theorem call_howMany (hw : 10000 ≤ w) (h : r_Rel M) (a : Int32) : r_ok (F_X11_howMany w M a) (fun M => F_X12_howMany w M a) := by
  obtain ⟨P, hc, hb, hv⟩ := h.2.2.2.2.2.2.1
  by_cases g : (0 : Int32) ≤ a ∧ a ≤ 1
  · have m1 := fun N => in_t (w := w) (M := N) (a := a) (B := 0) (C := 1) 0 1 rfl rfl g
    have w1 : ∀ N, F_X11_isWithin w N a 0 1 = some (true, N) := fun N => by rw [f_wi, decide_eq_true g]
    obtain ⟨A, a1, a2, a3⟩ := f_weigh (w := w) (by omega) hc hv
    obtain ⟨N, n1, n2, n3, n4⟩ := f_pN (w := w) hw hb hv a3 0
    have h7 : N.1 142 7 = P.1 7 := by rw [N_7 hb a3 n3]; exact hb.1.2.2.1
    obtain ⟨r, r1, r2⟩ := lw_cnt (w := w) (by omega) a2 n2 h7 a 4096 0 w w 0 (by omega) (by omega) (by omega)
    have e1 : F_X5_countOf w A a = _ := r1
    have e2 : L_X12_howMany w w N a 0 0 = _ := r2
    refine ⟨r, z_wI A 0 11 0, N, ?_, ?_, r_plN h a3 n3 n4⟩
    · simp (maxSteps := 2000000) (decide := true) (disch := omega) only [F_X11_howMany, F_X11_answer, w1, a1, e1, bindS, wI_row, wI_slot, wI_same, wI_2, nI_p0, false_or, nle_f, nI_cl, n_lad, n_adl, nI_add, if_true, if_false, ite_true, ite_false, ↓reduceIte]
    · simp (maxSteps := 2000000) (decide := true) (disch := omega) only [F_X12_howMany, m1, n1, e2, bindS, wI_row, wI_slot, wI_same, wI_2, nI_p0, false_or, nle_f, nI_cl, n_lad, n_adl, nI_add, if_true, if_false, ite_true, ite_false, ↓reduceIte]
  · have m1 := fun N => in_f (w := w) (M := N) (a := a) (B := 0) (C := 1) 0 1 rfl rfl g
    have w1 : ∀ N, F_X11_isWithin w N a 0 1 = some (false, N) := fun N => by rw [f_wi, decide_eq_false g]
    exact ⟨-1, z_wI M 0 11 5, z_st M 5, by simp (maxSteps := 2000000) (decide := true) (disch := omega) only [F_X11_howMany, F_X11_refuse, w1, Bool.false_eq_true, bindS, wI_row, wI_slot, wI_same, wI_2, nI_p0, false_or, nle_f, nI_cl, n_lad, n_adl, nI_add, if_true, if_false, ite_true, ite_false, ↓reduceIte], by simp (maxSteps := 2000000) (decide := true) (disch := omega) only [F_X12_howMany, F_X12_refuse, m1, z_st, wI_wI, Bool.false_eq_true, bindS, wI_row, wI_slot, wI_same, wI_2, nI_p0, false_or, nle_f, nI_cl, n_lad, n_adl, nI_add, if_true, if_false, ite_true, ite_false, ↓reduceIte], r_stv 5 h⟩
theorem lw_bof (hw : 1000 ≤ w) {A N : z_Mem} {P : t_P} (hv : VP P) (ha : W_c A P) (hn : Qn N P) (h7 : N.1 142 7 = P.1 7) (a : Int32) : ∀ (k i c c' : Nat) (x y : Int32), i + k = 4096 → k < c → k < c' → ((x = -1 ∧ y = -1000000) ∨ ∃ b, b < 4096 ∧ x = nI b ∧ y = gN P b) → (L_X5_bestAmong w c A a x y (nI i) = some (-1, A) ∧ L_X12_bestOf w c' N a x (nI i) = some (-1, z_wI N 137 0 8)) ∨ ∃ r, r < 4096 ∧ L_X5_bestAmong w c A a x y (nI i) = some (nI r, A) ∧ L_X12_bestOf w c' N a x (nI i) = some (nI r, N) := by
  intro k
  induction k with
  | zero =>
    intro i c c' x y h1 h2 h3 h4
    obtain ⟨c, rfl⟩ : ∃ x, c = x + 1 := ⟨c - 1, by omega⟩
    obtain ⟨c', rfl⟩ : ∃ x, c' = x + 1 := ⟨c' - 1, by omega⟩
    obtain rfl : i = 4096 := by omega
    rw [L_X5_bestAmong, if_pos (by decide), L_X12_bestOf, if_pos (by decide)]
    rcases h4 with ⟨rfl, rfl⟩ | ⟨b, hb, rfl, rfl⟩
    · left
      refine ⟨rfl, ?_⟩
      rw [if_neg (by decide)]
      rfl
    · right
      refine ⟨b, hb, rfl, ?_⟩
      rw [if_pos (nI_pos' (by omega))]
  | succ k ih =>
    intro i c c' x y h1 h2 h3 h4
    obtain ⟨c, rfl⟩ : ∃ x, c = x + 1 := ⟨c - 1, by omega⟩
    obtain ⟨c', rfl⟩ : ∃ x, c' = x + 1 := ⟨c' - 1, by omega⟩
    have q1 := hn i (by omega)
    have f1 := f_net5 (w := w) ha (q := i) (by omega)
    have f2 := f_of5 (w := w) ha a (q := i) (by omega)
    have same := ih (i + 1) c c' x y (by omega) (by omega) (by omega) h4
    have new := ih (i + 1) c c' (nI i) (gN P i) (by omega) (by omega) (by omega) (Or.inr ⟨i, by omega, rfl, rfl⟩)
    rw [L_X5_bestAmong, if_neg (lt4096 (by omega)), f1, bindS, L_X12_bestOf, if_neg (ge4096 (by omega)), f_such hw ha hn h7 a (by omega), bindS, nI_11]
    rcases h4 with ⟨rfl, rfl⟩ | ⟨b, hb, rfl, rfl⟩
    · rw [if_neg (gN_rng hv (by omega)), f2, bindS]
      by_cases g : q_of A P a i = true
      · rw [if_pos g, if_pos g, if_pos (by decide), f1, bindS]
        exact new
      · rw [if_neg g, if_neg g]
        exact same
    · have q2 := hn b hb
      rw [if_neg (nI_pos (n := b) (by omega)), if_neg (n_in (by omega) (by omega)), if_neg (n_in (by omega) (by omega)), nI_clamp (by omega), nI_clamp (by omega), q1.2.2, q2.2.2]
      by_cases g2 : gN P i ≤ gN P b
      · rw [if_pos g2, if_pos g2]
        by_cases g : q_of A P a i = true
        · rw [if_pos g]; exact same
        · rw [if_neg g]; exact same
      · rw [if_neg g2, if_neg g2, f2, bindS]
        by_cases g : q_of A P a i = true
        · rw [if_pos g, if_pos g, f1, bindS]
          exact new
        · rw [if_neg g, if_neg g]
          exact same
theorem nI_nm1 {n : Nat} (h : n < 2 ^ 31) : ¬ nI n = -1 := fun e => by
  have := nI_pos (n := n) h
  rw [e] at this
  exact this (by decide)
theorem call_bestOf (hw : 10000 ≤ w) (h : r_Rel M) (a : Int32) : r_ok (F_X11_bestOf w M a) (fun M => F_X12_bestOf w M a) := by
  obtain ⟨P, hc, hb, hv⟩ := h.2.2.2.2.2.2.1
  by_cases g : (0 : Int32) ≤ a ∧ a ≤ 1
  · have m1 := fun N => in_t (w := w) (M := N) (a := a) (B := 0) (C := 1) 0 1 rfl rfl g
    have w1 : ∀ N, F_X11_isWithin w N a 0 1 = some (true, N) := fun N => by rw [f_wi, decide_eq_true g]
    obtain ⟨A, a1, a2, a3⟩ := f_weigh (w := w) (by omega) hc hv
    have key : ∀ v : Int32, ∃ N, F_X12_laysPlans w (z_wI (z_wI (z_wI A 0 11 v) 137 1 0) 137 0 0) (-1) = some ((), N) ∧ (∀ a, a ≠ 145 → a ≠ 146 → N.1 a = (z_wI (z_wI (z_wI A 0 11 v) 137 1 0) 137 0 0).1 a) ∧ N.2 = A.2 ∧ ((F_X5_bestAmong w A a = some (-1, A) ∧ L_X12_bestOf w w N a (-1) 0 = some (-1, z_wI N 137 0 8)) ∨ ∃ r, r < 4096 ∧ F_X5_bestAmong w A a = some (nI r, A) ∧ L_X12_bestOf w w N a (-1) 0 = some (nI r, N)) := by
      intro v
      obtain ⟨N, n1, n2, n3, n4⟩ := f_pN (w := w) hw hb hv a3 v
      have h7 : N.1 142 7 = P.1 7 := by rw [N_7 hb a3 n3]; exact hb.1.2.2.1
      exact ⟨N, n1, n3, n4, lw_bof (w := w) (by omega) hv a2 n2 h7 a 4096 0 w w (-1) (-1000000) (by omega) (by omega) (by omega) (Or.inl ⟨rfl, rfl⟩)⟩
    obtain ⟨N, n1, n3, n4, r⟩ := key 0
    rcases r with ⟨r1, r2⟩ | ⟨r, r0, r1, r2⟩
    · obtain ⟨N, n1, n3, n4, r⟩ := key 8
      rcases r with ⟨_, r2⟩ | ⟨r, r0, r3, r2⟩
      · refine ⟨-1, z_wI A 0 11 8, z_wI N 137 0 8, ?_, ?_, r_plR h 8 a3 n3 n4⟩
        · simp (maxSteps := 2000000) (decide := true) (disch := omega) only [F_X11_bestOf, F_X11_refuse, w1, a1, r1, bindS, wI_row, wI_slot, wI_same, wI_2, nI_p0, false_or, nle_f, nI_cl, n_lad, n_adl, nI_add, if_true, if_false, ite_true, ite_false, ↓reduceIte]
        · simp (maxSteps := 2000000) (decide := true) (disch := omega) only [F_X12_bestOf, m1, n1, r2, bindS, wI_row, wI_slot, wI_same, wI_2, nI_p0, false_or, nle_f, nI_cl, n_lad, n_adl, nI_add, if_true, if_false, ite_true, ite_false, ↓reduceIte]
      · rw [r1] at r3
        simp only [Option.some.injEq, Prod.mk.injEq] at r3
        exact absurd r3.1.symm (nI_nm1 (by omega))
    · have x := nI_nm1 (n := r) (by omega)
      refine ⟨nI r, z_wI A 0 11 0, N, ?_, ?_, r_plN h a3 n3 n4⟩
      · simp (maxSteps := 2000000) (decide := true) (disch := omega) only [F_X11_bestOf, F_X11_answer, w1, a1, r1, x, bindS, wI_row, wI_slot, wI_same, wI_2, nI_p0, false_or, nle_f, nI_cl, n_lad, n_adl, nI_add, if_true, if_false, ite_true, ite_false, ↓reduceIte]
      · simp (maxSteps := 2000000) (decide := true) (disch := omega) only [F_X12_bestOf, m1, n1, r2, bindS, wI_row, wI_slot, wI_same, wI_2, nI_p0, false_or, nle_f, nI_cl, n_lad, n_adl, nI_add, if_true, if_false, ite_true, ite_false, ↓reduceIte]
  · have m1 := fun N => in_f (w := w) (M := N) (a := a) (B := 0) (C := 1) 0 1 rfl rfl g
    have w1 : ∀ N, F_X11_isWithin w N a 0 1 = some (false, N) := fun N => by rw [f_wi, decide_eq_false g]
    exact ⟨-1, z_wI M 0 11 5, z_st M 5, by simp (maxSteps := 2000000) (decide := true) (disch := omega) only [F_X11_bestOf, F_X11_refuse, w1, Bool.false_eq_true, bindS, wI_row, wI_slot, wI_same, wI_2, nI_p0, false_or, nle_f, nI_cl, n_lad, n_adl, nI_add, if_true, if_false, ite_true, ite_false, ↓reduceIte], by simp (maxSteps := 2000000) (decide := true) (disch := omega) only [F_X12_bestOf, F_X12_refuse, m1, z_st, wI_wI, Bool.false_eq_true, bindS, wI_row, wI_slot, wI_same, wI_2, nI_p0, false_or, nle_f, nI_cl, n_lad, n_adl, nI_add, if_true, if_false, ite_true, ite_false, ↓reduceIte], r_stv 5 h⟩
def g_le (P : t_P) (q : Nat) : Int32 := if gG P 1 q < gG P 0 q then gG P 1 q else gG P 0 q
theorem f_less {N : z_Mem} {P : t_P} (hn : Qn N P) {q : Nat} (hq : q < 4096) : F_X12_lesser w N (nI q) = some (g_le P q, N) := by
  obtain ⟨x1, x2, _⟩ := hn q hq
  unfold F_X12_lesser g_le
  rw [show (4096 : Int32) = nI 4096 from rfl, nI_add, if_neg (n_in (by omega) (by omega)), if_neg (n_in (by omega) (by omega)), nI_clamp (by omega), nI_clamp (by omega), x1, x2]
theorem lw_even {A N : z_Mem} {P : t_P} (ha : W_c A P) (hn : Qn N P) : ∀ (k i c c' b : Nat), i + k = 4096 → k < c → k < c' → b < 4096 → ∃ r, r < 4096 ∧ L_X5_evenPlan w c A (nI b) (g_le P b) (nI i) = some (nI r, A) ∧ L_X12_even w c' N (nI b) (nI i) = some (nI r, N) := by
  intro k
  induction k with
  | zero =>
    intro i c c' b h1 h2 h3 hb
    obtain ⟨c, rfl⟩ : ∃ x, c = x + 1 := ⟨c - 1, by omega⟩
    obtain ⟨c', rfl⟩ : ∃ x, c' = x + 1 := ⟨c' - 1, by omega⟩
    obtain rfl : i = 4096 := by omega
    refine ⟨b, hb, ?_, ?_⟩
    · rw [L_X5_evenPlan, if_pos (by decide)]
    · rw [L_X12_even, if_pos (by decide)]
  | succ k ih =>
    intro i c c' b h1 h2 h3 hb
    obtain ⟨c, rfl⟩ : ∃ x, c = x + 1 := ⟨c - 1, by omega⟩
    obtain ⟨c', rfl⟩ : ∃ x, c' = x + 1 := ⟨c' - 1, by omega⟩
    have g0 : F_X5_gainOf w A 0 (nI i) = some (gG P 0 i, A) := f_gain5 ha (s := 0) (by omega) (by omega)
    have g1 : F_X5_gainOf w A 1 (nI i) = some (gG P 1 i, A) := f_gain5 ha (s := 1) (by omega) (by omega)
    rw [L_X5_evenPlan, if_neg (lt4096 (by omega)), g0, bindS, g1, bindS, L_X12_even, if_neg (ge4096 (by omega)), f_less hn (by omega), bindS, f_less hn hb, bindS, nI_11]
    show ∃ r, r < 4096 ∧ (if g_le P i ≤ g_le P b then _ else L_X5_evenPlan w c A (nI i) (g_le P i) (nI (i + 1))) = _ ∧ _
    by_cases g : g_le P i ≤ g_le P b
    · rw [if_pos g, if_pos g]
      exact ih (i + 1) c c' b (by omega) (by omega) (by omega) hb
    · rw [if_neg g, if_neg g]
      exact ih (i + 1) c c' i (by omega) (by omega) (by omega) (by omega)
theorem call_even (hw : 10000 ≤ w) (h : r_Rel M) : r_ok (F_X11_even w M) (F_X12_even w) := by
  obtain ⟨P, hc, hb, hv⟩ := h.2.2.2.2.2.2.1
  obtain ⟨A, a1, a2, a3⟩ := f_weigh (w := w) (by omega) hc hv
  obtain ⟨N, n1, n2, n3, n4⟩ := f_pN (w := w) hw hb hv a3 0
  obtain ⟨c, hc'⟩ : ∃ c', w = c' + 1 := ⟨w - 1, by omega⟩
  obtain ⟨r, r0, r1, r2⟩ := lw_even (w := w) a2 n2 4095 1 c w 0 (by omega) (by omega) (by omega) (by omega)
  have g0 : F_X5_gainOf w A 0 0 = some (gG P 0 0, A) := f_gain5 a2 (s := 0) (q := 0) (by omega) (by omega)
  have g1 : F_X5_gainOf w A 1 0 = some (gG P 1 0, A) := f_gain5 a2 (s := 1) (q := 0) (by omega) (by omega)
  have low : ¬ g_le P 0 ≤ -1000000 := by
    obtain ⟨n, hn, e1⟩ := gG_rng hv 0 0
    obtain ⟨m, hm, e2⟩ := gG_rng hv 1 0
    have key : ∀ x, x ≤ 4800 → ¬ nI x ≤ -1000000 := fun x hx y => by
      have z : (-1000000 : Int32).toInt = -1000000 := rfl
      have := Int32.le_iff_toInt_le.mp y
      rw [nI_toInt (by omega), z] at this
      omega
    unfold g_le
    rw [e1, e2]
    split
    · exact key m hm
    · exact key n hn
  have e1 : F_X5_evenPlan w A = some (nI r, A) := by
    have : L_X5_evenPlan w (c + 1) A 0 (-1000000) 0 = some (nI r, A) := by
      rw [L_X5_evenPlan, if_neg (by decide), g0, bindS, g1, bindS]
      show (if g_le P 0 ≤ -1000000 then _ else L_X5_evenPlan w c A 0 (g_le P 0) 1) = _
      rw [if_neg low]
      exact r1
    rw [← hc'] at this
    exact this
  have e2 : L_X12_even w w N 0 1 = _ := r2
  refine ⟨nI r, z_wI A 0 11 0, N, ?_, ?_, r_plN h a3 n3 n4⟩
  · simp (maxSteps := 2000000) (decide := true) (disch := omega) only [F_X11_even, F_X11_answer, a1, e1, bindS, wI_row, wI_slot, wI_same, wI_2, nI_p0, false_or, nle_f, nI_cl, n_lad, n_adl, nI_add, if_true, if_false, ite_true, ite_false, ↓reduceIte]
  · simp (maxSteps := 2000000) (decide := true) (disch := omega) only [F_X12_even, n1, e2, bindS, wI_row, wI_slot, wI_same, wI_2, nI_p0, false_or, nle_f, nI_cl, n_lad, n_adl, nI_add, if_true, if_false, ite_true, ite_false, ↓reduceIte]
end
