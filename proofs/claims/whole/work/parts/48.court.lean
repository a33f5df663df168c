def q_brk (q : t_C) (x : Int32) : Nat → Int32
  | 0 => 0
  | i + 1 => if (q.2.1.2 0 i &&& x) = 0 ∧ (q.2.1.2 1 i &&& (x ^^^ (-1))) = 0 then q_brk q x i ||| ((1 : Int32) <<< (nI i &&& 31)) else q_brk q x i
theorem or_bit : ∀ i, i < 8 → ∀ n, n < 256 → (nI n ||| ((1 : Int32) <<< (nI i &&& 31))) = nI (n ||| 2 ^ i) := by decide +kernel
theorem brk_lt (q : t_C) (x : Int32) : ∀ i, i ≤ 8 → ∃ n, n < 256 ∧ q_brk q x i = nI n := by
  intro i
  induction i with
  | zero => intro _; exact ⟨0, by omega, rfl⟩
  | succ i ih =>
    intro h
    obtain ⟨n, hn, e⟩ := ih (by omega)
    rw [q_brk]
    by_cases g : (q.2.1.2 0 i &&& x) = 0 ∧ (q.2.1.2 1 i &&& (x ^^^ (-1))) = 0
    · rw [if_pos g, e]
      refine ⟨n ||| 2 ^ i, Nat.or_lt_two_pow (n := 8) hn (Nat.pow_lt_pow_right (by omega) (by omega)), or_bit i (by omega) n hn⟩
    · rw [if_neg g]; exact ⟨n, hn, e⟩
theorem q_pow : ∀ n, n ≤ 6 → (1 : Int32) <<< (nI n &&& 31) = nI (2 ^ n) := by decide +kernel
theorem q_p64 {n : Nat} (h : n ≤ 6) : 1 ≤ 2 ^ n ∧ 2 ^ n ≤ 64 := ⟨Nat.two_pow_pos n, show 2 ^ n ≤ 2 ^ 6 from Nat.pow_le_pow_right (by omega) h⟩
section
variable {w : Nat}
theorem ml_size {M : z_Mem} {x : Int32} : ∀ (m k c : Nat), k + m = 12 → m < c → L_X12_sizeOf w c M x (z_szl x k) (nI k) = some (z_szl x 12, M) := by
  intro m
  induction m with
  | zero =>
    intro k c h1 h2
    obtain ⟨c, rfl⟩ : ∃ x, c = x + 1 := ⟨c - 1, by omega⟩
    obtain rfl : k = 12 := by omega
    rw [L_X12_sizeOf, if_pos (by decide)]
  | succ m ih =>
    intro k c h1 h2
    obtain ⟨c, rfl⟩ : ∃ x, c = x + 1 := ⟨c - 1, by omega⟩
    have r := ih (k + 1) c (by omega) (by omega)
    rw [L_X12_sizeOf, if_neg (ge12 (by omega))]
    by_cases g : ((x >>> (nI k &&& 31)) &&& 1) = 1
    · rw [z_szl, if_pos g] at r
      simp (maxSteps := 2000000) (decide := true) (disch := omega) only [F_X12_has, g, nI_11, bindS, wI_row, wI_slot, wI_same, wI_2, nI_p0, false_or, nle_f, nI_cl, n_lad, n_adl, nI_add, if_true, if_false, ite_true, ite_false, ↓reduceIte]
      exact r
    · rw [z_szl, if_neg g] at r
      simp (maxSteps := 2000000) (decide := true) (disch := omega) only [F_X12_has, g, nI_11, Int32.add_zero, Bool.false_eq_true, bindS, wI_row, wI_slot, wI_same, wI_2, nI_p0, false_or, nle_f, nI_cl, n_lad, n_adl, nI_add, if_true, if_false, ite_true, ite_false, ↓reduceIte]
      exact r
theorem f_size (hw : 1000 ≤ w) {n : Nat} (hn : n < 4096) (M : z_Mem) : F_X12_sizeOf w M (nI n) = some (nI (n_cnt n 12), M) := by
  rw [← (bc_ok hn).2]
  exact ml_size 12 0 w (by omega) (by omega)
theorem f_bcn {n : Nat} (hn : n < 4096) (M : z_Mem) : F_J6_bitCount_0f7a4 w M (nI n) = some (nI (n_cnt n 12), M) := by
  rw [f_bc, (bc_ok hn).1]
theorem f_cnt (hw : 1000 ≤ w) {n : Nat} (hn : n < 4096) : ∃ u, u ≤ 12 ∧ (∀ M, F_J6_bitCount_0f7a4 w M (nI n) = some (nI u, M)) ∧ ∀ M, F_X12_sizeOf w M (nI n) = some (nI u, M) :=
  ⟨n_cnt n 12, n_cnt_le n 12, fun M => f_bcn hn M, fun M => f_size hw hn M⟩
theorem cl_brk {M : z_Mem} {p : Nat} {q : t_C} (h : C_c M p q) (hv : VC q) (x : Int32) : ∀ (m i c : Nat), i + m = q.2.1.1 → m < c → L_X0_brokenBy w p c M x (q_brk q x i) (nI i) = some (q_brk q x q.2.1.1, M) := by
  have h8 := hv.2.1
  have hc : M.1 (p + 12) 5 = nI q.2.1.1 := h.2.1
  intro m
  induction m with
  | zero =>
    intro i c h1 h2
    obtain ⟨c, rfl⟩ : ∃ x, c = x + 1 := ⟨c - 1, by omega⟩
    obtain rfl : i = q.2.1.1 := by omega
    rw [L_X0_brokenBy, hc, if_pos (nI_le (by omega) (by omega))]
  | succ m ih =>
    intro i c h1 h2
    obtain ⟨c, rfl⟩ : ∃ x, c = x + 1 := ⟨c - 1, by omega⟩
    have r := ih (i + 1) c (by omega) (by omega)
    obtain ⟨g1, g2⟩ := h.2.2.2.1 i (by omega)
    rw [L_X0_brokenBy, hc, if_neg (nI_ge (by omega) (by omega))]
    by_cases e1 : (q.2.1.2 0 i &&& x) = 0
    · by_cases e2 : (q.2.1.2 1 i &&& (x ^^^ (-1))) = 0
      · rw [q_brk, if_pos ⟨e1, e2⟩] at r
        simp (maxSteps := 2000000) (decide := true) (disch := omega) only [g1, g2, e1, e2, nI_11, bindS, wI_row, wI_slot, wI_same, wI_2, nI_p0, false_or, nle_f, nI_cl, n_lad, n_adl, nI_add, if_true, if_false, ite_true, ite_false, ↓reduceIte]
        exact r
      · rw [q_brk, if_neg (fun e => e2 e.2)] at r
        simp (maxSteps := 2000000) (decide := true) (disch := omega) only [g1, g2, e1, e2, nI_11, bindS, wI_row, wI_slot, wI_same, wI_2, nI_p0, false_or, nle_f, nI_cl, n_lad, n_adl, nI_add, if_true, if_false, ite_true, ite_false, ↓reduceIte]
        exact r
    · rw [q_brk, if_neg (fun e => e1 e.1)] at r
      simp (maxSteps := 2000000) (decide := true) (disch := omega) only [g1, g2, e1, nI_11, bindS, wI_row, wI_slot, wI_same, wI_2, nI_p0, false_or, nle_f, nI_cl, n_lad, n_adl, nI_add, if_true, if_false, ite_true, ite_false, ↓reduceIte]
      exact r
theorem ml_brk {M : z_Mem} {q : t_C} (h : BC (M.1 142) q) (hv : VC q) (x : Int32) : ∀ (m i c : Nat), i + m = q.2.1.1 → m < c → L_X12_brokenBy w c M x (q_brk q x i) (nI i) = some (q_brk q x q.2.1.1, M) := by
  have h8 := hv.2.1
  have hc : M.1 142 3 = nI q.2.1.1 := h.2.1
  intro m
  induction m with
  | zero =>
    intro i c h1 h2
    obtain ⟨c, rfl⟩ : ∃ x, c = x + 1 := ⟨c - 1, by omega⟩
    obtain rfl : i = q.2.1.1 := by omega
    rw [L_X12_brokenBy, hc, if_pos (nI_le (by omega) (by omega))]
  | succ m ih =>
    intro i c h1 h2
    obtain ⟨c, rfl⟩ : ∃ x, c = x + 1 := ⟨c - 1, by omega⟩
    have r := ih (i + 1) c (by omega) (by omega)
    obtain ⟨g1, g2⟩ := h.2.2.2.1 i (by omega)
    rw [L_X12_brokenBy, hc, if_neg (nI_ge (by omega) (by omega))]
    by_cases e1 : (q.2.1.2 0 i &&& x) = 0
    · by_cases e2 : (q.2.1.2 1 i &&& (x ^^^ (-1))) = 0
      · rw [q_brk, if_pos ⟨e1, e2⟩] at r
        simp (maxSteps := 2000000) (decide := true) (disch := omega) only [k_75, k_83, g1, g2, e1, e2, nI_11, bindS, wI_row, wI_slot, wI_same, wI_2, nI_p0, false_or, nle_f, nI_cl, n_lad, n_adl, nI_add, if_true, if_false, ite_true, ite_false, ↓reduceIte]
        exact r
      · rw [q_brk, if_neg (fun e => e2 e.2)] at r
        simp (maxSteps := 2000000) (decide := true) (disch := omega) only [k_75, k_83, g1, g2, e1, e2, nI_11, Int32.or_zero, bindS, wI_row, wI_slot, wI_same, wI_2, nI_p0, false_or, nle_f, nI_cl, n_lad, n_adl, nI_add, if_true, if_false, ite_true, ite_false, ↓reduceIte]
        exact r
    · rw [q_brk, if_neg (fun e => e1 e.1)] at r
      simp (maxSteps := 2000000) (decide := true) (disch := omega) only [k_75, k_83, g1, g2, e1, nI_11, Int32.or_zero, bindS, wI_row, wI_slot, wI_same, wI_2, nI_p0, false_or, nle_f, nI_cl, n_lad, n_adl, nI_add, if_true, if_false, ite_true, ite_false, ↓reduceIte]
      exact r
def q_b (q : t_C) (x : Int32) : Int32 := q_brk q x q.2.1.1
theorem q_b_lt {q : t_C} (hv : VC q) (x : Int32) : ∃ n, n < 256 ∧ q_b q x = nI n := brk_lt q x _ hv.2.1
theorem c_brk (hw : 1000 ≤ w) {M : z_Mem} {p : Nat} {q : t_C} (h : C_c M p q) (hv : VC q) (x : Int32) : F_X0_brokenBy w M p x = some (q_b q x, M) := by
  have := hv.2.1
  exact cl_brk (w := w) h hv x q.2.1.1 0 w (by omega) (by omega)
theorem m_brk (hw : 1000 ≤ w) {M : z_Mem} {q : t_C} (h : BC (M.1 142) q) (hv : VC q) (x : Int32) : F_X12_brokenBy w M x = some (q_b q x, M) := by
  have := hv.2.1
  exact ml_brk (w := w) h hv x q.2.1.1 0 w (by omega) (by omega)
theorem m_allq {M : z_Mem} {q : t_C} (h : BC (M.1 142) q) (hv : VC q) : F_X12_allQuestions w M = some (nI (2 ^ q.1 - 1), M) := by
  unfold F_X12_allQuestions
  rw [h.1, q_pow _ hv.1, show (1 : Int32) = nI 1 from rfl, pk_sub (q_p64 hv.1).1]
variable {M N : z_Mem} {q : t_C}
theorem lw_rul (hw : 1000 ≤ w) (hc : C_c M 7 q) (hb : BC (N.1 142) q) (hv : VC q) : ∀ (m k c c' : Nat) (acc : Int32), k + m = 2 ^ q.1 → m < c → m < c' → ∃ r, L_X0_countRulings w 7 c M acc (nI k) = some (r, M) ∧ L_X12_rulings w c' N acc (nI k) = some (r, N) := by
  have hp := q_p64 hv.1
  have h4 : M.1 (7 + 12) 4 = nI q.1 := hc.1
  have aq := m_allq (w := w) hb hv
  intro m
  induction m with
  | zero =>
    intro k c c' acc h1 h2 h3
    obtain ⟨c, rfl⟩ : ∃ x, c = x + 1 := ⟨c - 1, by omega⟩
    obtain ⟨c', rfl⟩ : ∃ x, c' = x + 1 := ⟨c' - 1, by omega⟩
    refine ⟨acc, ?_, ?_⟩
    · rw [L_X0_countRulings, h4, q_pow _ hv.1, if_pos (nI_le (by omega) (by omega))]
    · rw [L_X12_rulings, aq]
      simp only [bindS]
      rw [if_pos (nI_lt (by omega) (by omega))]
  | succ m ih =>
    intro k c c' acc h1 h2 h3
    obtain ⟨c, rfl⟩ : ∃ x, c = x + 1 := ⟨c - 1, by omega⟩
    obtain ⟨c', rfl⟩ : ∃ x, c' = x + 1 := ⟨c' - 1, by omega⟩
    rw [L_X0_countRulings, h4, q_pow _ hv.1, if_neg (nI_ge (by omega) (by omega)), c_brk hw hc hv, L_X12_rulings, aq]
    simp only [bindS]
    rw [if_neg (i_nlt.mpr (nI_le (by omega) (by omega))), m_brk hw hb hv]
    simp only [bindS, nI_11, Int32.add_zero]
    by_cases g : q_b q (nI k) = 0
    · rw [if_pos g, if_pos g]
      exact ih (k + 1) c c' (acc + 1) (by omega) (by omega) (by omega)
    · rw [if_neg g, if_neg g]
      exact ih (k + 1) c c' acc (by omega) (by omega) (by omega)
theorem lw_rulAt (hw : 1000 ≤ w) (hc : C_c M 7 q) (hb : BC (N.1 142) q) (hv : VC q) (a : Int32) : ∀ (m k c c' : Nat) (acc : Int32), k + m = 2 ^ q.1 → m < c → m < c' → (L_X0_findRuling w 7 c M a acc (nI k) = some (-1, M) ∧ L_X12_rulingAt w c' N a acc (nI k) = some (-1, z_wI N 137 0 8)) ∨ ∃ r, ¬ r = -1 ∧ L_X0_findRuling w 7 c M a acc (nI k) = some (r, M) ∧ L_X12_rulingAt w c' N a acc (nI k) = some (r, N) := by
  have hp := q_p64 hv.1
  have h4 : M.1 (7 + 12) 4 = nI q.1 := hc.1
  have aq := m_allq (w := w) hb hv
  intro m
  induction m with
  | zero =>
    intro k c c' acc h1 h2 h3
    obtain ⟨c, rfl⟩ : ∃ x, c = x + 1 := ⟨c - 1, by omega⟩
    obtain ⟨c', rfl⟩ : ∃ x, c' = x + 1 := ⟨c' - 1, by omega⟩
    left
    refine ⟨?_, ?_⟩
    · rw [L_X0_findRuling, h4, q_pow _ hv.1, if_pos (nI_le (by omega) (by omega))]
    · rw [L_X12_rulingAt, aq]
      simp only [bindS]
      rw [if_pos (nI_lt (by omega) (by omega))]
      rfl
  | succ m ih =>
    intro k c c' acc h1 h2 h3
    obtain ⟨c, rfl⟩ : ∃ x, c = x + 1 := ⟨c - 1, by omega⟩
    obtain ⟨c', rfl⟩ : ∃ x, c' = x + 1 := ⟨c' - 1, by omega⟩
    rw [L_X0_findRuling, h4, q_pow _ hv.1, if_neg (nI_ge (by omega) (by omega)), c_brk hw hc hv, L_X12_rulingAt, aq]
    simp only [bindS]
    rw [if_neg (i_nlt.mpr (nI_le (by omega) (by omega))), m_brk hw hb hv]
    simp only [bindS, nI_11]
    by_cases g : q_b q (nI k) = 0
    · rw [if_pos g, if_pos g]
      by_cases g2 : acc = a
      · rw [if_pos g2, if_pos g2]
        refine Or.inr ⟨nI k, fun e => ?_, rfl, rfl⟩
        have := nI_pos (n := k) (by omega)
        rw [e] at this
        exact this (by decide)
      · rw [if_neg g2, if_neg g2]
        exact ih (k + 1) c c' (acc + 1) (by omega) (by omega) (by omega)
    · rw [if_neg g, if_neg g]
      exact ih (k + 1) c c' acc (by omega) (by omega) (by omega)
theorem lw_str (hw : 1000 ≤ w) (hc : C_c M 7 q) (hb : BC (N.1 142) q) (hv : VC q) : ∀ (m k c c' a : Nat), k + m = 2 ^ q.1 → m < c → m < c' → a < 256 → ∃ r, r < 256 ∧ L_X0_leastStrike w 7 c M (nI a) (nI k) = some (nI r, M) ∧ L_X12_striking w c' N (nI a) (nI k) = some (nI r, N) := by
  have hp := q_p64 hv.1
  have h4 : M.1 (7 + 12) 4 = nI q.1 := hc.1
  have aq := m_allq (w := w) hb hv
  intro m
  induction m with
  | zero =>
    intro k c c' a h1 h2 h3 ha
    obtain ⟨c, rfl⟩ : ∃ x, c = x + 1 := ⟨c - 1, by omega⟩
    obtain ⟨c', rfl⟩ : ∃ x, c' = x + 1 := ⟨c' - 1, by omega⟩
    refine ⟨a, ha, ?_, ?_⟩
    · rw [L_X0_leastStrike, h4, q_pow _ hv.1, if_pos (nI_le (by omega) (by omega))]
    · rw [L_X12_striking, aq]
      simp only [bindS]
      rw [if_pos (nI_lt (by omega) (by omega))]
  | succ m ih =>
    intro k c c' a h1 h2 h3 ha
    obtain ⟨c, rfl⟩ : ∃ x, c = x + 1 := ⟨c - 1, by omega⟩
    obtain ⟨c', rfl⟩ : ∃ x, c' = x + 1 := ⟨c' - 1, by omega⟩
    obtain ⟨b, hb2, eb⟩ := q_b_lt hv (nI k)
    obtain ⟨u, hu, u1, u2⟩ := f_cnt hw (n := a) (by omega)
    obtain ⟨v, hv2, v1, v2⟩ := f_cnt hw (n := b) (by omega)
    have ra := ih (k + 1) c c' a (by omega) (by omega) (by omega) ha
    have rb := ih (k + 1) c c' b (by omega) (by omega) (by omega) hb2
    rw [L_X0_leastStrike]
    generalize F_J6_bitCount_0f7a4 = F at u1 v1 ⊢
    rw [h4, q_pow _ hv.1, if_neg (nI_ge (by omega) (by omega)), c_brk hw hc hv, L_X12_striking, aq]
    simp only [bindS]
    rw [if_neg (i_nlt.mpr (nI_le (by omega) (by omega))), m_brk hw hb hv]
    simp only [bindS, nI_11, eb]
    simp only [u1, u2, v1, v2, bindS]
    have s1 := pk_sub_toInt (a := u) (b := v) (by omega) (by omega)
    have z0 : (0 : Int32).toInt = 0 := rfl
    by_cases g : v < u
    · rw [if_pos (show (0 : Int32) < nI (u) - nI (v) by rw [Int32.lt_iff_toInt_lt, s1, z0]; omega), if_pos (nI_lt g (by omega))]
      exact rb
    · rw [if_neg (show ¬ (0 : Int32) < nI (u) - nI (v) by rw [Int32.lt_iff_toInt_lt, s1, z0]; omega), if_neg (i_nlt.mpr (nI_le (by omega) (by omega)))]
      by_cases g2 : v = u
      · rw [if_pos (show nI (u) - nI (v) = 0 by rw [← Int32.toInt_inj, s1, z0]; omega), if_pos (congrArg nI g2)]
        by_cases g3 : nI a ≤ nI b
        · rw [if_pos g3, if_pos g3]
          exact ra
        · rw [if_neg g3, if_neg g3]
          exact rb
      · rw [if_neg (show ¬ nI (u) - nI (v) = 0 by rw [← Int32.toInt_inj, s1, z0]; omega), if_neg (fun e => g2 ((nI_eq (by omega) (by omega)).mp e))]
        exact ra
theorem lw_strike (hw : 1000 ≤ w) (hc : C_c M 7 q) (hb : BC (N.1 142) q) (hv : VC q) : ∃ r, r < 256 ∧ F_X0_leastStrike w M 7 = some (nI r, M) ∧ F_X12_striking w N = some (nI r, N) := by
  have hp := q_p64 hv.1
  obtain ⟨b, hb2, eb⟩ := q_b_lt hv 0
  unfold F_X0_leastStrike F_X12_striking
  rw [c_brk hw hc hv, m_brk hw hb hv]
  simp only [bindS, eb]
  exact lw_str hw hc hb hv (2 ^ q.1 - 1) 1 w w b (by omega) (by omega) (by omega) hb2
theorem ml_sureX (hw : 1000 ≤ w) (hb : BC (N.1 142) q) (hv : VC q) (a : Int32) : ∀ (m k c y n : Nat), k + m = 2 ^ q.1 → m < c → 0 < y → 0 < n → y ≤ k → n ≤ k → L_X12_sure w c N a (nI y) (nI n) (nI k) = some (-1, z_wI N 137 0 8) := by
  have hp := q_p64 hv.1
  have aq := m_allq (w := w) hb hv
  intro m
  induction m with
  | zero =>
    intro k c y n h1 h2 h3 h4 h5 h6
    obtain ⟨c, rfl⟩ : ∃ x, c = x + 1 := ⟨c - 1, by omega⟩
    rw [L_X12_sure, aq]
    simp only [bindS]
    rw [if_pos (nI_lt (by omega) (by omega)), if_neg (nle0 h3 (by omega)), if_neg (nle0 h4 (by omega))]
    rfl
  | succ m ih =>
    intro k c y n h1 h2 h3 h4 h5 h6
    obtain ⟨c, rfl⟩ : ∃ x, c = x + 1 := ⟨c - 1, by omega⟩
    rw [L_X12_sure, aq]
    simp only [bindS]
    rw [if_neg (i_nlt.mpr (nI_le (by omega) (by omega))), m_brk hw hb hv]
    simp only [bindS, nI_11, Int32.add_zero]
    have r1 := ih (k + 1) c (y + 1) n (by omega) (by omega) (by omega) (by omega) (by omega) (by omega)
    have r2 := ih (k + 1) c y (n + 1) (by omega) (by omega) (by omega) (by omega) (by omega) (by omega)
    have r3 := ih (k + 1) c y n (by omega) (by omega) (by omega) (by omega) (by omega) (by omega)
    by_cases g : q_b q (nI k) = 0
    · rw [if_pos g]
      by_cases g1 : ((nI k >>> (a &&& 31)) &&& 1) = 1
      · have e : F_X12_has w N (nI k) a = some (true, N) := by unfold F_X12_has; rw [if_pos g1]
        simp only [e, bindS, if_true]
        exact r1
      · have e : F_X12_has w N (nI k) a = some (false, N) := by unfold F_X12_has; rw [if_neg g1]
        simp only [e, bindS, Bool.false_eq_true, if_false]
        exact r2
    · rw [if_neg g]
      exact r3
theorem lw_sure (hw : 1000 ≤ w) (hc : C_c M 7 q) (hb : BC (N.1 142) q) (hv : VC q) (a : Int32) : ∀ (m k c c' y n : Nat) (t : Int32), k + m = 2 ^ q.1 → m < c → m < c' → y ≤ k → n ≤ k → ((t = -1 ∧ y = 0 ∧ n = 0) ∨ (t = 1 ∧ 0 < y ∧ n = 0) ∨ (t = 0 ∧ y = 0 ∧ 0 < n)) → (L_X0_sureTruth w 7 c M a t (nI k) = some (-1, M) ∧ L_X12_sure w c' N a (nI y) (nI n) (nI k) = some (-1, z_wI N 137 0 8)) ∨ ∃ r, ¬ r = -1 ∧ L_X0_sureTruth w 7 c M a t (nI k) = some (r, M) ∧ L_X12_sure w c' N a (nI y) (nI n) (nI k) = some (r, N) := by
  have hp := q_p64 hv.1
  have h4 : M.1 (7 + 12) 4 = nI q.1 := hc.1
  have aq := m_allq (w := w) hb hv
  intro m
  induction m with
  | zero =>
    intro k c c' y n t h1 h2 h3 hy hn ht
    obtain ⟨c, rfl⟩ : ∃ x, c = x + 1 := ⟨c - 1, by omega⟩
    obtain ⟨c', rfl⟩ : ∃ x, c' = x + 1 := ⟨c' - 1, by omega⟩
    rw [L_X0_sureTruth, h4, q_pow _ hv.1, if_pos (nI_le (by omega) (by omega)), L_X12_sure, aq]
    simp only [bindS]
    rw [if_pos (nI_lt (by omega) (by omega))]
    rcases ht with ⟨rfl, rfl, rfl⟩ | ⟨rfl, g1, rfl⟩ | ⟨rfl, rfl, g1⟩
    · exact Or.inl ⟨rfl, rfl⟩
    · refine Or.inr ⟨1, by decide, rfl, ?_⟩
      rw [if_neg (nle0 g1 (by omega)), if_pos (by decide), if_neg (nle0 g1 (by omega))]
    · refine Or.inr ⟨0, by decide, rfl, ?_⟩
      rw [if_pos (by decide), if_neg (nle0 g1 (by omega)), if_pos (by decide)]
  | succ m ih =>
    intro k c c' y n t h1 h2 h3 hy hn ht
    obtain ⟨c, rfl⟩ : ∃ x, c = x + 1 := ⟨c - 1, by omega⟩
    obtain ⟨c', rfl⟩ : ∃ x, c' = x + 1 := ⟨c' - 1, by omega⟩
    rw [L_X0_sureTruth, h4, q_pow _ hv.1, if_neg (nI_ge (by omega) (by omega)), c_brk hw hc hv, L_X12_sure, aq]
    simp only [bindS]
    rw [if_neg (i_nlt.mpr (nI_le (by omega) (by omega))), m_brk hw hb hv]
    simp only [bindS, nI_11, Int32.add_zero]
    by_cases g : q_b q (nI k) = 0
    · rw [if_pos g, if_pos g]
      rcases and_01 (nI k >>> (a &&& 31)) with g1 | g1
      · have e : F_X12_has w N (nI k) a = some (false, N) := by unfold F_X12_has; rw [if_neg (by rw [g1]; decide)]
        simp only [e, bindS, Bool.false_eq_true, if_false, g1]
        rcases ht with ⟨rfl, rfl, rfl⟩ | ⟨rfl, g2, rfl⟩ | ⟨rfl, rfl, g2⟩
        · rw [if_pos rfl]
          exact ih (k + 1) c c' 0 (0 + 1) 0 (by omega) (by omega) (by omega) (by omega) (by omega) (Or.inr (Or.inr ⟨rfl, rfl, by omega⟩))
        · rw [if_neg (by decide), if_neg (by decide)]
          exact Or.inl ⟨rfl, ml_sureX hw hb hv a m (k + 1) c' y (0 + 1) (by omega) (by omega) (by omega) (by omega) (by omega) (by omega)⟩
        · rw [if_neg (by decide), if_pos rfl]
          exact ih (k + 1) c c' 0 (n + 1) 0 (by omega) (by omega) (by omega) (by omega) (by omega) (Or.inr (Or.inr ⟨rfl, rfl, by omega⟩))
      · have e : F_X12_has w N (nI k) a = some (true, N) := by unfold F_X12_has; rw [if_pos g1]
        simp only [e, bindS, if_true, g1]
        rcases ht with ⟨rfl, rfl, rfl⟩ | ⟨rfl, g2, rfl⟩ | ⟨rfl, rfl, g2⟩
        · rw [if_pos rfl]
          exact ih (k + 1) c c' (0 + 1) 0 1 (by omega) (by omega) (by omega) (by omega) (by omega) (Or.inr (Or.inl ⟨rfl, by omega, rfl⟩))
        · rw [if_neg (by decide), if_pos rfl]
          exact ih (k + 1) c c' (y + 1) 0 1 (by omega) (by omega) (by omega) (by omega) (by omega) (Or.inr (Or.inl ⟨rfl, by omega, rfl⟩))
        · rw [if_neg (by decide), if_neg (by decide)]
          exact Or.inl ⟨rfl, ml_sureX hw hb hv a m (k + 1) c' (0 + 1) n (by omega) (by omega) (by omega) (by omega) (by omega) (by omega)⟩
    · rw [if_neg g, if_neg g]
      exact ih (k + 1) c c' y n t (by omega) (by omega) (by omega) (by omega) (by omega) ht
theorem call_rulings (hw : 1000 ≤ w) (h : r_Rel M) : r_ok (F_X11_rulings w M) (F_X12_rulings w) := by
  obtain ⟨P, hc, hb, hv⟩ := h.2.2.2.2.2.2.1
  have hp := q_p64 hv.2.2.2.1.1
  obtain ⟨r, r1, r2⟩ := lw_rul (w := w) (N := z_st M 0) hw hc.2.2.2.1 hb.2.2.2.1 hv.2.2.2.1 (2 ^ P.2.2.2.1.1) 0 w w 0 (by omega) (by omega) (by omega)
  have r1' : F_X0_countRulings w M 7 = _ := r1
  refine ⟨r, z_wI M 0 11 0, z_st M 0, ?_, r2, r_stv 0 h⟩
  simp (maxSteps := 2000000) (decide := true) (disch := omega) only [F_X11_rulings, F_X11_answer, r1', bindS, wI_row, wI_slot, wI_same, wI_2, nI_p0, false_or, nle_f, nI_cl, n_lad, n_adl, nI_add, if_true, if_false, ite_true, ite_false, ↓reduceIte]
theorem call_rulingAt (hw : 1000 ≤ w) (h : r_Rel M) (a : Int32) : r_ok (F_X11_rulingAt w M a) (fun M => F_X12_rulingAt w M a) := by
  obtain ⟨P, hc, hb, hv⟩ := h.2.2.2.2.2.2.1
  have hp := q_p64 hv.2.2.2.1.1
  have key := fun (K : z_Mem) (hK : BC (K.1 142) P.2.2.2.1) => lw_rulAt (w := w) (N := K) hw hc.2.2.2.1 hK hv.2.2.2.1 a (2 ^ P.2.2.2.1.1) 0 w w 0 (by omega) (by omega) (by omega)
  rcases key (z_st M 0) hb.2.2.2.1 with ⟨r1, r2⟩ | ⟨r, r0, r1, r2⟩
  · have r1' : F_X0_findRuling w M 7 a = _ := r1
    rcases key (z_wI (z_wI (z_wI M 0 11 8) 137 1 0) 137 0 0) hb.2.2.2.1 with ⟨r1, r2⟩ | ⟨r, r0, r1, r2⟩
    · refine ⟨-1, z_wI M 0 11 8, z_st M 8, ?_, ?_, r_stv 8 h⟩
      · simp (maxSteps := 2000000) (decide := true) (disch := omega) only [F_X11_rulingAt, F_X11_refuse, r1', bindS, wI_row, wI_slot, wI_same, wI_2, nI_p0, false_or, nle_f, nI_cl, n_lad, n_adl, nI_add, if_true, if_false, ite_true, ite_false, ↓reduceIte]
      · rw [← st_v]
        exact r2
    · have r3 : F_X0_findRuling w M 7 a = _ := r1
      rw [r1'] at r3
      simp only [Option.some.injEq, Prod.mk.injEq] at r3
      exact absurd r3.1.symm r0
  · have r1' : F_X0_findRuling w M 7 a = _ := r1
    refine ⟨r, z_wI M 0 11 0, z_st M 0, ?_, r2, r_stv 0 h⟩
    simp (maxSteps := 2000000) (decide := true) (disch := omega) only [F_X11_rulingAt, F_X11_answer, r1', r0, bindS, wI_row, wI_slot, wI_same, wI_2, nI_p0, false_or, nle_f, nI_cl, n_lad, n_adl, nI_add, if_true, if_false, ite_true, ite_false, ↓reduceIte]
theorem call_strikeSet (hw : 1000 ≤ w) (h : r_Rel M) : r_ok (F_X11_strikeSet w M) (F_X12_strikeSet w) := by
  obtain ⟨P, hc, hb, hv⟩ := h.2.2.2.2.2.2.1
  obtain ⟨r, r0, r1, r2⟩ := lw_strike (w := w) (N := z_st M 0) hw hc.2.2.2.1 hb.2.2.2.1 hv.2.2.2.1
  refine ⟨nI r, z_wI M 0 11 0, z_st M 0, ?_, ?_, r_stv 0 h⟩
  · simp (maxSteps := 2000000) (decide := true) (disch := omega) only [F_X11_strikeSet, F_X11_answer, r1, bindS, wI_row, wI_slot, wI_same, wI_2, nI_p0, false_or, nle_f, nI_cl, n_lad, n_adl, nI_add, if_true, if_false, ite_true, ite_false, ↓reduceIte]
  · unfold F_X12_strikeSet
    rw [st_0, r2]
    rfl
theorem call_strike (hw : 1000 ≤ w) (h : r_Rel M) : r_ok (F_X11_strike w M) (F_X12_strike w) := by
  obtain ⟨P, hc, hb, hv⟩ := h.2.2.2.2.2.2.1
  obtain ⟨r, r0, r1, r2⟩ := lw_strike (w := w) (N := z_st M 0) hw hc.2.2.2.1 hb.2.2.2.1 hv.2.2.2.1
  refine ⟨nI (n_cnt r 12), z_wI M 0 11 0, z_st M 0, ?_, ?_, r_stv 0 h⟩
  · have e := f_bcn (w := w) (n := r) (by omega) M
    simp (maxSteps := 2000000) (decide := true) (disch := omega) only [F_X11_strike, F_X11_answer, r1, e, bindS, wI_row, wI_slot, wI_same, wI_2, nI_p0, false_or, nle_f, nI_cl, n_lad, n_adl, nI_add, if_true, if_false, ite_true, ite_false, ↓reduceIte]
  · unfold F_X12_strike
    rw [st_0, r2]
    simp only [bindS]
    rw [f_size hw (by omega)]
    rfl
theorem call_sure (hw : 1000 ≤ w) (h : r_Rel M) (a : Int32) : r_ok (F_X11_sure w M a) (fun M => F_X12_sure w M a) := by
  obtain ⟨P, hc, hb, hv⟩ := h.2.2.2.2.2.2.1
  have hp := q_p64 hv.2.2.2.1.1
  have h6 : P.2.2.2.1.1 ≤ 6 := hv.2.2.2.1.1
  have c4 : M.1 19 4 = nI P.2.2.2.1.1 := hc.2.2.2.1.1
  have b2 : M.1 142 2 = nI P.2.2.2.1.1 := hb.2.2.2.1.1
  rcases i_cx a P.2.2.2.1.1 (by omega) with ⟨j, hj, rfl⟩ | ⟨g, g2⟩
  · have m1 := fun K => is_t (w := w) (M := K) hj (by omega)
    have q1 : ¬ nI j < 0 := nI_pos (by omega)
    have q2 : nI j < nI P.2.2.2.1.1 := nI_lt hj (by omega)
    have key := fun (K : z_Mem) (hK : BC (K.1 142) P.2.2.2.1) => lw_sure (w := w) (N := K) hw hc.2.2.2.1 hK hv.2.2.2.1 (nI j) (2 ^ P.2.2.2.1.1) 0 w w 0 0 (-1) (by omega) (by omega) (by omega) (by omega) (by omega) (Or.inl ⟨rfl, rfl, rfl⟩)
    rcases key (z_st M 0) hb.2.2.2.1 with ⟨r1, r2⟩ | ⟨r, r0, r1, r2⟩
    · have r1' : F_X0_sureTruth w M 7 (nI j) = _ := r1
      rcases key (z_wI (z_wI (z_wI M 0 11 8) 137 1 0) 137 0 0) hb.2.2.2.1 with ⟨r1, r2⟩ | ⟨r, r0, r1, r2⟩
      · have r2' : L_X12_sure w w (z_wI (z_wI (z_wI M 0 11 8) 137 1 0) 137 0 0) (nI j) 0 0 0 = _ := r2
        refine ⟨-1, z_wI M 0 11 8, z_st M 8, ?_, ?_, r_stv 8 h⟩
        · simp (maxSteps := 2000000) (decide := true) (disch := omega) only [F_X11_sure, F_X11_refuse, q1, q2, c4, r1', bindS, wI_row, wI_slot, wI_same, wI_2, nI_p0, false_or, nle_f, nI_cl, n_lad, n_adl, nI_add, if_true, if_false, ite_true, ite_false, ↓reduceIte]
        · rw [← st_v]
          simp (maxSteps := 2000000) (decide := true) (disch := omega) only [F_X12_sure, b2, m1, r2', bindS, wI_row, wI_slot, wI_same, wI_2, nI_p0, false_or, nle_f, nI_cl, n_lad, n_adl, nI_add, if_true, if_false, ite_true, ite_false, ↓reduceIte]
      · have r3 : F_X0_sureTruth w M 7 (nI j) = _ := r1
        rw [r1'] at r3
        simp only [Option.some.injEq, Prod.mk.injEq] at r3
        exact absurd r3.1.symm r0
    · have r1' : F_X0_sureTruth w M 7 (nI j) = _ := r1
      have r2' : L_X12_sure w w (z_st M 0) (nI j) 0 0 0 = _ := r2
      refine ⟨r, z_wI M 0 11 0, z_st M 0, ?_, ?_, r_stv 0 h⟩
      · simp (maxSteps := 2000000) (decide := true) (disch := omega) only [F_X11_sure, F_X11_answer, q1, q2, c4, r1', r0, bindS, wI_row, wI_slot, wI_same, wI_2, nI_p0, false_or, nle_f, nI_cl, n_lad, n_adl, nI_add, if_true, if_false, ite_true, ite_false, ↓reduceIte]
      · unfold z_st at r2' ⊢
        simp (maxSteps := 2000000) (decide := true) (disch := omega) only [F_X12_sure, b2, m1, r2', bindS, wI_row, wI_slot, wI_same, wI_2, nI_p0, false_or, nle_f, nI_cl, n_lad, n_adl, nI_add, if_true, if_false, ite_true, ite_false, ↓reduceIte]
  · have m1 := fun K => is_f (w := w) (M := K) g (by omega)
    refine ⟨-1, z_wI M 0 11 2, z_st M 2, ?_, ?_, r_stv 2 h⟩
    · rcases g2 with q | ⟨q1, q2, q3⟩
      · simp (maxSteps := 2000000) (decide := true) (disch := omega) only [F_X11_sure, F_X11_refuse, q, bindS, wI_row, wI_slot, wI_same, wI_2, nI_p0, false_or, nle_f, nI_cl, n_lad, n_adl, nI_add, if_true, if_false, ite_true, ite_false, ↓reduceIte]
      · simp (maxSteps := 2000000) (decide := true) (disch := omega) only [F_X11_sure, F_X11_refuse, q1, q2, c4, bindS, wI_row, wI_slot, wI_same, wI_2, nI_p0, false_or, nle_f, nI_cl, n_lad, n_adl, nI_add, if_true, if_false, ite_true, ite_false, ↓reduceIte]
    · simp (maxSteps := 2000000) (decide := true) (disch := omega) only [F_X12_sure, F_X12_refuse, b2, m1, z_st, wI_wI, Bool.false_eq_true, bindS, wI_row, wI_slot, wI_same, wI_2, nI_p0, false_or, nle_f, nI_cl, n_lad, n_adl, nI_add, if_true, if_false, ite_true, ite_false, ↓reduceIte]
end
