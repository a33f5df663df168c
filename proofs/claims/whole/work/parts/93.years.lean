/-! ===== years: the whole text ===== -/
def fiY (w c0 : Nat) (N : z_Mem) : Option (Int32 × z_Mem) :=
  (F_X12_isWell w N).bind fun q =>
  if q.1 = true then
  L_X12_years w c0 1 (z_wI (z_wI q.2 142 103 (1 : Int32)) 142 104 (q.2.1 137 25)) (0 : Int32)
  else
  some ((-1 : Int32), q.2)
section
variable {w : Nat} {A N M : z_Mem} {t : Nat → Nat} {n j e d L S : Nat} {c : Int32}
theorem y_bad (h : Bn N) (c0 : Nat) : L_X12_years w (c0 + 1) 0 N 0 = fiY w c0 N := by
  rw [L_X12_years, if_pos rfl, if_neg h.2]; rfl
theorem lw_yrs (hw : 10000 ≤ w) : ∀ (D c c' x : Nat) (A N : z_Mem) (j e : Nat) (cc : Int32) (L S : Nat), n + 1 - j ≤ D → n + 2 - j ≤ c → n + 400 - j ≤ c' → x ≤ j → Gd A N t n j e cc → YR A N 0 L S → Sg A N 0 L → ∃ b A' N' c1, L_X10_readText w c A (nI n) (nI x) = some (b, A') ∧ L_X12_years w c' 0 N 0 = fiY w c1 N' ∧ 300 ≤ c1 ∧ KA A A' ∧ KN 1605 N N' ∧ ((b = true ∧ ∃ A'' L' S', A' = z_wI A'' 47 7 1 ∧ YR A'' N' 0 L' S' ∧ Sg A'' N' 0 L' ∧ A''.1 5 7 = 0 ∧ A''.1 5 8 = -1 ∧ N'.1 137 12 = 0) ∨ (b = false ∧ Bd A' N')) := by
  intro D
  induction D with
  | zero =>
    intro c c' x A N j e cc L S hD _ _ _ h _ _
    have := h.2.2.1.2.1
    have := h.2.2.1.2.2.1
    omega
  | succ D ih =>
    intro c c' x A N j e cc L S hD hc hc' hx h hY hG
    have h3 : A.1 5 3 = cc := h.2.2.1.2.2.2.1
    have h12 := h.2.2.2.2.2.2
    have je := h.2.2.1.2.1
    have en := h.2.2.1.2.2.1
    have n9 := h.1.1
    obtain ⟨c0, rfl⟩ : ∃ c0, c = c0 + 1 := ⟨c - 1, by omega⟩
    obtain ⟨c1, rfl⟩ : ∃ c1, c' = c1 + 1 + 1 := ⟨c' - 2, by omega⟩
    by_cases g : cc = 38
    · refine ⟨true, z_wI A 47 7 1, N, c1 + 1, ?_, ?_, by omega, ⟨fun y p q _ _ => wI_row (by omega), fun k _ => by rw [wI_row (by omega)], rfl⟩, KN_r, Or.inl ⟨rfl, A, L, S, rfl, hY, hG, h.2.2.2.2.1, h.2.2.2.2.2.1, h12⟩⟩
      · rw [L_X10_readText, if_neg (Int32.not_lt.mpr (nI_le (by omega) (by omega))), h3, if_pos g, hY.2.2.2.1, if_pos (by decide)]
      · rw [L_X12_years, if_pos rfl, h12, if_pos rfl, (TR_0 h.2.2.1).mpr g, if_pos rfl]; rfl
    · obtain ⟨N1, p1, p2, p3⟩ := st_all (w := w) (t := t) (n := n) hw A N j e cc L S h hY (Or.inl rfl) (Or.inl g)
      have p1' : F_X12_readStep w 10 N 0 = some ((), N1) := p1
      have em : L_X12_years w (c1 + 1 + 1) 0 N 0 = L_X12_years w (c1 + 1) 0 N1 0 := by
        rw [L_X12_years, if_pos rfl, h12, if_pos rfl, if_neg (fun y => g ((TR_0 h.2.2.1).mp y)), p1', bindS]
      rw [em]
      rcases p3 with ⟨A1, j1, e1, c2, L1, S1, k, q1, q2, q3, q4, q5, q6, q7, q8, q9⟩ | ⟨A1, k, q1, q2, q3, q4⟩
      · have je1 := q1.2.2.1.2.1
        have en1 := q1.2.2.1.2.2.1
        have l1 := wfr_ab q5.1
        have G1 : Sg A1 N1 0 L1 := Sg_app (Sg_of hG (fun i hi => by rw [q7 i hi]) (fun i _ hi => q7 i hi) (fun k a b => p2.2.1 k (by rw [hY.2.2.2.2.1] at b; exact b))) q5
        obtain ⟨b, A', N', c3, r1, r2, r3, r4, r5, r6⟩ := ih (c0 + 1 - k) (c1 + 1) (x + k) A1 N1 j1 e1 c2 L1 S1 (by omega) (by omega) (by omega) (by omega) q1 q4 G1
        refine ⟨b, A', N', c3, ?_, r2, r3, KA_t q6 r4, KN_t (KN_le p2 (by omega)) r5, r6⟩
        have := q9 (c0 + 1 - k) x hx
        rw [show c0 + 1 - k + k = c0 + 1 by omega] at this
        rw [this, r1]
      · refine ⟨false, A1, N1, c1, ?_, y_bad (Bd_n q1) c1, by omega, q2, KN_le p2 (by omega), Or.inr ⟨rfl, q1⟩⟩
        have := q4 (c0 + 1 - k) x hx
        rw [show c0 + 1 - k + k = c0 + 1 by omega] at this
        exact this
/-- the reference's rows, laid where they stay -/
theorem ml_yc {S : Nat} (hS : S ≤ 30) : ∀ (m i c : Nat) (M : z_Mem), i + m = 9 * S → m < c → M.1 137 25 = nI S → ∃ M', L_X12_years w c 1 M (nI i) = some (nI S, M') ∧ (∀ a, a ≠ 142 → M'.1 a = M.1 a) ∧ M'.2 = M.2 ∧ ∀ k, M'.1 142 k = if 105 + i ≤ k ∧ k < 105 + 9 * S then M.1 142 (k + 1500) else M.1 142 k := by
  have e9 : (9 : Int32) * nI S = nI (9 * S) := by rw [show (9 : Int32) = nI 9 from rfl, g_nmul]
  intro m
  induction m with
  | zero =>
    intro i c M h hc h25
    obtain ⟨c, rfl⟩ : ∃ x, c = x + 1 := ⟨c - 1, by omega⟩
    refine ⟨M, ?_, fun _ _ => rfl, rfl, fun k => by rw [if_neg (by omega)]⟩
    rw [L_X12_years, if_neg (by omega), if_pos rfl, h25, e9, if_pos (nI_le (by omega) (by omega))]
  | succ m ih =>
    intro i c M h hc h25
    obtain ⟨c, rfl⟩ : ∃ x, c = x + 1 := ⟨c - 1, by omega⟩
    obtain ⟨M', r1, r2, r3, r4⟩ := ih (i + 1) c (z_wI M 142 (105 + i) (M.1 142 (1605 + i))) (by omega) (by omega) (by rw [wI_row (by omega)]; exact h25)
    refine ⟨M', ?_, fun a ha => by rw [r2 a ha, wI_row ha], r3, fun k => ?_⟩
    · rw [L_X12_years, if_neg (by omega), if_pos rfl, h25, e9, if_neg (nI_ge (by omega) (by omega)), show (1605 : Int32) + nI i = nI (1605 + i) from n_lad 1605 i, show (105 : Int32) + nI i = nI (105 + i) from n_lad 105 i, if_neg (nI_in (by omega) (by omega)), if_neg (nI_in (by omega) (by omega)), nI_cl (by omega), nI_cl (by omega), nI_1]
      exact r1
    · rw [r4]
      by_cases g : 105 + i ≤ k ∧ k < 105 + 9 * S
      · rw [if_pos g]
        by_cases g2 : k = 105 + i
        · rw [if_neg (by omega), g2, wI_same, show 105 + i + 1500 = 1605 + i by omega]
        · rw [if_pos (by omega), wI_slot (by omega)]
      · rw [if_neg g, if_neg (by omega), wI_slot (by omega)]
/-- the whole text of years, read by both -/
theorem rd_yrs (hw : 10000 ≤ w) {f : Nat} (h8 : N.1 137 8 = nI f) (hf : f ≤ 900) (hnf : n ≤ f) (h300 : n ≤ 300) (ht : ∀ k, t k < 256) (ha : ∀ k, k < 900 → M.1 6 k = by_c (t k)) (hn : ∀ k, k < 900 → N.1 141 k &&& 255 = nI (t k)) : ∃ b A' N' c1, F_X10_readText w M (nI n) = some (b, A') ∧ F_X12_years w N (nI n) = fiY w c1 N' ∧ 300 ≤ c1 ∧ (∀ x, x ≠ 5 → (x < 30 ∨ 58 ≤ x) → A'.1 x = M.1 x) ∧ A'.2 = M.2 ∧ (∀ x, x ≠ 137 → x ≠ 142 → N'.1 x = N.1 x) ∧ (∀ k, k < 1605 → N'.1 142 k = N.1 142 k) ∧ (N'.1 137 0 = 0 ∧ N'.1 137 8 = 0 ∧ ∀ k, k = 23 ∨ k = 30 → N'.1 137 k = N.1 137 k) ∧ (∀ x, x ≠ 137 → N'.2 x = N.2 x) ∧ (∀ k, k ≠ 19 → N'.2 137 k = N.2 137 k) ∧ ((b = true ∧ ∃ A'' L' S', A' = z_wI A'' 47 7 1 ∧ YR A'' N' 0 L' S' ∧ Sg A'' N' 0 L' ∧ A''.1 5 7 = 0 ∧ A''.1 5 8 = -1 ∧ N'.1 137 12 = 0) ∨ (b = false ∧ Bd A' N')) := by
  have b1 : F_X9_beginAnew w M 30 = some ((), z_wI (z_wI (z_wI M 47 5 0) 47 6 0) 47 7 0) := rfl
  have bx : ∀ x, x ≠ 47 → x ≠ 56 → (z_wI (z_wI (z_wI (z_wI M 47 5 0) 47 6 0) 47 7 0) 56 3 0).1 x = M.1 x := fun x p q => by rw [wI_row q, wI_row p, wI_row p, wI_row p]
  obtain ⟨A2, N2, j, e, c, o1, o2, o3, o4, o5, o6, o7, o8, o9, o10⟩ := g_open (w := w) (n := n) (t := t) (A := z_wI (z_wI (z_wI (z_wI M 47 5 0) 47 6 0) 47 7 0) 56 3 0) (N := z_wI (z_wI N 137 1 0) 137 0 0) hw (by omega) ht (fun k hk => by rw [bx 6 (by omega) (by omega)]; exact ha k hk) (fun k hk => by rw [wI_row (by omega), wI_row (by omega)]; exact hn k hk)
  have G : Gd A2 (z_wI N2 137 25 0) t n j e c := Gd_k o3 rfl rfl (wI_row (by omega)) (fun k hk => wI_slot (by omega)) rfl
  have Y : YR A2 (z_wI N2 137 25 0) 0 0 0 := by
    refine ⟨?_, ?_, wI_same, ?_, rfl, rfl, by omega, by omega, by omega, fun i hi => absurd hi (Nat.not_lt_zero i)⟩
    · rw [o4 47 (by omega), wI_row (by omega), wI_slot (by omega), wI_slot (by omega), wI_same]; rfl
    · rw [o4 47 (by omega), wI_row (by omega), wI_slot (by omega), wI_same]; rfl
    · rw [o4 56 (by omega), wI_same]; rfl
  have Z : Sg A2 (z_wI N2 137 25 0) 0 0 := Sg_0 (Nat.zero_le 3)
  obtain ⟨b, A', N', c1, l1, l2, l3, l4, l5, l6⟩ := lw_yrs (w := w) (n := n) (t := t) hw (n + 1) w w 0 A2 (z_wI N2 137 25 0) j e c 0 0 (by omega) (by omega) (by omega) (Nat.zero_le j) G Y Z
  obtain ⟨q1, q2, q3, q4, q5⟩ := l5
  have k137 : ∀ k, k < 8 ∨ (19 ≤ k ∧ ¬ k = 25) → N'.1 137 k = (z_wI (z_wI N 137 1 0) 137 0 0).1 137 k := fun k hk => by
    rw [q3 k (by omega) (by omega), wI_slot (by omega), o7 k (by omega)]
  refine ⟨b, A', N', c1, ?_, ?_, l3, fun x h1 h2 => ?_, ?_, fun x h1 h2 => ?_, fun k hk => ?_, ⟨?_, ?_, fun k hk => ?_⟩, fun x h1 => ?_, fun k hk => ?_, l6⟩
  · unfold F_X10_readText
    rw [b1, bindS]
    dsimp only
    rw [o1, bindS]
    exact l1
  · unfold F_X12_years
    rw [m_starts (L := 300) (lim := 300) rfl (by omega) (show (z_wI (z_wI N 137 1 0) 137 0 0).1 137 8 = nI f by rw [wI_slot (by omega), wI_slot (by omega), h8]) hf hnf h300 o2, bindS, if_pos rfl]
    exact l2
  · rw [l4.1 x h1 (by omega) (by omega) (by omega), o4 x h1, bx x (by omega) (by omega)]
  · rw [l4.2.2, o5]; rfl
  · rw [q1 x h1 h2, wI_row h1, o6 x h1, wI_row h1, wI_row h1]
  · rw [q2 k hk, wI_row (by omega), o6 142 (by omega), wI_row (by omega), wI_row (by omega)]
  · rw [k137 0 (by omega), wI_same]
  · rw [q3 8 (by omega) (by omega), wI_slot (by omega), o8]
  · rw [k137 k (by omega), wI_slot (by omega), wI_slot (by omega)]
  · rw [q4 x h1, wI_2, o9 x h1, wI_2, wI_2]
  · rw [q5 k hk, wI_2, o10 k hk, wI_2, wI_2]
end
