/-! ===== mean ===== -/
section
variable {w : Nat}
theorem f_tell2 (hw : 1000 ≤ w) {a b : Nat} (ha : a < 2 ^ 40) (hb0 : 0 < b) (hb : b < 2 ^ 40) (M : z_Mem) : F_X11_tellFraction w M (lN a) (lN b) = some (true, fr_c M a b) := by
  by_cases hab : a ≤ b
  · exact f_tell hw hab hb0 hb M
  · have p1 : (0 : Int32) < lg_cmp (lN b) 0 := (lg_cmp_gt _ _).mpr ((pk_lLT (a := 0) (by omega) (by omega)).mpr hb0)
    have p3 : ¬ lg_cmp (lN a) 0 ≤ (0 : Int32) := fun e => by
      have := (pk_lLE (b := 0) (by omega) (by omega)).mp ((lg_cmp_le _ _).mp e)
      omega
    have p2 : ¬ lN a = 0 := fun e => by
      have := (pk_lEQ (b := 0) (by omega) (by omega)).mp e
      omega
    obtain ⟨c, hc⟩ : ∃ c', w = c' + 1 := ⟨w - 1, by omega⟩
    have key : L_X11_tellFraction w (c + 1) M (lN a) (lN b) (lN b) (lN a) 0 = some (true, fr_c M a b) := by
      rw [L_X11_tellFraction, if_neg (by decide), if_neg p3, if_neg p2, pk_lRem (by omega) (by omega) (by omega), Nat.mod_eq_of_lt (by omega : b < a)]
      exact cl_fr ha hb M 40 a b 1 c (by omega) (by omega) ha (by omega) (by omega) (by omega) rfl
    rw [← hc] at key
    unfold F_X11_tellFraction
    rw [if_pos p1]
    exact key
theorem f_frac2 (hw : 1000 ≤ w) {a b : Nat} (ha : a < 2 ^ 40) (hb0 : 0 < b) (hb : b < 2 ^ 40) (M : z_Mem) : F_X12_fraction w M (lN a) (lN b) = some (true, fr_m M a b) := by
  have e : (if (0 : Int64) < lN a then lN a else -lN a) = lN a := by
    by_cases h : 0 < a
    · rw [if_pos (show (0 : Int64) < lN a from (pk_lLT (a := 0) (by omega) (by omega)).mpr h)]
    · obtain rfl : a = 0 := by omega
      rfl
  have p2 : ¬ lN b = 0 := fun e => by
    have := (pk_lEQ (b := 0) (by omega) (by omega)).mp e
    omega
  have p1 : ¬ lg_cmp (lN b) 0 = (0 : Int32) := fun e => p2 ((lg_cmp_eq _ _).mp e)
  unfold F_X12_fraction
  rw [e]
  obtain ⟨c, hc⟩ : ∃ c', w = c' + 1 := ⟨w - 1, by omega⟩
  have key : L_X12_fraction w (c + 1) M (lN a) (lN b) (lN a) (lN b) = some (true, fr_m M a b) := by
    have hm := Nat.mod_lt a hb0
    rw [L_X12_fraction, if_neg p1, if_neg p2, pk_lRem (by omega) hb0 (by omega)]
    exact ml_fr ha hb M 40 b (a % b) c (by omega) hb0 hb (by omega) (by omega) (Nat.gcd_rec b a).symm
  rw [← hc] at key
  exact key
/-- both chests, as a number -/
theorem both_n {P : t_P} (v : VP P) : ∃ n, n ≤ 19998 ∧ P.1 12 + P.1 13 = nI n := by
  obtain ⟨x, _, hx, ex⟩ := (i_rng 0 9999 (by omega) (by omega)).mp v.1.2.2.1
  obtain ⟨y, _, hy, ey⟩ := (i_rng 0 9999 (by omega) (by omega)).mp v.1.2.2.2.1
  exact ⟨x + y, by omega, by rw [ex, ey, nI_add]⟩
/-- years lived on a spare parish, and on the row, taken back: the same sums -/
theorem lw_mean (hw : 100000 ≤ w) {M : z_Mem} {P : t_P} {y : List t_Y} (hc : CP M 7 P) (hb : BP (M.1 142) P) (hv : VP P) (hy : P.2.2.2.2 = (true, y)) {sd many : Nat} (hs : sd + many ≤ 10000) (hm : 1 ≤ many ∧ many ≤ 20) : ∀ (j i s c c' : Nat) (A N : z_Mem), i + j = many → j < c → j < c' → s ≤ 19998 * i → (∀ x, x ≠ 66 → x ≠ 67 → (x < 30 ∨ 53 ≤ x) → A.1 x = M.1 x) → A.2 = M.2 → N.1 142 = M.1 142 → (∀ k, k < 103 → N.1 143 k = M.1 142 k) → ∃ t B K, t < 2 ^ 40 ∧ L_X11_mean w c A (nI sd) (nI many) (lN s) (nI i) = some (true, fr_c B t many) ∧ (∀ x, x ≠ 66 → x ≠ 67 → (x < 30 ∨ 53 ≤ x) → B.1 x = M.1 x) ∧ B.2 = M.2 ∧ L_X12_mean w c' N (nI sd) (nI many) (lN s) (nI i) = some (true, fr_m K t many) ∧ K.1 142 = M.1 142 ∧ (∀ x, x ≠ 137 → x ≠ 142 → K.1 x = N.1 x) ∧ (∀ k, k < 31 → K.1 137 k = N.1 137 k) ∧ K.2 = N.2 := by
  have nm := nI_l (n := many) (by omega)
  intro j
  induction j with
  | zero =>
    intro i s c c' A N h1 h2 h3 h4 a1 a2 n1 n2
    obtain ⟨c, rfl⟩ : ∃ x, c = x + 1 := ⟨c - 1, by omega⟩
    obtain ⟨c', rfl⟩ : ∃ x, c' = x + 1 := ⟨c' - 1, by omega⟩
    obtain rfl : i = many := by omega
    refine ⟨s, A, N, by omega, ?_, a1, a2, ?_, n1, fun _ _ _ => rfl, fun _ _ => rfl, rfl⟩
    · rw [L_X11_mean, if_pos (nI_le (by omega) (by omega)), nm, f_tell2 (by omega) (by omega) (by omega) (by omega), bindS]
    · rw [L_X12_mean, if_pos (nI_le (by omega) (by omega)), nm, f_frac2 (by omega) (by omega) (by omega) (by omega), bindS]
  | succ j ih =>
    intro i s c c' A N h1 h2 h3 h4 a1 a2 n1 n2
    obtain ⟨c, rfl⟩ : ∃ x, c = x + 1 := ⟨c - 1, by omega⟩
    obtain ⟨c', rfl⟩ : ∃ x, c' = x + 1 := ⟨c' - 1, by omega⟩
    have cA : CP A 7 P := CP_of hc (fun x g1 g2 => a1 x (by omega) (by omega) (by omega))
    obtain ⟨A0, b1, b2, b3⟩ := c_copy (w := w) (p := 30) (q := 7) (by omega) cA hv (by omega)
    obtain ⟨A1, N1, P1, st, ms, lf, r1, m1, c1, c2, c3, c4, _, _, _, _, _, f1, f2, f3, f4, f5, f6⟩ := y_run (w := w) (l := 66) (p := 30) (A := A0) (N := N) hw (by omega) b2 (by rw [n1]; exact hb) hv hy (sd := sd + i) (by omega)
    obtain ⟨n, hn, en⟩ := both_n c3
    have bo : F_X3_bothChests w A1 30 = some (nI n, A1) := by
      have x1 : A1.1 31 0 = P1.1 12 := c1.1.2.2.2.2.2.2.2.1
      have x2 : A1.1 31 1 = P1.1 13 := c1.1.2.2.2.2.2.2.2.2
      unfold F_X3_bothChests
      rw [show 30 + 1 = 31 from rfl, x1, x2, en]
    have bo2 : F_X12_bothChests w N1 = some (nI n, N1) := by
      have x1 : N1.1 142 12 = P1.1 12 := c2.1.2.2.2.2.2.2.1
      have x2 : N1.1 142 13 = P1.1 13 := c2.1.2.2.2.2.2.2.2.1
      unfold F_X12_bothChests
      rw [x1, x2, en]
    obtain ⟨C, q1, q2, q3, q4, q5⟩ := ml_rest (w := w) 103 0 w N1 (by omega) (by omega)
    have q1' : F_X12_restores w N1 = some ((), C) := q1
    have e142 : C.1 142 = M.1 142 := by
      funext k
      by_cases g : k < 103
      · rw [q4 k (by omega) g, f3 143 (by omega) (by omega), n2 k g]
      · rw [q5 k (by omega), f5 k (by omega), n1]
    have nl := nI_l (n := n) (by omega)
    obtain ⟨t, B, K, t0, t1, t2, t3, t4, t5, t6, t7, t8⟩ := ih (i + 1) (s + n) c c' A1 C (by omega) (by omega) (by omega) (by omega) (fun x g1 g2 g3 => by rw [f1 x g1 g2 (by omega), b3.1 x (by omega), a1 x g1 g2 g3]) (by rw [f2, b3.2, a2]) e142 (fun k hk => by rw [q2 143 (by omega), f3 143 (by omega) (by omega), n2 k hk])
    refine ⟨t, B, K, t0, ?_, t2, t3, ?_, t5, fun x g1 g2 => ?_, fun k hk => ?_, ?_⟩
    · rw [L_X11_mean, if_neg (nI_ge (by omega) (by omega)), b1, bindS, nI_add, r1, bindS, bo, bindS, nl, lN_add, nI_11]
      exact t1
    · rw [L_X12_mean, if_neg (nI_ge (by omega) (by omega)), nI_add, m1, bindS, bo2, bindS, q1', bindS, nl, lN_add, nI_11]
      exact t4
    · rw [t6 x g1 g2, q2 x g2, f3 x g1 g2]
    · rw [t7 k hk, q2 137 (by omega), f4 k hk]
    · rw [t8, q3, f6]
theorem r_q2 {M M' : z_Mem} (h : r_Rel M) (hs : M'.1 0 11 = M'.1 137 0) (k0 : ∀ k, k = 10 ∨ k = 14 ∨ k = 15 ∨ k = 16 → M'.1 0 k = M.1 0 k) (k1 : ∀ k, k = 8 ∨ k = 10 ∨ k = 11 ∨ k = 23 ∨ k = 30 → M'.1 137 k = M.1 137 k) (k5 : M'.1 5 1 = M.1 5 1) (ka : ∀ a, r_core a → M'.1 a = M.1 a) (kl : M'.2 2 = M.2 2 ∧ M'.2 140 = M.2 140) (hf : r_Fr M') : r_Rel M' := by
  have hq : r_Rel (M'.1, M.2) := r_q h hs k0 k1 k5 ka (fun _ _ _ => rfl)
  obtain ⟨h1, h2, h3, h4, h5, h6, h7, h8⟩ := hq
  refine ⟨h1, ?_, hf, h4, h5, h6, ?_, ?_⟩
  · unfold r_Tr at h2 ⊢
    rw [kl.1, kl.2]
    exact h2
  · obtain ⟨P, a, b, c⟩ := h7
    exact ⟨P, CP_of a (fun x _ _ => rfl), b, c⟩
  · obtain ⟨n, hn, a, b, c⟩ := h8
    refine ⟨n, hn, a, b, fun i hi => ?_⟩
    obtain ⟨P, c1, c2, c3⟩ := c i hi
    exact ⟨P, CP_of c1 (fun x _ _ => rfl), c2, c3⟩
variable {M : z_Mem}
theorem call_mean (hw : 100000 ≤ w) (h : r_Rel M) (a b : Int32) : r_ok (F_X11_mean w M a b) (fun M => F_X12_mean w M a b) := by
  obtain ⟨P, hc, hb, hv⟩ := h.2.2.2.2.2.2.1
  have y7 : M.1 24 7 = z_tb P.2.2.2.2.1 := hc.2.2.2.2.2.2.1
  have y103 : M.1 142 103 = z_tb P.2.2.2.2.1 := hb.2.2.2.2.1
  have ref : ∀ v : Int32, F_X11_mean w M a b = some (false, z_wI M 0 11 v) → F_X12_mean w (z_wI M 0 11 v) a b = some (false, z_st M v) → r_ok (F_X11_mean w M a b) (fun M => F_X12_mean w M a b) := fun v e1 e2 => ⟨false, _, _, e1, e2, r_stv v h⟩
  by_cases g2 : (1 : Int32) ≤ b ∧ b ≤ 20
  · have m2 := fun N => in_t (w := w) (M := N) (a := b) (B := 1) (C := 20) 1 20 rfl rfl g2
    have w2 : ∀ N, F_X11_isWithin w N b 1 20 = some (true, N) := fun N => by rw [f_wi, decide_eq_true g2]
    obtain ⟨many, hm1, hm2, rfl⟩ := (i_rng 1 20 (by omega) (by omega)).mp g2
    have e0 : (10000 : Int32) - nI many = nI (10000 - many) := pk_sub (a := 10000) (by omega)
    by_cases g : (0 : Int32) ≤ a ∧ a ≤ 9999
    · have w1 : ∀ N, F_X11_isWithin w N a 0 9999 = some (true, N) := fun N => by rw [f_wi, decide_eq_true g]
      obtain ⟨sd, _, hs, rfl⟩ := (i_rng 0 9999 (by omega) (by omega)).mp g
      have e1 : nI (sd + many) - 1 = nI (sd + many - 1) := pk_sub (b := 1) (by omega)
      by_cases g3 : sd + many ≤ 10000
      · have l1 : nI (sd + many - 1) ≤ (9999 : Int32) := nI_le (b := 9999) (by omega) (by omega)
        have m1 := fun N => in_t (w := w) (M := N) (a := nI sd) (B := 0) (C := (nI (10000 - many)).toInt64) 0 _ rfl rfl ⟨nI_pos' (by omega), nI_le (by omega) (by omega)⟩
        cases ht : P.2.2.2.2.1
        · rw [ht] at y7 y103
          exact ref 8 (by simp (maxSteps := 2000000) (decide := true) (disch := omega) only [F_X11_mean, F_X11_deny, w1, w2, e1, l1, y7, z_bb1.2.1, bindS, wI_row, wI_slot, wI_same, wI_2, nI_p0, false_or, nle_f, nI_cl, n_lad, n_adl, nI_add, if_true, if_false, ite_true, ite_false, ↓reduceIte]) (by simp (maxSteps := 2000000) (decide := true) (disch := omega) only [F_X12_mean, F_X12_no, m2, e0, m1, y103, z_bb1.2.2.2, z_st, wI_wI, bindS, wI_row, wI_slot, wI_same, wI_2, nI_p0, false_or, nle_f, nI_cl, n_lad, n_adl, nI_add, if_true, if_false, ite_true, ite_false, ↓reduceIte])
        · have hy : P.2.2.2.2 = (true, P.2.2.2.2.2) := by rw [← ht]
          rw [ht] at y7 y103
          have key := fun (N : z_Mem) (n1 : N.1 142 = M.1 142) (n2 : ∀ k, k < 103 → N.1 143 k = M.1 142 k) => lw_mean (w := w) hw hc hb hv hy g3 ⟨hm1, hm2⟩ many 0 0 w w M N (by omega) (by omega) (by omega) (by omega) (fun _ _ _ _ => rfl) rfl n1 n2
          obtain ⟨K0, k1, k2, k3, k4⟩ := f_keeps (w := w) (by omega) M
          obtain ⟨t, B, _, t0, t1, t2, t3, _⟩ := key K0 (k2 142 (by omega)) k4
          obtain ⟨L, l2, l3, l4, l5⟩ := f_keeps (w := w) (by omega) (z_wI (z_wI (fr_c B t many) 137 1 0) 137 0 0)
          have e142 : (z_wI (z_wI (fr_c B t many) 137 1 0) 137 0 0).1 142 = M.1 142 := by
            rw [wI_row (by omega), wI_row (by omega)]
            show B.1 142 = _
            exact t2 142 (by omega) (by omega) (by omega)
          obtain ⟨t', B', K, s0, s1, s2, s3, s4, s5, s6, s7, s8⟩ := key L (by rw [l3 142 (by omega)]; exact e142) (fun k hk => by rw [l5 k hk, e142])
          rw [t1] at s1
          simp only [Option.some.injEq, Prod.mk.injEq, true_and] at s1
          have t1' : L_X11_mean w w M (nI sd) (nI many) 0 0 = _ := t1
          have s4' : L_X12_mean w w L (nI sd) (nI many) 0 0 = _ := s4
          -- the same fraction on both sides
          have f12 := congrArg (fun z : z_Mem => z.2 0 12) s1
          have f13 := congrArg (fun z : z_Mem => z.2 0 13) s1
          have v12 : ∀ (Z : z_Mem) (u : Nat), (fr_c Z u many).2 0 12 = lN (u / Nat.gcd many u) := fun Z u => by unfold fr_c; simp [wL_rd, wI_2]
          have v13 : ∀ (Z : z_Mem) (u : Nat), (fr_c Z u many).2 0 13 = lN (many / Nat.gcd many u) := fun Z u => by unfold fr_c; simp [wL_rd, wI_2]
          simp only [v12, v13] at f12 f13
          have fB : ∀ x, x ≠ 0 → x ≠ 66 → x ≠ 67 → (x < 30 ∨ 53 ≤ x) → (fr_c B t many).1 x = M.1 x := by
            intro x g1 g2 g3 g4
            show (z_wI _ 0 11 0).1 x = _
            rw [wI_row g1]
            exact t2 x g2 g3 g4
          have kK : ∀ x, x ≠ 0 → x ≠ 137 → x ≠ 142 → x ≠ 143 → x ≠ 66 → x ≠ 67 → (x < 30 ∨ 53 ≤ x) → K.1 x = M.1 x := by
            intro x g1 g2 g3 g4 g5 g6 g7
            rw [s6 x g2 g3, l3 x g4, wI_row g2, wI_row g2, fB x g1 g5 g6 g7]
          have k137 : ∀ k, k ≠ 0 → k ≠ 1 → k < 31 → K.1 137 k = M.1 137 k := by
            intro k g1 g2 g3
            rw [s7 k g3, l3 137 (by omega), wI_slot g1, wI_slot g2, fB 137 (by omega) (by omega) (by omega) (by omega)]
          have k0 : K.1 0 = (fr_c B t many).1 0 := by
            rw [s6 0 (by omega) (by omega), l3 0 (by omega), wI_row (by omega), wI_row (by omega)]
          refine ⟨true, fr_c B t many, fr_m K t' many, ?_, ?_, ?_⟩
          · simp (maxSteps := 2000000) (decide := true) (disch := omega) only [F_X11_mean, w1, w2, e1, l1, y7, z_bb1.1, t1', bindS, wI_row, wI_slot, wI_same, wI_2, nI_p0, false_or, nle_f, nI_cl, n_lad, n_adl, nI_add, if_true, if_false, ite_true, ite_false, ↓reduceIte]
          · have y103' : (fr_c B t many).1 142 103 = z_tb true := by rw [fB 142 (by omega) (by omega) (by omega) (by omega)]; exact y103
            simp (maxSteps := 2000000) (decide := true) (disch := omega) only [F_X12_mean, m2, e0, m1, y103', z_bb1.2.2.1, l2, s4', bindS, wI_row, wI_slot, wI_same, wI_2, nI_p0, false_or, nle_f, nI_cl, n_lad, n_adl, nI_add, if_true, if_false, ite_true, ite_false, ↓reduceIte]
          · have f1 : (fr_m K t' many).1 = K.1 := rfl
            have KL : K.2 = (fr_c B t many).2 := by rw [s8, l4]; rfl
            refine r_q2 h ?_ ?_ ?_ ?_ ?_ ⟨?_, ?_⟩ ⟨?_, ?_⟩
            · rw [f1, k0, s7 0 (by omega), l3 137 (by omega), wI_same]
              show (z_wI _ 0 11 0).1 0 11 = 0
              exact wI_same
            · intro k hk
              rw [f1, k0]
              show (z_wI _ 0 11 0).1 0 k = _
              rw [wI_slot (by omega)]
              show B.1 0 k = _
              rw [t2 0 (by omega) (by omega) (by omega)]
            · intro k hk
              rw [f1]
              exact k137 k (by omega) (by omega) (by omega)
            · rw [f1, kK 5 (by omega) (by omega) (by omega) (by omega) (by omega) (by omega) (by omega)]
            · intro x hx
              unfold r_core at hx
              rw [f1]
              by_cases e : x = 142
              · rw [e]; exact s5
              · exact kK x (by omega) (by omega) e (by omega) (by omega) (by omega) (by omega)
            · unfold fr_m
              rw [wL_row (by omega), wL_row (by omega), KL]
              unfold fr_c
              rw [wI_2, wL_row (by omega), wL_row (by omega), t3]
            · unfold fr_m
              rw [wL_row (by omega), wL_row (by omega), KL]
              unfold fr_c
              rw [wI_2, wL_row (by omega), wL_row (by omega), t3]
            · have a1 : (fr_m K t' many).2 0 12 = lN (t / Nat.gcd many t) := by
                unfold fr_m
                rw [wL_row (by omega), wL_row (by omega), KL, v12]
              have a2 : (fr_m K t' many).2 137 2 = lN (t' / Nat.gcd many t') := by unfold fr_m; simp [wL_rd]
              rw [a1, a2]
              exact f12
            · have a1 : (fr_m K t' many).2 0 13 = lN (many / Nat.gcd many t) := by
                unfold fr_m
                rw [wL_row (by omega), wL_row (by omega), KL, v13]
              have a2 : (fr_m K t' many).2 137 3 = lN (many / Nat.gcd many t') := by unfold fr_m; simp [wL_rd]
              rw [a1, a2]
              exact f13
      · have l1 : ¬ nI (sd + many - 1) ≤ (9999 : Int32) := nI_ge (a := 9999) (by omega) (by omega)
        have m1 := fun N => in_f (w := w) (M := N) (a := nI sd) (B := 0) (C := (nI (10000 - many)).toInt64) 0 _ rfl rfl (fun x => by have := (nI_leI (by omega) (by omega)).mp x.2; omega)
        exact ref 5 (by simp (maxSteps := 2000000) (decide := true) (disch := omega) only [F_X11_mean, F_X11_deny, w1, w2, e1, l1, bindS, wI_row, wI_slot, wI_same, wI_2, nI_p0, false_or, nle_f, nI_cl, n_lad, n_adl, nI_add, if_true, if_false, ite_true, ite_false, ↓reduceIte]) (by simp (maxSteps := 2000000) (decide := true) (disch := omega) only [F_X12_mean, F_X12_no, m2, e0, m1, z_st, wI_wI, Bool.false_eq_true, bindS, wI_row, wI_slot, wI_same, wI_2, nI_p0, false_or, nle_f, nI_cl, n_lad, n_adl, nI_add, if_true, if_false, ite_true, ite_false, ↓reduceIte])
    · have w1 : ∀ N, F_X11_isWithin w N a 0 9999 = some (false, N) := fun N => by rw [f_wi, decide_eq_false g]
      have m1 := fun N => in_f (w := w) (M := N) (a := a) (B := 0) (C := (nI (10000 - many)).toInt64) 0 _ rfl rfl (fun x => g ⟨x.1, by
        have y := Int32.le_iff_toInt_le.mp x.2
        rw [nI_toInt (by omega)] at y
        have z : (9999 : Int32).toInt = 9999 := rfl
        exact Int32.le_iff_toInt_le.mpr (by omega)⟩)
      exact ref 5 (by simp (maxSteps := 2000000) (decide := true) (disch := omega) only [F_X11_mean, F_X11_deny, w1, Bool.false_eq_true, bindS, wI_row, wI_slot, wI_same, wI_2, nI_p0, false_or, nle_f, nI_cl, n_lad, n_adl, nI_add, if_true, if_false, ite_true, ite_false, ↓reduceIte]) (by simp (maxSteps := 2000000) (decide := true) (disch := omega) only [F_X12_mean, F_X12_no, m2, e0, m1, z_st, wI_wI, Bool.false_eq_true, bindS, wI_row, wI_slot, wI_same, wI_2, nI_p0, false_or, nle_f, nI_cl, n_lad, n_adl, nI_add, if_true, if_false, ite_true, ite_false, ↓reduceIte])
  · have m2 := fun N => in_f (w := w) (M := N) (a := b) (B := 1) (C := 20) 1 20 rfl rfl g2
    have w2 : ∀ N, F_X11_isWithin w N b 1 20 = some (false, N) := fun N => by rw [f_wi, decide_eq_false g2]
    refine ref 5 ?_ (by simp (maxSteps := 2000000) (decide := true) (disch := omega) only [F_X12_mean, F_X12_no, m2, z_st, wI_wI, Bool.false_eq_true, bindS, wI_row, wI_slot, wI_same, wI_2, nI_p0, false_or, nle_f, nI_cl, n_lad, n_adl, nI_add, if_true, if_false, ite_true, ite_false, ↓reduceIte])
    by_cases g : (0 : Int32) ≤ a ∧ a ≤ 9999
    · have w1 : ∀ N, F_X11_isWithin w N a 0 9999 = some (true, N) := fun N => by rw [f_wi, decide_eq_true g]
      simp (maxSteps := 2000000) (decide := true) (disch := omega) only [F_X11_mean, F_X11_deny, w1, w2, Bool.false_eq_true, bindS, wI_row, wI_slot, wI_same, wI_2, nI_p0, false_or, nle_f, nI_cl, n_lad, n_adl, nI_add, if_true, if_false, ite_true, ite_false, ↓reduceIte]
    · have w1 : ∀ N, F_X11_isWithin w N a 0 9999 = some (false, N) := fun N => by rw [f_wi, decide_eq_false g]
      simp (maxSteps := 2000000) (decide := true) (disch := omega) only [F_X11_mean, F_X11_deny, w1, Bool.false_eq_true, bindS, wI_row, wI_slot, wI_same, wI_2, nI_p0, false_or, nle_f, nI_cl, n_lad, n_adl, nI_add, if_true, if_false, ite_true, ite_false, ↓reduceIte]
end
