/-! ===== years: a step done ===== -/
def n_dr (d : Nat) : Nat := (d * 2971 + 10939) % 65536
theorem n_dr_lt (d : Nat) : n_dr d < 65536 := Nat.mod_lt _ (by omega)
section
variable {w : Nat}
theorem f_draw5 {A : z_Mem} {l d n : Nat} (h : A.1 l 1 = nI d) (hd : d < 65536) (hn : n = 4 ∨ n = 16) : F_X2_drawBy w A l (nI n) = some (nI (n_dr d / 8 % n), z_wI A l 1 (nI (n_dr d))) := by
  have hl := n_dr_lt d
  have e1 : (nI d * 2971 + 10939) &&& 65535 = nI (n_dr d) := by
    rw [show (2971 : Int32) = nI 2971 from rfl, show (10939 : Int32) = nI 10939 from rfl, g_nmul, nI_add]
    exact pk_andN (by omega) 16 (by decide)
  have e2 : nI (n_dr d) >>> ((3 : Int32) &&& 31) = nI (n_dr d / 8) := pk_shrN (by omega) _ 3 (by decide)
  have e3 : nI (n_dr d / 8) - nI (n_dr d / 8) / nI n * nI n = nI (n_dr d / 8 % n) := pk_rem (by omega) (by omega) (by omega)
  unfold F_X2_drawBy
  rw [if_neg (nle0 (by omega) (by omega)), if_neg (show ¬ nI n = 0 from fun y => by have := (nI_eq (b := 0) (by omega) (by omega)).mp y; omega), h, e1, e2, e3]
theorem f_draw12 {N : z_Mem} {d n : Nat} (h : N.1 137 32 = nI d) (hd : d < 65536) (hn : n = 4 ∨ n = 16) : F_X12_draw w N (nI n) = some (nI (n_dr d / 8 % n), z_wI N 137 32 (nI (n_dr d))) := by
  have hl := n_dr_lt d
  have e1 : nI d * 2971 + 10939 = nI (d * 2971 + 10939) := by
    rw [show (2971 : Int32) = nI 2971 from rfl, show (10939 : Int32) = nI 10939 from rfl, g_nmul, nI_add]
  have e2 : nI (d * 2971 + 10939) - nI (d * 2971 + 10939) / 65536 * 65536 = nI (n_dr d) := pk_rem (d := 65536) (by omega) (by omega) (by omega)
  have e3 : nI (n_dr d) / 8 = nI (n_dr d / 8) := pk_div (d := 8) (by omega) (by omega) (by omega)
  have e4 : nI (n_dr d / 8) - nI (n_dr d / 8) / nI n * nI n = nI (n_dr d / 8 % n) := pk_rem (by omega) (by omega) (by omega)
  unfold F_X12_draw
  rw [if_neg (show ¬ nI n = 0 from fun y => by have := (nI_eq (b := 0) (by omega) (by omega)).mp y; omega), h, e1, e2, e3, e4]
end
theorem iter_k : ∀ (n : Nat) (P : t_P), (p_iter n P).2.2.2 = P.2.2.2 := by
  intro n
  induction n with
  | zero => intro P; rfl
  | succ n ih => intro P; rw [p_iter, ih]; rfl
/-! which step a row is -/
theorem no_s {y : List t_Y} {i : Nat} {r : t_Y} (h : y[i]? = some r) : y_no y (i + 1) = if r.1 = 28 then y_no y i else y_no y i + 1 := by
  have hi := y_lt h
  unfold y_no y_steps
  rw [List.take_succ, h, List.filter_append, List.length_append]
  by_cases e : r.1 = 28
  · rw [if_pos e]; simp [e]
  · rw [if_neg e]; simp [e]
theorem no_le (y : List t_Y) : ∀ i, y_no y i ≤ y_steps y := by
  intro i
  unfold y_no y_steps
  exact (List.Sublist.filter _ (List.take_sublist i y)).length_le
theorem no_0 (y : List t_Y) : y_no y 0 = 0 := by unfold y_no y_steps; simp
theorem no_l (y : List t_Y) : y_no y y.length = y_steps y := by unfold y_no; rw [List.take_length]
theorem no_lt {y : List t_Y} {i : Nat} {r : t_Y} (h : y[i]? = some r) (hr : ¬ r.1 = 28) : y_no y i < y_steps y := by
  have h1 := no_s h
  rw [if_neg hr] at h1
  have h2 := no_le y (i + 1)
  omega
/-- what doing leaves as it was -/
def s_fr (l p : Nat) (A A' N N' : z_Mem) : Prop := (∀ x, x ≠ l → (x < p ∨ p + 23 ≤ x) → A'.1 x = A.1 x) ∧ (∀ k, k ≠ 1 → A'.1 l k = A.1 l k) ∧ A'.2 = A.2 ∧ (∀ a, a ≠ 137 → a ≠ 142 → N'.1 a = N.1 a) ∧ (∀ k, k ≠ 32 → N'.1 137 k = N.1 137 k) ∧ (∀ k, 103 ≤ k → N'.1 142 k = N.1 142 k) ∧ N'.2 = N.2
/-- class and reference have the same of a parish and its draws -/
def s_st (l p : Nat) (A N : z_Mem) (P : t_P) (d : Nat) : Prop := CP A p P ∧ BP (N.1 142) P ∧ VP P ∧ d < 65536 ∧ A.1 l 1 = nI d ∧ N.1 137 32 = nI d
section
variable {w : Nat}
theorem s_kc {l p : Nat} (hlp : l < p ∨ p + 23 ≤ l) {A A' N N' : z_Mem} {P P' : t_P} {d : Nat} (h : s_st l p A N P d) (hA : Kc p A A') (hN : Km N N') (c : CP A' p P') (b : BP (N'.1 142) P') (v : VP P') : s_st l p A' N' P' d ∧ s_fr l p A A' N N' := by
  obtain ⟨_, _, _, h4, h5, h6⟩ := h
  refine ⟨⟨c, b, v, h4, by rw [hA.1 l hlp]; exact h5, by rw [hN.1 137 (by omega)]; exact h6⟩, fun x _ hx => hA.1 x hx, fun k _ => by rw [hA.1 l hlp], hA.2, fun a _ ha => hN.1 a ha, fun k _ => by rw [hN.1 137 (by omega)], hN.2.1, hN.2.2⟩
theorem s_rfl {l p : Nat} {A N : z_Mem} : s_fr l p A A N N := ⟨fun _ _ _ => rfl, fun _ _ => rfl, rfl, fun _ _ _ => rfl, fun _ _ => rfl, fun _ _ => rfl, rfl⟩
theorem s_trans {l p : Nat} {A B C N L K : z_Mem} (h : s_fr l p A B N L) (g : s_fr l p B C L K) : s_fr l p A C N K := by
  obtain ⟨a1, a2, a3, a4, a5, a6, a7⟩ := h
  obtain ⟨b1, b2, b3, b4, b5, b6, b7⟩ := g
  exact ⟨fun x h1 h2 => (b1 x h1 h2).trans (a1 x h1 h2), fun k hk => (b2 k hk).trans (a2 k hk), b3.trans a3, fun a h1 h2 => (b4 a h1 h2).trans (a4 a h1 h2), fun k hk => (b5 k hk).trans (a5 k hk), fun k hk => (b6 k hk).trans (a6 k hk), b7.trans a7⟩
/-- a draw on both sides -/
theorem s_draw {l p : Nat} (hlp : l < p ∨ p + 23 ≤ l) {A N : z_Mem} {P : t_P} {d : Nat} (h : s_st l p A N P d) : s_st l p (z_wI A l 1 (nI (n_dr d))) (z_wI N 137 32 (nI (n_dr d))) P (n_dr d) ∧ s_fr l p A (z_wI A l 1 (nI (n_dr d))) N (z_wI N 137 32 (nI (n_dr d))) := by
  obtain ⟨c, b, v, h4, h5, h6⟩ := h
  refine ⟨⟨CP_of c (fun x h1 h2 => wI_row (by omega)), by rw [wI_row (by omega)]; exact b, v, n_dr_lt d, wI_same, wI_same⟩, fun x h1 _ => wI_row h1, fun k hk => wI_slot hk, rfl, fun a h1 _ => wI_row h1, fun k hk => wI_slot hk, fun k _ => by rw [wI_row (by omega)], rfl⟩
theorem s_pass {l p : Nat} (hw : 1000 ≤ w) (hlp : l < p ∨ p + 23 ≤ l) {A N : z_Mem} {P : t_P} {d : Nat} (h : s_st l p A N P d) {n : Nat} (hn : n < 900) : ∃ ok P' A' N', F_X3_passMonths w A p (nI n) = some (ok, A') ∧ F_X12_pass w N (nI n) = some (ok, N') ∧ s_st l p A' N' P' d ∧ P'.2.2.2 = P.2.2.2 ∧ s_fr l p A A' N N' := by
  have hh := h
  obtain ⟨c, b, v, h4, h5, h6⟩ := h
  by_cases q : P.1 9 + nI n ≤ 9999
  · obtain ⟨A', a1, a2, a3⟩ := (c_passN (w := w) c v hw hn).1 q
    obtain ⟨N', n1, n2, n3⟩ := (m_passN (w := w) b v hw hn).1 q
    obtain ⟨s1, s2⟩ := s_kc hlp hh a3 n3 a2 n2 (v_iter n v)
    exact ⟨true, p_iter n P, A', N', a1, n1, s1, iter_k n P, s2⟩
  · exact ⟨false, P, A, N, (c_passN (w := w) c v hw hn).2 q, (m_passN (w := w) b v hw hn).2 q, hh, rfl, s_rfl⟩
theorem s_carry {l p : Nat} (hlp : l < p ∨ p + 23 ≤ l) {A N : z_Mem} {P : t_P} {d : Nat} (h : s_st l p A N P d) (x y : Int32) : ∃ ok P' A' N', F_X3_carryBy w A p x y = some (ok, A') ∧ F_X12_carries w N x y = some (ok, N') ∧ s_st l p A' N' P' d ∧ P'.2.2.2 = P.2.2.2 ∧ s_fr l p A A' N N' := by
  have hh := h
  obtain ⟨c, b, v, h4, h5, h6⟩ := h
  by_cases q : q_car P.1 x y
  · obtain ⟨A', a1, a2, a3⟩ := (c_carry (w := w) c v x y).1 q
    obtain ⟨N', n1, n2, n3⟩ := (m_carry (w := w) b v x y).1 q
    obtain ⟨s1, s2⟩ := s_kc hlp hh a3 n3 a2 n2 (v_carry v q)
    exact ⟨true, p_carry P, A', N', a1, n1, s1, rfl, s2⟩
  · exact ⟨false, P, A, N, (c_carry (w := w) c v x y).2 q, (m_carry (w := w) b v x y).2 q, hh, rfl, s_rfl⟩
theorem s_swear {l p : Nat} (hlp : l < p ∨ p + 23 ≤ l) {A N : z_Mem} {P : t_P} {d : Nat} (h : s_st l p A N P d) {x y z : Int32} (hx : x = 0 ∨ x = 1) (hy : 1 ≤ y ∧ y ≤ 99) (hz : 1 ≤ z ∧ z ≤ 24) : ∃ ok P' A' N', F_X1_add w A p x y z = some (ok, A') ∧ F_X12_isSworn w N x y z = some (ok, N') ∧ s_st l p A' N' P' d ∧ P'.2.2.2 = P.2.2.2 ∧ s_fr l p A A' N N' := by
  have hh := h
  obtain ⟨c, b, v, h4, h5, h6⟩ := h
  have h5' : P.2.2.1.2.length ≤ 5 := v.2.2.1.1
  have b1 : N.1 142 1 = nI P.2.2.1.2.length := b.2.2.1.1
  by_cases q : P.2.2.1.2.length < 5
  · obtain ⟨A', a1, a2, a3⟩ := c_swear (w := w) c q x y z
    obtain ⟨N', n1, n2, n3⟩ := m_swear (w := w) b v q x y z
    obtain ⟨s1, s2⟩ := s_kc hlp hh a3 n3 a2 n2 (v_swear v q hx hy hz)
    refine ⟨true, p_swear P x y z, A', N', a1, ?_, s1, rfl, s2⟩
    unfold F_X12_isSworn
    rw [b1, if_neg (show ¬ nI P.2.2.1.2.length = 5 from fun e => by have := (nI_eq (b := 5) (by omega) (by omega)).mp e; omega), n1, bindS]
  · have h6' : P.2.2.1.2.length = 5 := by omega
    refine ⟨false, P, A, N, f_addD0 c.2.2.1 h6' x y z, ?_, hh, rfl, s_rfl⟩
    unfold F_X12_isSworn
    rw [b1, h6', if_pos (show nI 5 = 5 from rfl)]
theorem s_pay {l p : Nat} (hw : 1000 ≤ w) (hlp : l < p ∨ p + 23 ≤ l) {A N : z_Mem} {P : t_P} {d : Nat} (h : s_st l p A N P d) {g : Nat} (hg : g < 100) : ∃ ok P' A' N', F_X3_payDebt w A p (nI g) = some (ok, A') ∧ F_X12_pays w N (nI g) = some (ok, N') ∧ s_st l p A' N' P' d ∧ P'.2.2.2 = P.2.2.2 ∧ s_fr l p A A' N N' := by
  have hh := h
  obtain ⟨c, b, v, h4, h5, h6⟩ := h
  have h5' : P.2.2.1.2.length ≤ 5 := v.2.2.1.1
  have b1 : N.1 142 1 = nI P.2.2.1.2.length := b.2.2.1.1
  by_cases q : g < P.2.2.1.2.length
  · obtain ⟨x, x1, _⟩ := d_dr q
    by_cases q2 : q_pay P.1 x
    · obtain ⟨A', a1, a2, a3⟩ := (c_pay (w := w) c v x1 hw).1 q2
      obtain ⟨N', n1, n2, n3⟩ := (m_pay (w := w) b v x1 hw).1 q2
      obtain ⟨s1, s2⟩ := s_kc hlp hh a3 n3 a2 n2 (v_pay v x1 q2)
      exact ⟨true, p_pay P g x, A', N', a1, n1, s1, rfl, s2⟩
    · exact ⟨false, P, A, N, (c_pay (w := w) c v x1 hw).2 q2, (m_pay (w := w) b v x1 hw).2 q2, hh, rfl, s_rfl⟩
  · have nx : ¬ ∃ j, j < P.2.2.1.2.length ∧ nI g = nI j := by
      rintro ⟨j, h1, h2⟩
      have := (nI_eq (by omega) (by omega)).mp h2
      omega
    have e1 := thD_f (w := w) c.2.2.1.1 (by omega) nx
    have e2 := is_f (w := w) (M := N) nx (by omega)
    refine ⟨false, P, A, N, ?_, ?_, hh, rfl, s_rfl⟩
    · unfold F_X3_payDebt
      simp only [e1, bindS, Bool.false_eq_true, if_false]
    · unfold F_X12_pays F_X12_isDebtAt
      simp only [b1, e2, bindS, Bool.false_eq_true, if_false]
theorem s_any {l p : Nat} (hw : 1000 ≤ w) (hlp : l < p ∨ p + 23 ≤ l) {A N : z_Mem} {P : t_P} {d : Nat} (h : s_st l p A N P d) : ∃ ok P' d' A' N', F_X2_isAnyDone w A l p = some (ok, A') ∧ F_X12_isAny w N = some (ok, N') ∧ s_st l p A' N' P' d' ∧ P'.2.2.2 = P.2.2.2 ∧ s_fr l p A A' N N' := by
  have e1 : F_X2_drawBy w A l 4 = _ := f_draw5 (w := w) (n := 4) h.2.2.2.2.1 h.2.2.2.1 (Or.inl rfl)
  have m1 : F_X12_draw w N 4 = _ := f_draw12 (w := w) (n := 4) h.2.2.2.2.2 h.2.2.2.1 (Or.inl rfl)
  obtain ⟨g1, t1⟩ := s_draw hlp h
  have e2 : F_X2_drawBy w _ l 4 = _ := f_draw5 (w := w) (n := 4) g1.2.2.2.2.1 g1.2.2.2.1 (Or.inl rfl)
  have m2 : F_X12_draw w _ 4 = _ := f_draw12 (w := w) (n := 4) g1.2.2.2.2.2 g1.2.2.2.1 (Or.inl rfl)
  obtain ⟨g2, t2⟩ := s_draw hlp g1
  have e3 : F_X2_drawBy w _ l 16 = _ := f_draw5 (w := w) (n := 16) g2.2.2.2.2.1 g2.2.2.2.1 (Or.inr rfl)
  have m3 : F_X12_draw w _ 16 = _ := f_draw12 (w := w) (n := 16) g2.2.2.2.2.2 g2.2.2.2.1 (Or.inr rfl)
  obtain ⟨g3, t3⟩ := s_draw hlp g2
  have fr := s_trans t1 (s_trans t2 t3)
  have o1 := g3.1.1.1
  have o2 := g3.2.1.1.1
  unfold F_X2_isAnyDone F_X12_isAny
  rw [e1, bindS, e2, bindS, e3, bindS, m1, bindS, m2, bindS, m3, bindS]
  dsimp only
  rw [o1, o2]
  by_cases q : P.1 5 ≤ nI (n_dr (n_dr (n_dr d)) / 8 % 16)
  · rw [if_pos q, if_pos q]
    obtain ⟨ok, P', A', N', r1, r2, r3, r4, r5⟩ := s_pass (w := w) hw hlp g3 (n := 1) (by omega)
    have r1' : F_X3_passMonths w _ p 1 = _ := r1
    have r2' : F_X12_pass w _ 1 = _ := r2
    rw [r1', bindS, r2', bindS]
    exact ⟨ok, P', _, A', N', rfl, rfl, r3, r4, s_trans fr r5⟩
  · rw [if_neg q, if_neg q]
    obtain ⟨ok, P', A', N', r1, r2, r3, r4, r5⟩ := s_carry (w := w) hlp g3 (nI (n_dr d / 8 % 4) + 1) (nI (n_dr (n_dr d) / 8 % 4) + 1)
    rw [r1, bindS, r2, bindS]
    exact ⟨ok, P', _, A', N', rfl, rfl, r3, r4, s_trans fr r5⟩
/-- a step that is no block, no stop -/
theorem s_step {l p : Nat} (hw : 1000 ≤ w) (hlp : l < p ∨ p + 23 ≤ l) {A N : z_Mem} {P : t_P} {d : Nat} (h : s_st l p A N P d) (ht : P.2.2.2.2.1 = true) {i : Nat} {r : t_Y} (hr : P.2.2.2.2.2[i]? = some r) (ha : y_arg r) (hk : ¬ r.1 = 25) (hk2 : ¬ r.1 = 27) (hk3 : ¬ r.1 = 28) (hk4 : ¬ r.1 = 29) : ∃ ok P' d' A' N', F_X2_isDone w A l p (nI i) = some (ok, A') ∧ F_X12_does w N (nI (105 + 9 * y_no P.2.2.2.2.2 i)) = some (ok, N') ∧ s_st l p A' N' P' d' ∧ P'.2.2.2 = P.2.2.2 ∧ s_fr l p A A' N N' := by
  obtain ⟨c, b, v, h4, h5, h6⟩ := id h
  have hi := y_lt hr
  have h60 : P.2.2.2.2.2.length ≤ 60 := v.2.2.2.2.1
  have h30 : y_steps P.2.2.2.2.2 ≤ 30 := v.2.2.2.2.2.1
  have hno := no_lt hr hk3
  obtain ⟨c1, c2, c3, c4, c5⟩ := c.2.2.2.2.2.2.2 i r hr
  obtain ⟨k1, k2, _, k4, k5, k6⟩ := (b.2.2.2.2.2 ht).2 i r hr hk3
  have k4' := k4 hk
  have q5 : ∀ j, j < 9 → nI (105 + 9 * y_no P.2.2.2.2.2 i) + nI j = nI (105 + j + 9 * y_no P.2.2.2.2.2 i) := fun j hj => by
    rw [nI_add]
    exact congrArg nI (by omega)
  have q1 := q5 1 (by omega)
  have q2 := q5 2 (by omega)
  have q3 := q5 3 (by omega)
  simp only [Nat.reduceAdd] at q1 q2 q3
  have e1 : (1 : Int32) = nI 1 := rfl
  have e2 : (2 : Int32) = nI 2 := rfl
  have e3 : (3 : Int32) = nI 3 := rfl
  unfold F_X2_isDone F_X12_does
  rw [if_neg (n_in (by omega) (by omega)), if_neg (n_in (by omega) (by omega)), nI_clamp (by omega), c1, c2, c3, c4]
  rw [show nI (105 + 9 * y_no P.2.2.2.2.2 i) + (1 : Int32) = nI (106 + 9 * y_no P.2.2.2.2.2 i) from q1, show nI (105 + 9 * y_no P.2.2.2.2.2 i) + (2 : Int32) = nI (107 + 9 * y_no P.2.2.2.2.2 i) from q2, show nI (105 + 9 * y_no P.2.2.2.2.2 i) + (3 : Int32) = nI (108 + 9 * y_no P.2.2.2.2.2 i) from q3]
  rw [if_neg (n_in (N := 1875) (by omega) (by omega)), if_neg (n_in (N := 1875) (by omega) (by omega)), nI_clamp (n := 105 + 9 * y_no P.2.2.2.2.2 i) (by omega), nI_clamp (n := 106 + 9 * y_no P.2.2.2.2.2 i) (by omega), nI_clamp (n := 107 + 9 * y_no P.2.2.2.2.2 i) (by omega), nI_clamp (n := 108 + 9 * y_no P.2.2.2.2.2 i) (by omega), k1]
  have hin : ¬ (nI i < 0 ∨ 60 ≤ i) := fun g => g.elim (nI_pos (by omega)) (fun y => by omega)
  have hin7 : ¬ (nI (107 + 9 * y_no P.2.2.2.2.2 i) < 0 ∨ 1875 ≤ 107 + 9 * y_no P.2.2.2.2.2 i) := fun g => g.elim (nI_pos (by omega)) (fun y => by omega)
  have hin8 : ¬ (nI (108 + 9 * y_no P.2.2.2.2.2 i) < 0 ∨ 1875 ≤ 108 + 9 * y_no P.2.2.2.2.2 i) := fun g => g.elim (nI_pos (by omega)) (fun y => by omega)
  have arg : N.1 142 (106 + 9 * y_no P.2.2.2.2.2 i) = r.2.1 ∨ r.1 = 24 := by
    rcases k4' with e | e | e
    · exact Or.inl e
    · exact Or.inr e
    · exact absurd e hk4
  rcases ha with ⟨g, g1, g2⟩ | g | ⟨g, g1, g2, g3⟩ | ⟨g, g1, g2⟩ | g | g | g | ⟨g, _⟩ | ⟨g, _⟩
  · -- month
    have a1 : N.1 142 (106 + 9 * y_no P.2.2.2.2.2 i) = r.2.1 := arg.resolve_right (by rw [g]; decide)
    obtain ⟨n, _, hn, en⟩ := (i_rng 1 24 (by omega) (by omega)).mp ⟨g1, g2⟩
    obtain ⟨ok, P', A', N', r1, r2, r3, r4, r5⟩ := s_pass (w := w) hw hlp h (n := n) (by omega)
    rw [a1, en, g, if_pos rfl, r1, bindS, if_pos (show y_kind 20 = 0 by decide), r2, bindS]
    exact ⟨ok, P', d, A', N', rfl, rfl, r3, r4, r5⟩
  · -- carry
    have a1 : N.1 142 (106 + 9 * y_no P.2.2.2.2.2 i) = r.2.1 := arg.resolve_right (by rw [g]; decide)
    have a2 := k5 (Or.inl g)
    obtain ⟨ok, P', A', N', r1, r2, r3, r4, r5⟩ := s_carry (w := w) hlp h r.2.1 r.2.2.1
    rw [a1, a2, g, if_neg (by decide), if_pos rfl, if_neg hin, r1, bindS, if_neg (show ¬ y_kind 21 = 0 by decide), if_pos (show y_kind 21 = 1 by decide), if_neg hin7, r2, bindS]
    exact ⟨ok, P', d, A', N', rfl, rfl, r3, r4, r5⟩
  · -- swear
    have a1 : N.1 142 (106 + 9 * y_no P.2.2.2.2.2 i) = r.2.1 := arg.resolve_right (by rw [g]; decide)
    have a2 := k5 (Or.inr g)
    have a3 := k6 g
    obtain ⟨ok, P', A', N', r1, r2, r3, r4, r5⟩ := s_swear (w := w) hlp h g1 g2 g3
    rw [a1, a2, a3, g, if_neg (by decide), if_neg (by decide), if_pos rfl, if_neg hin, if_neg hin, r1, bindS, if_neg (show ¬ y_kind 22 = 0 by decide), if_neg (show ¬ y_kind 22 = 1 by decide), if_pos (show y_kind 22 = 2 by decide), if_neg hin7, if_neg hin8, r2, bindS]
    exact ⟨ok, P', d, A', N', rfl, rfl, r3, r4, r5⟩
  · -- pay
    have a1 : N.1 142 (106 + 9 * y_no P.2.2.2.2.2 i) = r.2.1 := arg.resolve_right (by rw [g]; decide)
    obtain ⟨n, _, hn, en⟩ := (i_rng 0 4 (by omega) (by omega)).mp ⟨g1, g2⟩
    obtain ⟨ok, P', A', N', r1, r2, r3, r4, r5⟩ := s_pay (w := w) hw hlp h (g := n) (by omega)
    rw [a1, en, g, if_neg (by decide), if_neg (by decide), if_neg (by decide), if_pos rfl, r1, bindS, if_neg (show ¬ y_kind 23 = 0 by decide), if_neg (show ¬ y_kind 23 = 1 by decide), if_neg (show ¬ y_kind 23 = 2 by decide), if_pos (show y_kind 23 = 3 by decide), r2, bindS]
    exact ⟨ok, P', d, A', N', rfl, rfl, r3, r4, r5⟩
  · -- any
    obtain ⟨ok, P', d', A', N', r1, r2, r3, r4, r5⟩ := s_any (w := w) hw hlp h
    rw [g, if_neg (by decide), if_neg (by decide), if_neg (by decide), if_neg (by decide), if_pos rfl, r1, bindS, if_neg (show ¬ y_kind 24 = 0 by decide), if_neg (show ¬ y_kind 24 = 1 by decide), if_neg (show ¬ y_kind 24 = 2 by decide), if_neg (show ¬ y_kind 24 = 3 by decide), r2, bindS]
    exact ⟨ok, P', d', A', N', rfl, rfl, r3, r4, r5⟩
  · exact absurd g hk4
  · exact absurd g hk3
  · exact absurd g hk
  · exact absurd g hk2
/-- whether a when holds -/
theorem s_holds {l p : Nat} (hw : 1000 ≤ w) {A N : z_Mem} {P : t_P} (c : CP A p P) (b : BP (N.1 142) P) (v : VP P) (ht : P.2.2.2.2.1 = true) {i : Nat} {r : t_Y} (hr : P.2.2.2.2.2[i]? = some r) (ha : y_arg r) (hk : r.1 = 25) : ∃ ok, F_X2_holds w A l p (nI i) = some (ok, A) ∧ F_X12_holds w N (nI (105 + 9 * y_no P.2.2.2.2.2 i)) = some (ok, N) := by
  have hi := y_lt hr
  have h60 : P.2.2.2.2.2.length ≤ 60 := v.2.2.2.2.1
  have h30 : y_steps P.2.2.2.2.2 ≤ 30 := v.2.2.2.2.2.1
  have hk3 : ¬ r.1 = 28 := by rw [hk]; decide
  have hno := no_lt hr hk3
  obtain ⟨c1, c2, c3, c4, c5⟩ := c.2.2.2.2.2.2.2 i r hr
  obtain ⟨_, _, k3, _⟩ := (b.2.2.2.2.2 ht).2 i r hr hk3
  obtain ⟨k3, k4, k5⟩ := k3 hk
  have q5 : ∀ j, j < 9 → nI (105 + 9 * y_no P.2.2.2.2.2 i) + nI j = nI (105 + j + 9 * y_no P.2.2.2.2.2 i) := fun j hj => by
    rw [nI_add]
    exact congrArg nI (by omega)
  have q1 := q5 1 (by omega)
  have q2 := q5 5 (by omega)
  have q3 := q5 6 (by omega)
  have q4 := q5 7 (by omega)
  simp only [Nat.reduceAdd] at q1 q2 q3 q4
  obtain ⟨hs, hw2⟩ : (r.2.2.1 = 0 ∨ r.2.2.1 = 1) ∧ (r.2.1 = 3 ∨ r.2.1 = 26 ∨ r.2.1 = 34 ∨ r.2.1 = 35 ∨ r.2.1 = 36) := by
    rcases ha with ⟨g, _⟩ | g | ⟨g, _⟩ | ⟨g, _⟩ | g | g | g | ⟨_, g⟩ | ⟨g, _⟩
    · rw [g] at hk; exact absurd hk (by decide)
    · rw [g] at hk; exact absurd hk (by decide)
    · rw [g] at hk; exact absurd hk (by decide)
    · rw [g] at hk; exact absurd hk (by decide)
    · rw [g] at hk; exact absurd hk (by decide)
    · rw [g] at hk; exact absurd hk (by decide)
    · rw [g] at hk; exact absurd hk (by decide)
    · exact g
    · rw [g] at hk; exact absurd hk (by decide)
  obtain ⟨s, hs2, es⟩ : ∃ s, s < 2 ∧ r.2.2.1 = nI s := by
    rcases hs with e | e
    · exact ⟨0, by omega, e⟩
    · exact ⟨1, by omega, e⟩
  have ch : A.1 (p + 1) s = P.1 (12 + s) ∧ N.1 142 (12 + s) = P.1 (12 + s) := by
    rcases (show s = 0 ∨ s = 1 by omega) with rfl | rfl
    · exact ⟨c.1.2.2.2.2.2.2.2.1, b.1.2.2.2.2.2.2.1⟩
    · exact ⟨c.1.2.2.2.2.2.2.2.2, b.1.2.2.2.2.2.2.2.1⟩
  have l1 : A.1 p 8 = P.1 8 := c.1.2.2.2.1
  have l2 : N.1 142 8 = P.1 8 := b.1.2.2.2.1
  have o1 := f_owedBy (w := w) c.2.2.1 v.2.2.1.1 hw r.2.2.1
  have o2 := f_owed (w := w) b.2.2.1 v.2.2.1.1 hw r.2.2.1
  have hs3 : ¬ (nI s < 0 ∨ 2 ≤ s) := fun g => g.elim (nI_pos (by omega)) (fun y => by omega)
  have h12 : ¬ (nI (12 + s) < 0 ∨ 1875 ≤ 12 + s) := fun g => g.elim (nI_pos (by omega)) (fun y => by omega)
  have hx : ∀ j, j < 400 → ¬ (nI j < 0 ∨ 1875 ≤ j) := fun j hj g => g.elim (nI_pos (by omega)) (fun y => by omega)
  unfold F_X2_holds F_X12_holds
  rw [if_neg (n_in (by omega) (by omega)), if_neg (n_in (by omega) (by omega)), if_neg (n_in (by omega) (by omega)), nI_clamp (by omega), c2, c3, c4]
  rw [show nI (105 + 9 * y_no P.2.2.2.2.2 i) + (1 : Int32) = nI (106 + 9 * y_no P.2.2.2.2.2 i) from q1, show nI (105 + 9 * y_no P.2.2.2.2.2 i) + (5 : Int32) = nI (110 + 9 * y_no P.2.2.2.2.2 i) from q2, show nI (105 + 9 * y_no P.2.2.2.2.2 i) + (6 : Int32) = nI (111 + 9 * y_no P.2.2.2.2.2 i) from q3, show nI (105 + 9 * y_no P.2.2.2.2.2 i) + (7 : Int32) = nI (112 + 9 * y_no P.2.2.2.2.2 i) from q4]
  rw [nI_clamp (n := 110 + 9 * y_no P.2.2.2.2.2 i) (by omega), nI_clamp (n := 106 + 9 * y_no P.2.2.2.2.2 i) (by omega), nI_clamp (n := 111 + 9 * y_no P.2.2.2.2.2 i) (by omega), nI_clamp (n := 112 + 9 * y_no P.2.2.2.2.2 i) (by omega), if_neg (hx _ (by omega)), if_neg (hx _ (by omega)), k3, k4]
  rcases hw2 with e | e | e | e | e
  · rw [e, if_pos rfl, l1, if_pos (show y_test 3 = 0 by decide), l2]
    by_cases q : P.1 8 = r.2.2.1
    · rw [if_pos q, if_pos q]; exact ⟨true, rfl, rfl⟩
    · rw [if_neg q, if_neg q]; exact ⟨false, rfl, rfl⟩
  · rw [e, if_neg (by decide), if_pos rfl, o1, bindS, if_neg (show ¬ y_test 26 = 0 by decide), if_pos (show y_test 26 = 2 by decide), o2, bindS]
    by_cases q : d_owed r.2.2.1 P.2.2.1.2 0 ≤ 0
    · rw [if_pos q, if_pos q]; exact ⟨false, rfl, rfl⟩
    · rw [if_neg q, if_neg q]; exact ⟨true, rfl, rfl⟩
  · obtain ⟨u1, u2⟩ := k5 (by rw [e]; decide)
    rw [e] at u2
    rw [e, if_neg (by decide), if_neg (by decide), if_pos rfl, es, nI_clamp (by omega), if_neg hs3, ch.1, if_neg (show ¬ y_test 34 = 0 by decide), if_neg (show ¬ y_test 34 = 2 by decide), show (12 : Int32) = nI 12 from rfl, nI_add, nI_clamp (by omega), if_neg h12, if_neg (hx _ (by omega)), u2, if_pos (show y_sign 34 = 60 by decide), if_neg (hx _ (by omega)), u1, ch.2]
    by_cases q : r.2.2.2.1 ≤ P.1 (12 + s)
    · rw [if_pos q, if_pos q]; exact ⟨false, rfl, rfl⟩
    · rw [if_neg q, if_neg q]; exact ⟨true, rfl, rfl⟩
  · obtain ⟨u1, u2⟩ := k5 (by rw [e]; decide)
    rw [e] at u2
    rw [e, if_neg (by decide), if_neg (by decide), if_neg (by decide), if_pos rfl, es, nI_clamp (by omega), if_neg hs3, ch.1, if_neg (show ¬ y_test 35 = 0 by decide), if_neg (show ¬ y_test 35 = 2 by decide), show (12 : Int32) = nI 12 from rfl, nI_add, nI_clamp (by omega), if_neg h12, if_neg (hx _ (by omega)), u2, if_neg (show ¬ y_sign 35 = 60 by decide), if_neg (hx _ (by omega)), if_pos (show y_sign 35 = 62 by decide), if_neg (hx _ (by omega)), u1, ch.2]
    by_cases q : P.1 (12 + s) ≤ r.2.2.2.1
    · rw [if_pos q, if_pos q]; exact ⟨false, rfl, rfl⟩
    · rw [if_neg q, if_neg q]; exact ⟨true, rfl, rfl⟩
  · obtain ⟨u1, u2⟩ := k5 (by rw [e]; decide)
    rw [e] at u2
    rw [e, if_neg (by decide), if_neg (by decide), if_neg (by decide), if_neg (by decide), es, nI_clamp (by omega), if_neg hs3, ch.1, if_neg (show ¬ y_test 36 = 0 by decide), if_neg (show ¬ y_test 36 = 2 by decide), show (12 : Int32) = nI 12 from rfl, nI_add, nI_clamp (by omega), if_neg h12, if_neg (hx _ (by omega)), u2, if_neg (show ¬ y_sign 36 = 60 by decide), if_neg (hx _ (by omega)), if_neg (show ¬ y_sign 36 = 62 by decide), if_neg (hx _ (by omega)), u1, ch.2]
    by_cases q : P.1 (12 + s) = r.2.2.2.1
    · rw [if_pos q, if_pos q]; exact ⟨true, rfl, rfl⟩
    · rw [if_neg q, if_neg q]; exact ⟨false, rfl, rfl⟩
end
