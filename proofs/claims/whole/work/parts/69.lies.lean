/-! ===== lies, debts, witnesses, read by both ===== -/
section
variable {w : Nat} {A N A' N' : z_Mem} {t : Nat → Nat} {n j e : Nat} {c : Int32} {P : t_P}
theorem p_word (v : Int64) : ∃ b, F_X12_isWord w N v = some (b, N) := by
  unfold F_X12_isWord
  split
  · split
    · exact ⟨_, rfl⟩
    · exact ⟨_, rfl⟩
  · exact ⟨_, rfl⟩
theorem p_sign (s : Int32) : ∃ b, F_X12_isSign w N s = some (b, N) := by
  unfold F_X12_isSign
  split
  · split
    · exact ⟨_, rfl⟩
    · exact ⟨_, rfl⟩
  · exact ⟨_, rfl⟩
theorem p_isWorth : ∃ b, F_X12_isWorth w N = some (b, N) := by
  have s : F_X12_spelled w N (119 : Int32) (111 : Int32) (114 : Int32) (116 : Int32) (104 : Int32) (0 : Int32) = some (lN 24627848, N) := rfl
  obtain ⟨b, hb⟩ := p_word (w := w) (N := N) (lN 24627848)
  unfold F_X12_isWorth
  rw [s, bindS]
  dsimp only
  rw [hb, bindS]
  exact ⟨_, rfl⟩
theorem p_isInWord : ∃ b, F_X12_isInWord w N = some (b, N) := by
  have s : F_X12_spelled w N (105 : Int32) (110 : Int32) (0 : Int32) (0 : Int32) (0 : Int32) (0 : Int32) = some (lN 302, N) := rfl
  obtain ⟨b, hb⟩ := p_word (w := w) (N := N) (lN 302)
  unfold F_X12_isInWord
  rw [s, bindS]
  dsimp only
  rw [hb, bindS]
  exact ⟨_, rfl⟩
theorem p_isSum : ∃ b, F_X12_isSum w N = some (b, N) := by
  have s : F_X12_spelled w N (115 : Int32) (117 : Int32) (109 : Int32) (0 : Int32) (0 : Int32) (0 : Int32) = some (lN 20141, N) := rfl
  obtain ⟨b, hb⟩ := p_word (w := w) (N := N) (lN 20141)
  unfold F_X12_isSum
  rw [s, bindS]
  dsimp only
  rw [hb, bindS]
  exact ⟨_, rfl⟩
theorem p_isLeft : ∃ b, F_X12_isLeft w N = some (b, N) := by
  have s : F_X12_spelled w N (108 : Int32) (101 : Int32) (102 : Int32) (116 : Int32) (0 : Int32) (0 : Int32) = some (lN 398548, N) := rfl
  obtain ⟨b, hb⟩ := p_word (w := w) (N := N) (lN 398548)
  unfold F_X12_isLeft
  rw [s, bindS]
  dsimp only
  rw [hb, bindS]
  exact ⟨_, rfl⟩
theorem p_isEnd : ∃ b, F_X12_isEnd w N = some (b, N) := by
  have s : F_X12_spelled w N (101 : Int32) (110 : Int32) (100 : Int32) (0 : Int32) (0 : Int32) (0 : Int32) = some (lN 5572, N) := rfl
  obtain ⟨b, hb⟩ := p_word (w := w) (N := N) (lN 5572)
  unfold F_X12_isEnd
  rw [s, bindS]
  dsimp only
  rw [hb, bindS]
  exact ⟨_, rfl⟩
theorem p_isNot : ∃ b, F_X12_isNot w N = some (b, N) := by
  have s : F_X12_spelled w N (110 : Int32) (111 : Int32) (116 : Int32) (0 : Int32) (0 : Int32) (0 : Int32) = some (lN 14836, N) := rfl
  obtain ⟨b, hb⟩ := p_word (w := w) (N := N) (lN 14836)
  unfold F_X12_isNot
  rw [s, bindS]
  dsimp only
  rw [hb, bindS]
  exact ⟨_, rfl⟩
theorem PR_p {P' : t_P} (h : PR A N t n P) (hc : CP A' 30 P') (hb : BP (fun k => N'.1 142 (1500 + k)) P') (hv : VP P') (q : P'.2.2.2.1.1 = P.2.2.2.1.1) (ka : ∀ a, 53 ≤ a → a < 56 → A'.1 a = A.1 a) (k24 : N'.1 137 24 = N.1 137 24) (kl : N'.2 = N.2) : PR A' N' t n P' := by
  obtain ⟨h1, h2, h3, h4, h5⟩ := h
  refine ⟨hc, hb, hv, ?_, ?_⟩
  · intro i hi
    rw [ka 53 (by omega) (by omega), k24]
    exact h4 i hi
  · rw [q]
    intro i hi
    rw [ka 54 (by omega) (by omega), ka 55 (by omega) (by omega), kl]
    exact h5 i hi
/-- room for another, the word gone by -/
theorem g_room (hw : 10000 ≤ w) (h : Gd A N t n j e c) (hc : ¬ c = 37) (hp : PR A N t n P) {m f b : Nat} (hm : m ≤ b) (hb : b ≤ 8) (hf : f < 5) (hn : N.1 142 (1500 + f) = nI m) : ∃ A' N', F_X12_another w N (nI f) (nI b) = some (nI m, N') ∧ Kt A A' N N' ∧
    ((m < b ∧ F_X4_hasRoom w A (nI m) (nI b) = some (true, A) ∧ F_X7_advance w A = some ((), A') ∧ PR A' N' t n P ∧ ∃ j' e' c', Gd A' N' t n j' e' c' ∧ e ≤ j') ∨ (F_X4_hasRoom w A (nI m) (nI b) = some (false, A') ∧ Bd A' N')) := by
  unfold F_X12_another F_X4_hasRoom
  rw [show (1500 : Int32) + nI f = nI (1500 + f) from n_lad 1500 _, if_neg (nI_in (by omega) (by omega)), nI_cl (by omega), hn]
  by_cases g : m < b
  · obtain ⟨A', N', j', e', c', a1, a2, a3, a4, a5⟩ := g_adv hw h
    refine ⟨A', N', ?_, a5, Or.inl ⟨g, ?_, a1, PR_k hp a5, j', e', c', a3, a4⟩⟩
    · rw [if_neg (fun x => by have := (nI_eq (by omega) (by omega)).mp x; omega), m_must1 h.2.2.2.2.2.2, a2, bindS]
    · rw [if_pos (nI_lt g (by omega))]
  · have mb : m = b := by omega
    subst mb
    obtain ⟨A', N', a1, a2, a3, a4⟩ := g_fail (w := w) h 6 (by omega) hc
    refine ⟨A', N', ?_, a4, Or.inr ⟨?_, a3⟩⟩
    · rw [if_pos rfl, show F_X12_fail w N 6 (N.1 137 15) = some ((), N') from a2, bindS]
      dsimp only
      rw [b_must (Bd_n a3), bindS]
    · rw [if_neg (Int32.not_lt.mpr (nI_le (Nat.le_refl _) (by omega))), show F_X7_fail w A 6 = some (false, A') from a1, bindS, if_neg (by simp)]
/-! where the lord of the month lies -/
theorem l_lies (v : Int32) : ∀ (m k c : Nat) (M : z_Mem), k + m = 7 → m < c → ∃ M', L_X12_readLies w c M v (nI k) = some ((), M') ∧ (∀ a, a ≠ 142 → M'.1 a = M.1 a) ∧ M'.2 = M.2 ∧ ∀ i, M'.1 142 i = if 1513 + k ≤ i ∧ i < 1520 then v else M.1 142 i := by
  intro m
  induction m with
  | zero =>
    intro k c M h hc
    obtain ⟨c', rfl⟩ : ∃ c', c = c' + 1 := ⟨c - 1, by omega⟩
    have : k = 7 := by omega
    subst this
    refine ⟨M, ?_, fun _ _ => rfl, rfl, fun i => ?_⟩
    · rw [L_X12_readLies, if_pos (by decide)]
    · rw [if_neg (by omega)]
  | succ m ih =>
    intro k c M h hc
    obtain ⟨c', rfl⟩ : ∃ c', c = c' + 1 := ⟨c - 1, by omega⟩
    obtain ⟨M', h1, h2, h3, h4⟩ := ih (k + 1) c' (z_wI M 142 (1513 + k) v) (by omega) (by omega)
    refine ⟨M', ?_, fun a ha => by rw [h2 a ha, wI_row ha], h3, fun i => ?_⟩
    · rw [L_X12_readLies, if_neg (show ¬ (6 : Int32) < nI k from Int32.not_lt.mpr (nI_le (b := 6) (by omega) (by omega))), show (1513 : Int32) + nI k = nI (1513 + k) from n_lad 1513 _, if_neg (nI_in (by omega) (by omega)), nI_cl (by omega), nI_1]
      exact h1
    · rw [h4, wI_rd]
      by_cases g : i = 1513 + k
      · subst g
        rw [if_neg (by omega), if_pos ⟨rfl, rfl⟩, if_pos (by omega)]
      · rw [if_neg (show ¬ (142 = 142 ∧ i = 1513 + k) from fun x => g x.2)]
        by_cases g2 : 1513 + k ≤ i ∧ i < 1520
        · rw [if_pos g2, if_pos (by omega)]
        · rw [if_neg g2, if_neg (by omega)]
def sL (s : Nat → Int32) (v : Int32) : Nat → Int32 := fun i => if i = 8 ∨ (14 ≤ i ∧ i < 20) then v else s i
theorem sL_y {s : Nat → Int32} {v : Int32} {i : Nat} (h : i = 8 ∨ (14 ≤ i ∧ i < 20)) : sL s v i = v := if_pos h
theorem sL_n {s : Nat → Int32} {v : Int32} {i : Nat} (h : ¬ (i = 8 ∨ (14 ≤ i ∧ i < 20))) : sL s v i = s i := if_neg h
theorem r_lies (hw : 10000 ≤ w) (h : Gd A N t n j e c) (hp : PR A N t n P) (hc : c = 3) : ∃ b A' N', F_X4_readLies w A = some (b, A') ∧ F_X12_readLies w N = some ((), N') ∧ Rd A A' N N' t n e b := by
  obtain ⟨A1, N1, o1, o2, o3⟩ := g_once hw h (by rw [hc]; decide) hp (k := 3) (by omega)
  unfold F_X4_readLies F_X12_readLies
  rw [show F_X12_once w N 8 = some ((), N1) from o1, bindS]
  dsimp only
  rcases o3 with ⟨A0, p1, p2, p3, j1, e1, c1, p4, p5⟩ | ⟨p1, p2⟩
  · rw [show F_X4_isFirst w A 3 = some (true, A0) from p1, bindS, if_pos rfl]
    dsimp only
    rw [p2, bindS]
    dsimp only
    have je := p4.2.2.1.2.1
    obtain ⟨A2, N2, q1, q2⟩ := g_side hw p4
    rcases q2 with ⟨v, v1, q3, q4, j2, e2, c2, q5, q6⟩ | ⟨q3, q4, q5⟩
    · rw [q3, bindS, q4, bindS]
      dsimp only
      have b0 := q5.2.2.2.2.2.2
      rw [if_neg (nI_nm1 (by omega)), b0, if_pos (by decide)]
      obtain ⟨N3, l1, l2, l3, l4⟩ := l_lies (w := w) (nI v) 6 1 w (z_wI N2 142 1508 (nI v)) (by omega) (by omega)
      have l1' : L_X12_readLies w w (z_wI N2 142 1508 (nI v)) (nI v) 1 = some ((), N3) := l1
      have n142 : ∀ i : Nat, N3.1 142 (1500 + i) = sL (fun i => N2.1 142 (1500 + i)) (nI v) i := by
        intro i
        rw [l4, wI_rd]
        by_cases g : 14 ≤ i ∧ i < 20
        · rw [if_pos (by omega), sL_y (by omega)]
        · rw [if_neg (by omega)]
          by_cases g2 : i = 8
          · subst g2; rw [if_pos ⟨rfl, rfl⟩, sL_y (by omega)]
          · rw [if_neg (by omega), sL_n (by omega)]
      have es : F_X3_lieEver w A2 30 (nI v) = some ((), z_wI (z_wI A2 30 8 (nI v)) 30 9 (z_lay (sL P.1 (nI v)))) := by
        unfold F_X3_lieEver z_lay
        simp only [sL_y (s := P.1) (v := nI v) (i := 14) (by omega), sL_y (s := P.1) (v := nI v) (i := 15) (by omega), sL_y (s := P.1) (v := nI v) (i := 16) (by omega), sL_y (s := P.1) (v := nI v) (i := 17) (by omega), sL_y (s := P.1) (v := nI v) (i := 18) (by omega), sL_y (s := P.1) (v := nI v) (i := 19) (by omega)]
        have : v = 0 ∨ v = 1 := by omega
        rcases this with x | x <;> subst x <;> rfl
      rw [es, bindS, l1']
      have n137 : N3.1 137 = N2.1 137 := by rw [l2 137 (by omega), wI_row (by omega)]
      have n141 : N3.1 141 = N2.1 141 := by rw [l2 141 (by omega), wI_row (by omega)]
      have n2 : N3.2 = N2.2 := l3
      refine ⟨true, _, _, rfl, rfl, Kq_t (Kq_t o2 (Kt_q q1)) ?_, Or.inl ⟨rfl, ⟨(sL P.1 (nI v), P.2), ?_⟩, j2, e2, c2, Gd_k q5 (by rw [wI_row (by omega), wI_row (by omega)]) (by rw [wI_row (by omega), wI_row (by omega)]) n141 (fun i _ => by rw [n137]) (by rw [n2]), by omega⟩⟩
      · refine ⟨fun x _ a => by rw [wI_row (by omega), wI_row (by omega)], fun k a => by rw [wI_row (by omega), wI_row (by omega)], rfl, fun x a b => by rw [l2 x b, wI_row b], fun i a => ?_, fun i a b => by rw [n137], fun _ _ _ => by rw [n2], fun _ _ => by rw [n2]⟩
        rw [l4, if_neg (by omega), wI_slot (by omega)]
      · have hq := PR_k p3 q1
        obtain ⟨s1, s2, s3, s4, s5, s6, s7, s8, s9⟩ := hq.1.1
        obtain ⟨b1, b2, b3, b4, b5, b6, b7, b8, b9, b10, b11, b12, b13, b14⟩ := hq.2.1.1
        obtain ⟨w1, w2, w3, w4, w5, w6, w7⟩ := hq.2.2.1.1
        have v01 : nI v = 0 ∨ nI v = 1 := by
          have : v = 0 ∨ v = 1 := by omega
          rcases this with x | x <;> subst x
          · exact Or.inl rfl
          · exact Or.inr rfl
        refine PR_s hq ?_ ?_ ?_ (fun a x y => by rw [wI_row (by omega), wI_row (by omega)]) (fun i hi => by rw [n142, sL_n (by omega)]) (by rw [n137]) n2
        · refine ⟨?_, ?_, ?_, ?_, ?_, ?_, ?_, ?_, ?_⟩
          · rw [wI_slot (by omega), wI_slot (by omega), sL_n (by omega)]; exact s1
          · rw [wI_slot (by omega), wI_slot (by omega), sL_n (by omega)]; exact s2
          · rw [wI_slot (by omega), wI_slot (by omega), sL_n (by omega)]; exact s3
          · rw [wI_slot (by omega), wI_same, sL_y (by omega)]
          · rw [wI_same]
          · rw [wI_slot (by omega), wI_slot (by omega), sL_n (by omega)]; exact s6
          · rw [wI_slot (by omega), wI_slot (by omega), sL_n (by omega)]; exact s7
          · rw [wI_row (by omega), wI_row (by omega), sL_n (by omega)]; exact s8
          · rw [wI_row (by omega), wI_row (by omega), sL_n (by omega)]; exact s9
        · refine ⟨?_, ?_, ?_, ?_, ?_, ?_, ?_, ?_, ?_, ?_, ?_, ?_, ?_, ?_⟩
          all_goals (dsimp only; rw [n142])
          · rw [sL_n (by omega), sL_n (by omega)]; exact b1
          · rw [sL_n (by omega), sL_n (by omega)]; exact b2
          · rw [sL_n (by omega), sL_n (by omega)]; exact b3
          · rw [sL_y (by omega), sL_y (by omega)]
          · rw [sL_n (by omega), sL_n (by omega)]; exact b5
          · rw [sL_n (by omega), sL_n (by omega)]; exact b6
          · rw [sL_n (by omega), sL_n (by omega)]; exact b7
          · rw [sL_n (by omega), sL_n (by omega)]; exact b8
          all_goals rw [sL_y (by omega), sL_y (by omega)]
        · refine ⟨?_, ?_, ?_, ?_, ?_, ?_, ?_⟩
          · rw [sL_y (by omega)]; exact v01
          · intro i hi; rw [sL_y (by omega)]; exact v01
          · rw [sL_n (by omega)]; exact w3
          · rw [sL_n (by omega)]; exact w4
          · rw [sL_n (by omega)]; exact w5
          · rw [sL_n (by omega)]; exact w6
          · rw [sL_n (by omega)]; exact w7
    · rw [q3, bindS, q4, bindS]
      dsimp only
      rw [if_pos rfl, if_neg (Bd_n q5).1]
      exact ⟨false, _, _, rfl, rfl, Kq_t o2 (Kt_q q1), Or.inr ⟨rfl, q5⟩⟩
  · rw [show F_X4_isFirst w A 3 = some (false, A1) from p1, bindS, if_neg (by simp), b_side (Bd_n p2), bindS]
    dsimp only
    rw [if_neg (Bd_n p2).1]
    exact ⟨false, _, _, rfl, rfl, o2, Or.inr ⟨rfl, p2⟩⟩
end
