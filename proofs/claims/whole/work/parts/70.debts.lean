/-! ===== debts and witnesses, read by both ===== -/
section
variable {w : Nat} {A N A' N' : z_Mem} {t : Nat → Nat} {n j e : Nat} {c : Int32} {P : t_P}
/-- a number behind a word -/
theorem g_behind (hw : 10000 ≤ w) (h : Gd A N t n j e c) (k : Int32) (lo hi : Nat) (hh : hi ≤ 9999) (a b : Int32) (ha : a = nI lo) (hb : b = nI hi) (hl : lo ≤ hi) : ∃ A' N', Kt A A' N N' ∧
    ((∃ v A1, lo ≤ v ∧ v ≤ hi ∧ F_X7_take w A k = some (true, A1) ∧ F_X7_takeNumber w A1 a b = some (nI v, A') ∧ F_X12_behindWord w N (z_tb (decide (c = k))) a b = some (nI v, N') ∧ ∃ j' e' c', Gd A' N' t n j' e' c' ∧ e ≤ j') ∨
     (F_X12_behindWord w N (z_tb (decide (c = k))) a b = some (0, N') ∧ Bd A' N' ∧ (F_X7_take w A k = some (false, A') ∨ ∃ A1, F_X7_take w A k = some (true, A1) ∧ F_X7_takeNumber w A1 a b = some (-1, A')))) := by
  obtain ⟨A1, N1, o1, o2, o3⟩ := g_take hw h k
  unfold F_X12_behindWord
  rw [o1, bindS]
  dsimp only
  rcases o3 with ⟨_, p1, j1, e1, c1, p2, p3⟩ | ⟨_, p1, p2⟩
  · obtain ⟨A2, N2, q1, q2⟩ := g_num hw p2 lo hi hh a b ha hb hl
    have je := p2.2.2.1.2.1
    rcases q2 with ⟨v, v1, v2, _, _, q3, q4, j2, e2, c2, q5, q6⟩ | ⟨q3, q4, q5⟩
    · refine ⟨A2, N2, Kt_t o2 q1, Or.inl ⟨v, A1, v1, v2, p1, q3, ?_, j2, e2, c2, q5, by omega⟩⟩
      rw [q4, bindS]
    · refine ⟨A2, N2, Kt_t o2 q1, Or.inr ⟨?_, q5, Or.inr ⟨A1, p1, q3⟩⟩⟩
      rw [q4, bindS]
  · refine ⟨A1, N1, o2, Or.inr ⟨?_, p2, Or.inl p1⟩⟩
    rw [b_count (Bd_n p2), bindS]
/-! a debt -/
theorem tl_left (h : Bn N) (s v : Int32) : ((F_X12_isLeft w N).bind fun q9 => (F_X12_behindWord w q9.2 (z_tb q9.1) (1 : Int32) (24 : Int32)).bind fun q11 => if (q11.2.1 137 12) = (0 : Int32) then (F_X12_swears w q11.2 (4 : Int32) s v q11.1).bind fun q14 => some ((), q14.2) else some ((), q11.2)) = some ((), N) := by
  obtain ⟨b, hb⟩ := p_isLeft (w := w) (N := N)
  rw [hb, bindS]
  dsimp only
  rw [b_behind h, bindS]
  dsimp only
  rw [if_neg h.2]
theorem tl_sum (h : Bn N) (s : Int32) : ((F_X12_isSum w N).bind fun q5 => (F_X12_behindWord w q5.2 (z_tb q5.1) (1 : Int32) (99 : Int32)).bind fun q7 => (F_X12_isLeft w q7.2).bind fun q9 => (F_X12_behindWord w q9.2 (z_tb q9.1) (1 : Int32) (24 : Int32)).bind fun q11 => if (q11.2.1 137 12) = (0 : Int32) then (F_X12_swears w q11.2 (4 : Int32) s q7.1 q11.1).bind fun q14 => some ((), q14.2) else some ((), q11.2)) = some ((), N) := by
  obtain ⟨b, hb⟩ := p_isSum (w := w) (N := N)
  rw [hb, bindS]
  dsimp only
  rw [b_behind h, bindS]
  dsimp only
  exact tl_left h s 0
theorem ck_n {j N : Nat} (h : j < N) (h2 : j < 2147483648) : ¬ (nI j < 0 ∨ N ≤ j) := fun g => g.elim (nI_pos h2) (fun k => by omega)
theorem f_swears4 {m : Nat} (hm : m < 5) (h : N.1 142 1501 = nI m) (x y z : Int32) : F_X12_swears w N 4 x y z = some ((), z_wI (z_wI (z_wI (z_wI N 142 (1560 + m) x) 142 (1565 + m) y) 142 (1570 + m) z) 142 1501 (nI (m + 1))) := by
  have e1 : ((375 : Int32) * 4) + 1 = nI 1501 := rfl
  have e2 : ((375 : Int32) * 4) + 60 + nI m = nI (1560 + m) := n_lad 1560 m
  have e3 : ((375 : Int32) * 4) + 65 + nI m = nI (1565 + m) := n_lad 1565 m
  have e4 : ((375 : Int32) * 4) + 70 + nI m = nI (1570 + m) := n_lad 1570 m
  have r4 : (z_wI (z_wI (z_wI N 142 (1560 + m) x) 142 (1565 + m) y) 142 (1570 + m) z).1 142 1501 = nI m := by
    rw [wI_slot (by omega), wI_slot (by omega), wI_slot (by omega)]; exact h
  unfold F_X12_swears
  rw [e1, nI_cl (by omega), h, e2, e3, e4, nI_cl (by omega), nI_cl (by omega), nI_cl (by omega), if_neg (ck_n (by omega) (by omega)), if_neg (ck_n (by omega) (by omega)), if_neg (ck_n (by omega) (by omega)), if_neg (ck_n (by omega) (by omega)), if_neg (ck_n (by omega) (by omega)), if_neg (ck_n (by omega) (by omega)), r4, nI_1]
theorem r_debt (hw : 10000 ≤ w) (h : Gd A N t n j e c) (hp : PR A N t n P) (hc : c = 8) : ∃ b A' N', F_X4_readDebt w A = some (b, A') ∧ F_X12_readDebt w N = some ((), N') ∧ Rd A A' N N' t n e b := by
  have dl := hp.2.2.1.2.2.1.1
  have c3 : A.1 38 3 = nI P.2.2.1.2.length := hp.1.2.2.1.1
  have n1 : N.1 142 (1500 + 1) = nI P.2.2.1.2.length := hp.2.1.2.2.1.1
  obtain ⟨A1, N1, o1, o2, o3⟩ := g_room hw h (by rw [hc]; decide) hp (f := 1) (b := 5) dl (by omega) (by omega) n1
  unfold F_X4_readDebt F_X12_readDebt
  rw [c3, show F_X12_another w N 1 5 = some (nI P.2.2.1.2.length, N1) from o1, bindS]
  dsimp only
  rcases o3 with ⟨m5, p0, p1, p2, j1, e1, c1, p3, p4⟩ | ⟨p0, p1⟩
  · rw [show F_X4_hasRoom w A (nI P.2.2.1.2.length) 5 = some (true, A) from p0, bindS, if_pos rfl]
    dsimp only
    rw [p1, bindS]
    dsimp only
    have je1 := p3.2.2.1.2.1
    obtain ⟨A2, N2, q1, q2⟩ := g_side hw p3
    rcases q2 with ⟨s, s1, q3, q4, j2, e2, c2, q5, q6⟩ | ⟨q3, q4, q5⟩
    · rw [q3, bindS, q4, bindS]
      dsimp only
      have je2 := q5.2.2.1.2.1
      rw [if_neg (nI_nm1 (by omega)), m_isSum q5.2.2.1, bindS]
      dsimp only
      obtain ⟨A3, N3, r1, r2⟩ := g_behind hw q5 9 1 99 (by omega) 1 99 rfl rfl (by omega)
      rcases r2 with ⟨v, A3', v1, v2, r3, r4, r5, j3, e3, c3', r6, r7⟩ | ⟨r3, r4, r5⟩
      · rw [r3, bindS, if_pos rfl, r5, bindS]
        dsimp only
        have je3 := r6.2.2.1.2.1
        rw [r4, bindS, m_isLeft r6.2.2.1, bindS]
        dsimp only
        rw [if_neg (nI_nm1 (by omega))]
        obtain ⟨A4, N4, u1, u2⟩ := g_behind hw r6 10 1 24 (by omega) 1 24 rfl rfl (by omega)
        have kk := Kt_t (Kt_t (Kt_t o2 q1) r1) u1
        rcases u2 with ⟨l, A4', l1, l2, u3, u4, u5, j4, e4, c4, u6, u7⟩ | ⟨u3, u4, u5⟩
        · rw [u3, bindS, if_pos rfl, u5, bindS]
          dsimp only
          rw [u4, bindS, u6.2.2.2.2.2.2, if_pos rfl]
          dsimp only
          rw [if_neg (nI_nm1 (by omega))]
          have hq := PR_k hp kk
          have n4 : N4.1 142 1501 = nI P.2.2.1.2.length := hq.2.1.2.2.1.1
          obtain ⟨A5, x1, x2, x3⟩ := c_swear (w := w) hq.1 m5 (nI s) (nI v) (nI l)
          rw [x1, bindS, if_pos rfl, f_swears4 m5 n4, bindS]
          dsimp only
          have F : ∀ i : Nat, (z_wI (z_wI (z_wI (z_wI N4 142 (1560 + P.2.2.1.2.length) (nI s)) 142 (1565 + P.2.2.1.2.length) (nI v)) 142 (1570 + P.2.2.1.2.length) (nI l)) 142 1501 (nI (P.2.2.1.2.length + 1))).1 142 i = if i = 1501 then nI (P.2.2.1.2.length + 1) else if i = 1570 + P.2.2.1.2.length then nI l else if i = 1565 + P.2.2.1.2.length then nI v else if i = 1560 + P.2.2.1.2.length then nI s else N4.1 142 i := by
            intro i
            rw [wI_rd, wI_rd, wI_rd, wI_rd]
            simp only [true_and]
          have Fr : ∀ a, a ≠ 142 → (z_wI (z_wI (z_wI (z_wI N4 142 (1560 + P.2.2.1.2.length) (nI s)) 142 (1565 + P.2.2.1.2.length) (nI v)) 142 (1570 + P.2.2.1.2.length) (nI l)) 142 1501 (nI (P.2.2.1.2.length + 1))).1 a = N4.1 a := by
            intro a ha
            rw [wI_row ha, wI_row ha, wI_row ha, wI_row ha]
          refine ⟨true, _, _, rfl, rfl, Kq_t (Kt_q kk) ?_, Or.inl ⟨rfl, ⟨p_swear P (nI s) (nI v) (nI l), ?_⟩, j4, e4, c4, Gd_k u6 (x3.1 5 (by omega)) (x3.1 6 (by omega)) (Fr 141 (by omega)) (fun i _ => by rw [Fr 137 (by omega)]) rfl, by omega⟩⟩
          · exact ⟨fun x _ a => x3.1 x (by omega), fun k a => by rw [x3.1 5 (by omega)], x3.2, fun x a b => Fr x b, fun i a => by rw [F, if_neg (by omega), if_neg (by omega), if_neg (by omega), if_neg (by omega)], fun i a b => by rw [Fr 137 (by omega)], fun _ _ _ => rfl, fun _ _ => rfl⟩
          · refine PR_p hq x2 ?_ ?_ rfl (fun a x y => x3.1 a (by omega)) (by rw [Fr 137 (by omega)]) rfl
            · have b0 := hq.2.1
              refine BP_sd b0 hq.2.2.1 (BS_of b0.1 (fun i a b _ => ?_)) ?_ (fun i hi => ?_)
              · rw [F, if_neg (by omega), if_neg (by omega), if_neg (by omega), if_neg (by omega)]
              · obtain ⟨d1, d2, d3⟩ := b0.2.2.1
                refine ⟨?_, ?_, fun i x hx => ?_⟩
                · dsimp only; rw [F, if_pos rfl, List.length_append]; rfl
                · dsimp only; rw [F, if_neg (by omega), if_neg (by omega), if_neg (by omega), if_neg (by omega)]; exact d2
                · dsimp only
                  rw [F, F, F]
                  rcases Nat.lt_trichotomy i P.2.2.1.2.length with g | g | g
                  · rw [List.getElem?_append_left g] at hx
                    obtain ⟨y1, y2, y3⟩ := d3 i x hx
                    refine ⟨?_, ?_, ?_⟩
                    · rw [if_neg (by omega), if_neg (by omega), if_neg (by omega), if_neg (by omega)]; exact y1
                    · rw [if_neg (by omega), if_neg (by omega), if_neg (by omega), if_neg (by omega)]; exact y2
                    · rw [if_neg (by omega), if_neg (by omega), if_neg (by omega), if_neg (by omega)]; exact y3
                  · subst g
                    rw [List.getElem?_append_right (Nat.le_refl _), Nat.sub_self] at hx
                    cases hx
                    refine ⟨?_, ?_, ?_⟩
                    · rw [if_neg (by omega), if_neg (by omega), if_neg (by omega), if_pos (by omega)]
                    · rw [if_neg (by omega), if_neg (by omega), if_pos (by omega)]
                    · rw [if_neg (by omega), if_pos (by omega)]
                  · rw [List.getElem?_eq_none (by rw [List.length_append]; show _ + 1 ≤ _; omega)] at hx
                    cases hx
              · rw [F, if_neg (by omega), if_neg (by omega), if_neg (by omega), if_neg (by omega)]
            · obtain ⟨z1, z2, z3, z4⟩ := hq.2.2.1
              refine ⟨z1, z2, ⟨?_, fun x hx => ?_⟩, z4⟩
              · show (P.2.2.1.2 ++ [(nI s, nI v, nI l)]).length ≤ 5
                rw [List.length_append]; show _ + 1 ≤ _; omega
              · have hx' : x ∈ P.2.2.1.2 ++ [(nI s, nI v, nI l)] := hx
                rcases List.mem_append.mp hx' with g | g
                · exact z3.2 x g
                · cases List.mem_singleton.mp g
                  refine ⟨?_, ⟨nI_le (a := 1) (by omega) (by omega), nI_le (b := 99) (by omega) (by omega)⟩, nI_le (a := 1) (by omega) (by omega), nI_le (b := 24) (by omega) (by omega)⟩
                  have : s = 0 ∨ s = 1 := by omega
                  rcases this with x | x <;> subst x
                  · exact Or.inl rfl
                  · exact Or.inr rfl
        · rw [u3, bindS]
          dsimp only
          rw [if_neg (Bd_n u4).2]
          rcases u5 with u5 | ⟨A5, u5, u6⟩
          · rw [u5, bindS, if_neg (by simp)]
            exact ⟨false, _, _, rfl, rfl, Kt_q kk, Or.inr ⟨rfl, u4⟩⟩
          · rw [u5, bindS, if_pos rfl]
            dsimp only
            rw [u6, bindS, if_pos rfl]
            exact ⟨false, _, _, rfl, rfl, Kt_q kk, Or.inr ⟨rfl, u4⟩⟩
      · rw [r3, bindS]
        dsimp only
        rw [tl_left (Bd_n r4)]
        have kk := Kt_t (Kt_t o2 q1) r1
        rcases r5 with r5 | ⟨A5, r5, r6⟩
        · rw [r5, bindS, if_neg (by simp)]
          exact ⟨false, _, _, rfl, rfl, Kt_q kk, Or.inr ⟨rfl, r4⟩⟩
        · rw [r5, bindS, if_pos rfl]
          dsimp only
          rw [r6, bindS, if_pos rfl]
          exact ⟨false, _, _, rfl, rfl, Kt_q kk, Or.inr ⟨rfl, r4⟩⟩
    · rw [q3, bindS, q4, bindS]
      dsimp only
      rw [if_pos rfl, tl_sum (Bd_n q5)]
      exact ⟨false, _, _, rfl, rfl, Kt_q (Kt_t o2 q1), Or.inr ⟨rfl, q5⟩⟩
  · rw [show F_X4_hasRoom w A (nI P.2.2.1.2.length) 5 = some (false, A1) from p0, bindS, if_neg (by simp), b_side (Bd_n p1), bindS]
    dsimp only
    rw [tl_sum (Bd_n p1)]
    exact ⟨false, _, _, rfl, rfl, Kt_q o2, Or.inr ⟨rfl, p1⟩⟩
end
