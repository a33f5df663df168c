/-! ===== a question, read by both ===== -/
section
variable {w : Nat} {A N A' N' : z_Mem} {t : Nat → Nat} {n j e : Nat} {c : Int32} {P : t_P}
theorem r_ask (hw : 10000 ≤ w) (h : Gd A N t n j e c) (hp : PR A N t n P) (hc : c = 11) : ∃ b A' N', F_X4_readAsk w A = some (b, A') ∧ F_X12_readAsk w N = some ((), N') ∧ Rd A A' N N' t n e b := by
  have ml := hp.2.2.1.2.2.2.1.1
  have c4 : A.1 42 4 = nI P.2.2.2.1.1 := hp.1.2.2.2.1.1
  have n2 : N.1 142 (1500 + 2) = nI P.2.2.2.1.1 := hp.2.1.2.2.2.1.1
  have h9 := h.1.1
  obtain ⟨A1, N1, o1, o2, o3⟩ := g_room hw h (by rw [hc]; decide) hp (f := 2) (b := 6) ml (by omega) (by omega) n2
  unfold F_X4_readAsk F_X12_readAsk
  rw [c4, show F_X12_another w N 2 6 = some (nI P.2.2.2.1.1, N1) from o1, bindS]
  dsimp only
  rcases o3 with ⟨m6, p0, p1, p2, j1, e1, c1, p3, p4⟩ | ⟨p0, p1⟩
  · rw [show F_X4_hasRoom w A (nI P.2.2.2.1.1) 6 = some (true, A) from p0, bindS, if_pos rfl]
    dsimp only
    rw [p1, bindS]
    dsimp only
    have je1 := p3.2.2.1.2.1
    have en := p3.2.2.1.2.2.1
    have h3 : A1.1 5 3 = c1 := p3.2.2.1.2.2.2.1
    have b0 := p3.2.2.2.2.2.2
    rw [h3, b0, if_pos rfl, m_isName (by omega) p3.2.2.1, bindS]
    dsimp only
    by_cases g : c1 = 30
    · subst g
      rw [if_pos rfl, if_pos (decide_eq_true rfl), b0, if_pos rfl]
      obtain ⟨r, r1, r2, r3⟩ := f_named (w := w) p3 hw p2
      rw [r1, bindS, r2, bindS]
      dsimp only
      rcases r3 with r3 | ⟨k, k1, r3⟩
      · subst r3
        rw [if_pos rfl, if_pos (show (-1 : Int32) < 0 by decide), b0, if_pos (show (0 : Int32) ≤ 0 by decide)]
        obtain ⟨t1, t2, t3, t4⟩ := TR_30 p3.2.2.1
        obtain ⟨x4, x5, _, _⟩ := p3.2.2.1.1
        have d2 : N1.1 142 1502 = nI P.2.2.2.1.1 := p2.2.1.2.2.2.1.1
        generalize hq : P.2.2.2.1.1 = q at *
        have ck : ¬ (nI q < 0 ∨ 6 ≤ (nI q).toNatClampNeg) := nI_in (by omega) (by omega)
        simp only [if_neg ck]
        rw [nI_cl (by omega), x4, x5, pk_sub (by omega), nI_1, d2, nI_1]
        have HA : ∀ a, a ≠ 42 → a ≠ 54 → a ≠ 55 → (z_wI (z_wI (z_wI A1 54 q (nI j1)) 55 q (nI (e1 - j1))) 42 4 (nI (q + 1))).1 a = A1.1 a := fun a x y z => by rw [wI_row x, wI_row z, wI_row y]
        have HN : ∀ a, a ≠ 142 → (z_wI (z_wL N1 144 q (N1.2 137 19)) 142 1502 (nI (q + 1))).1 a = N1.1 a := fun a x => by rw [wI_row x, wL_1]
        have HF : ∀ i : Nat, (z_wI (z_wL N1 144 q (N1.2 137 19)) 142 1502 (nI (q + 1))).1 142 i = if i = 1502 then nI (q + 1) else N1.1 142 i := fun i => by rw [wI_rd, wL_1]; simp only [true_and]
        have HL : ∀ a, a ≠ 144 → (z_wI (z_wL N1 144 q (N1.2 137 19)) 142 1502 (nI (q + 1))).2 a = N1.2 a := fun a x => by rw [wI_2, wL_row x]
        have gd := Gd_k p3 (HA 5 (by omega) (by omega) (by omega)) (HA 6 (by omega) (by omega) (by omega)) (HN 141 (by omega)) (fun i _ => by rw [HN 137 (by omega)]) (by rw [HL 137 (by omega)])
        have pr : PR (z_wI (z_wI (z_wI A1 54 q (nI j1)) 55 q (nI (e1 - j1))) 42 4 (nI (q + 1))) (z_wI (z_wL N1 144 q (N1.2 137 19)) 142 1502 (nI (q + 1))) t n (P.1, P.2.1, P.2.2.1, (q + 1, P.2.2.2.1.2), P.2.2.2.2) := by
          obtain ⟨f1, f2, f3, f4, f5⟩ := p2
          have f1' : CP (z_wI (z_wI A1 54 q (nI j1)) 55 q (nI (e1 - j1))) 30 P := CP_of f1 (fun a x y => by rw [wI_row (by omega), wI_row (by omega)])
          refine ⟨CP_c f1' ?_ ⟨fun a x => wI_row (by omega), rfl⟩, BP_c f2 f3 ?_ (fun i x y => ?_), ?_, ?_, ?_⟩
          · obtain ⟨g1, g2, g3, g4, g5⟩ := f1'.2.2.2.1
            refine ⟨?_, ?_, ?_, fun i hi => ?_, fun i hi => ?_⟩
            · rw [wI_same]
            · rw [wI_slot (by omega)]; exact g2
            · rw [wI_slot (by omega)]; exact g3
            · rw [wI_row (by omega), wI_row (by omega)]; exact g4 i hi
            · rw [wI_row (by omega), wI_row (by omega)]; exact g5 i hi
          · obtain ⟨g1, g2, g3, g4, g5⟩ := f2.2.2.2.1
            refine ⟨?_, ?_, ?_, fun i hi => ?_, fun i hi => ?_⟩
            · dsimp only; rw [HF, if_pos (by omega)]
            · dsimp only; rw [HF, if_neg (by omega)]; exact g2
            · dsimp only; rw [HF, if_neg (by omega)]; exact g3
            · dsimp only; rw [HF, if_neg (by omega), HF, if_neg (by omega)]; exact g4 i hi
            · dsimp only; rw [HF, if_neg (by omega), HF, if_neg (by omega)]; exact g5 i hi
          · rw [HF, if_neg (by omega)]
          · obtain ⟨z1, z2, z3, ⟨y1, y2⟩, z5⟩ := f3
            exact ⟨z1, z2, z3, ⟨show q + 1 ≤ 6 by omega, y2⟩, z5⟩
          · intro i hi
            rw [HA 53 (by omega) (by omega) (by omega), HN 137 (by omega)]
            exact f4 i hi
          · intro i hi
            have hi' : i < q + 1 := hi
            have e54 : (z_wI (z_wI (z_wI A1 54 q (nI j1)) 55 q (nI (e1 - j1))) 42 4 (nI (q + 1))).1 54 i = if i = q then nI j1 else A1.1 54 i := by
              rw [wI_row (by omega), wI_row (by omega), wI_rd]; simp only [true_and]
            have e55 : (z_wI (z_wI (z_wI A1 54 q (nI j1)) 55 q (nI (e1 - j1))) 42 4 (nI (q + 1))).1 55 i = if i = q then nI (e1 - j1) else A1.1 55 i := by
              rw [wI_row (by omega), wI_rd, wI_row (by omega)]; simp only [true_and]
            have e144 : (z_wI (z_wL N1 144 q (N1.2 137 19)) 142 1502 (nI (q + 1))).2 144 i = if i = q then N1.2 137 19 else N1.2 144 i := by
              rw [wI_2, wL_rd]; simp only [true_and]
            rw [e54, e55, e144]
            by_cases x : i = q
            · rw [if_pos x, if_pos x, if_pos x]
              exact ⟨j1, e1 - j1, rfl, rfl, t2, by omega, fun k hk => t3 (j1 + k) (by omega) (by omega), t4⟩
            · rw [if_neg x, if_neg x, if_neg x]
              exact f5 i (by omega)
        obtain ⟨A3, N3, j3, e3, c3, u1, u2, u3, u4, u5⟩ := g_adv hw gd
        rw [u1, bindS, u2, bindS]
        refine ⟨true, A3, N3, rfl, rfl, Kq_t (Kq_t (Kt_q o2) ?_) (Kt_q u5), Or.inl ⟨rfl, ⟨_, PR_k pr u5⟩, j3, e3, c3, u3, by omega⟩⟩
        exact ⟨fun x _ a => HA x (by omega) (by omega) (by omega), fun k a => by rw [HA 5 (by omega) (by omega) (by omega)], rfl, fun x _ a => HN x a, fun i a => by rw [HF, if_neg (by omega)], fun i _ _ => by rw [HN 137 (by omega)], fun x _ a => HL x a, fun k _ => by rw [HL 137 (by omega)]⟩
      · subst r3
        obtain ⟨A2, N2, a1, a2, a3, a4⟩ := g_fail (w := w) p3 3 (by omega) (by decide)
        rw [if_neg (nI_nm1 (by omega)), if_neg (nI_pos (by omega)), show F_X7_fail w A1 3 = some (false, A2) from a1, bindS, show F_X12_fail w N1 3 (N1.1 137 15) = some ((), N2) from a2, bindS]
        dsimp only
        rw [if_neg (Bd_n a3).1]
        exact ⟨false, A2, N2, rfl, rfl, Kt_q (Kt_t o2 a4), Or.inr ⟨rfl, a3⟩⟩
    · obtain ⟨A2, N2, a1, a2, a3, a4⟩ := g_amiss (w := w) p3
      rw [if_neg g, if_neg (by rw [decide_eq_true_iff]; exact g), a1, bindS, a2, bindS]
      dsimp only
      rw [if_neg (Bd_n a3).2, if_neg (Bd_n a3).1]
      exact ⟨false, A2, N2, rfl, rfl, Kt_q (Kt_t o2 a4), Or.inr ⟨rfl, a3⟩⟩
  · rw [show F_X4_hasRoom w A (nI P.2.2.2.1.1) 6 = some (false, A1) from p0, bindS, if_neg (by simp), if_neg (Bd_n p1).2, if_neg (Bd_n p1).2, if_neg (Bd_n p1).1]
    exact ⟨false, A1, N1, rfl, rfl, Kt_q o2, Or.inr ⟨rfl, p1⟩⟩
end
