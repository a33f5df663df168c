/-! ===== a right, read by both ===== -/
section
variable {w : Nat} {A N A' N' : z_Mem} {t : Nat → Nat} {n j e : Nat} {c : Int32} {P : t_P}
theorem Rd_t {A B C N O Q : z_Mem} {e e' : Nat} {b : Bool} (k : Kt A B N O) (h : Rd B C O Q t n e' b) (he : e ≤ e') : Rd A C N Q t n e b := by
  obtain ⟨h1, h2⟩ := h
  refine ⟨Kq_t (Kt_q k) h1, ?_⟩
  rcases h2 with ⟨a, b, j', e'', c', d, f⟩ | h2
  · exact Or.inl ⟨a, b, j', e'', c', d, by omega⟩
  · exact Or.inr h2
theorem r_right (hw : 10000 ≤ w) (h : Gd A N t n j e c) (hp : PR A N t n P) (hc : c = 5) : ∃ b A' N', F_X4_readRight w A = some (b, A') ∧ F_X12_readRight w N = some ((), N') ∧ Rd A A' N N' t n e b := by
  have ml := hp.2.2.1.2.1.1
  have c5 : A.1 32 5 = nI P.2.1.1 := hp.1.2.1.1
  have n0 : N.1 142 (1500 + 0) = nI P.2.1.1 := hp.2.1.2.1.1
  obtain ⟨A1, N1, o1, o2, o3⟩ := g_room hw h (by rw [hc]; decide) hp (f := 0) (b := 8) ml (by omega) (by omega) n0
  unfold F_X4_readRight F_X12_readRight
  rw [c5, show F_X12_another w N 0 8 = some (nI P.2.1.1, N1) from o1, bindS]
  dsimp only
  rcases o3 with ⟨m8, p0, p1, p2, j1, e1, c1, p3, p4⟩ | ⟨p0, p1⟩
  · rw [show F_X4_hasRoom w A (nI P.2.1.1) 8 = some (true, A) from p0, bindS, if_pos rfl]
    dsimp only
    rw [p1, bindS]
    dsimp only
    have je1 := p3.2.2.1.2.1
    obtain ⟨A2, N2, q1, q2⟩ := g_side hw p3
    rcases q2 with ⟨s, s1, q3, q4, j2, e2, c2, q5, q6⟩ | ⟨q3, q4, q5⟩
    · rw [q3, bindS, q4, bindS]
      dsimp only
      have je2 := q5.2.2.1.2.1
      have h3 : A2.1 5 3 = c2 := q5.2.2.1.2.2.2.1
      have b0 := q5.2.2.2.2.2.2
      have kw := m_kindWord (w := w) q5.2.2.1
      have kk := Kt_t o2 q1
      rw [if_neg (nI_nm1 (by omega)), b0, if_pos (show (0 : Int32) ≤ 0 by decide)]
      by_cases gk : ∃ kd : Nat, kd ≤ 2 ∧ F_X4_kindHere w A2 = some (nI kd, A2) ∧ F_X12_kindWord w N2 = some (nI kd, N2)
      · obtain ⟨kd, k1, k2, k3⟩ := gk
        rw [k2, bindS, k3, bindS]
        dsimp only
        obtain ⟨A3, N3, j3, e3, c3, r1, r2, r3, r4, r5⟩ := g_adv hw q5
        have je3 := r3.2.2.1.2.1
        rw [if_neg (nI_nm1 (by omega)), r1, bindS, if_neg (nI_pos (by omega)), m_must1 b0, r2, bindS]
        dsimp only
        have hq := PR_k hp (Kt_t kk r5)
        by_cases g2 : kd = 2
        · subst g2
          rw [if_pos (show nI 2 = (2 : Int32) from rfl), if_pos (show nI 2 = (2 : Int32) from rfl)]
          obtain ⟨A4, N4, u1, u2⟩ := g_num hw r3 1 6 (by omega) 1 6 rfl rfl (by omega)
          rcases u2 with ⟨z, z1, z2, _, _, u3, u4, j4, e4, c4, u5, u6⟩ | ⟨u3, u4, u5⟩
          · rw [u3, bindS, u4, bindS]
            dsimp only
            rw [if_neg (nI_nm1 (by omega))]
            have je4 := u5.2.2.1.2.1
            obtain ⟨b, A5, N5, x1, x2, x3⟩ := r_rest hw u5 (PR_k hq u1) m8 s1 (kd := 2) (z := z) (Or.inr (Or.inr ⟨rfl, z1, z2⟩))
            exact ⟨b, A5, N5, x1, x2, Rd_t (Kt_t (Kt_t kk r5) u1) x3 (by omega)⟩
          · rw [u3, bindS, u4, bindS]
            dsimp only
            rw [if_pos rfl]
            exact ⟨false, A4, N4, rfl, bt_m hw (Bd_n u5) _ _ _ _, Kt_q (Kt_t (Kt_t kk r5) u1), Or.inr ⟨rfl, u5⟩⟩
        · have n2 : ¬ nI kd = (2 : Int32) := fun x => g2 ((nI_eq (b := 2) (by omega) (by omega)).mp x)
          rw [if_neg n2, if_neg n2]
          obtain ⟨b, A5, N5, x1, x2, x3⟩ := r_rest hw r3 hq m8 s1 (kd := kd) (z := 0) (by omega)
          exact ⟨b, A5, N5, x1, x2, Rd_t (Kt_t kk r5) x3 (by omega)⟩
      · have g17 : ¬ c2 = 17 := fun g => gk ⟨0, by omega, by unfold F_X4_kindHere; rw [h3, if_pos g]; rfl, by rw [kw, if_pos g]; rfl⟩
        have g18 : ¬ c2 = 18 := fun g => gk ⟨1, by omega, by unfold F_X4_kindHere; rw [h3, if_neg g17, if_pos g]; rfl, by rw [kw, if_neg g17, if_pos g]; rfl⟩
        have g19 : ¬ c2 = 19 := fun g => gk ⟨2, by omega, by unfold F_X4_kindHere; rw [h3, if_neg g17, if_neg g18, if_pos g]; rfl, by rw [kw, if_neg g17, if_neg g18, if_pos g]; rfl⟩
        obtain ⟨A3, N3, a1, a2, a3, a4⟩ := g_amiss (w := w) q5
        unfold F_X4_kindHere
        rw [h3, if_neg g17, if_neg g18, if_neg g19, a1, bindS, bindS, if_pos rfl, kw, if_neg g17, if_neg g18, if_neg g19, bindS]
        dsimp only
        rw [if_pos (show (-1 : Int32) < 0 by decide), m_must0 b0, a2, bindS]
        dsimp only
        rw [if_neg (show ¬ (-1 : Int32) = 2 by decide)]
        exact ⟨false, A3, N3, rfl, bt_m hw (Bd_n a3) _ _ _ _, Kt_q (Kt_t kk a4), Or.inr ⟨rfl, a3⟩⟩
    · rw [q3, bindS, q4, bindS]
      dsimp only
      rw [if_pos rfl, if_neg (Bd_n q5).1, b_must (Bd_n q5), bindS]
      exact ⟨false, A2, N2, rfl, bt_m hw (Bd_n q5) _ _ _ _, Kt_q (Kt_t o2 q1), Or.inr ⟨rfl, q5⟩⟩
  · rw [show F_X4_hasRoom w A (nI P.2.1.1) 8 = some (false, A1) from p0, bindS, if_neg (by simp), b_side (Bd_n p1), bindS]
    dsimp only
    rw [if_neg (Bd_n p1).1, b_must (Bd_n p1), bindS]
    exact ⟨false, A1, N1, rfl, bt_m hw (Bd_n p1) _ _ _ _, Kt_q o2, Or.inr ⟨rfl, p1⟩⟩
end
