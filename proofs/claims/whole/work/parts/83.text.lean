/-! ===== a parish's text, read by both ===== -/
def fin (w : Nat) (N : z_Mem) : Option (Int32 × z_Mem) :=
  (F_X12_isWell w N).bind fun q =>
  if q.1 = true then
  (F_X12_copy w q.2 (4 : Int32) (0 : Int32)).bind fun r =>
  some (r.2.1 142 0, r.2)
  else
  some ((-1 : Int32), q.2)
section
variable {w : Nat} {A N A' N' : z_Mem} {t : Nat → Nat} {n j e : Nat} {c : Int32} {P : t_P}
theorem TR_0 (h : TR A N t n j e c) : (N.1 137 14 = 0 ↔ c = 38) := by
  have tw := TR_w h
  obtain ⟨_, h1, h0, _, h⟩ := h
  rcases h with ⟨h, h2, _⟩ | ⟨h, h2, h3, h4, h5, h6⟩ | ⟨h, h2, _⟩ | ⟨h2, _, h⟩ | ⟨h, h2, _⟩
  · rw [h2, h]; decide
  · have b := tw h2
    rw [h2]
    refine ⟨fun x => absurd x (by decide), fun x => ?_⟩
    rw [x] at b
    exact absurd b (by decide)
  · rw [h2, h]; decide
  · rw [h2]
    rcases h with ⟨h, _⟩ | ⟨h, _⟩ | ⟨h, _⟩ | ⟨h, _⟩ <;> rw [h] <;> decide
  · rw [h2, h]; decide
theorem b_par (h : Bn N) (c : Nat) : L_X12_parish w (c + 1) N = fin w N := by
  rw [L_X12_parish, if_neg h.2]; rfl
theorem Kq_n {A0 A1 N2 : z_Mem} (h : Kq A A' N N') (k : Kt A0 A1 N' N2) : Kq A A' N N2 := by
  obtain ⟨h1, h2, h3, h4, h5, h6, h7, h8⟩ := h
  obtain ⟨_, _, _, g4, g5, g6, g7, g8⟩ := Kt_q k
  exact ⟨h1, h2, h3, fun x a b => (g4 x a b).trans (h4 x a b), fun x a => (g5 x a).trans (h5 x a), fun x a b => (g6 x a b).trans (h6 x a b), fun x a b => (g7 x a b).trans (h7 x a b), fun x a => (g8 x a).trans (h8 x a)⟩
theorem lw_text (hw : 10000 ≤ w) : ∀ (d c c' x : Nat) (A N : z_Mem) (j e : Nat) (cc : Int32) (P : t_P), n - j ≤ d → d + 2 ≤ c → d + 2 ≤ c' → x ≤ j → Gd A N t n j e cc → PR A N t n P →
    ∃ b A' N', L_X4_readText w c A (nI n) (nI x) = some (b, A') ∧ L_X12_parish w c' N = fin w N' ∧ Kq A A' N N' ∧ ((b = true ∧ (∃ P, PR A' N' t n P) ∧ A'.1 5 7 = 0 ∧ A'.1 5 8 = -1 ∧ N'.1 137 12 = 0) ∨ (b = false ∧ Bd A' N')) := by
  intro d
  induction d with
  | zero =>
    intro c c' x A N j e cc P hd hc hc' hx h hp
    obtain ⟨c0, rfl⟩ : ∃ c0, c = c0 + 1 := ⟨c - 1, by omega⟩
    obtain ⟨c1, rfl⟩ : ∃ c1, c' = c1 + 1 := ⟨c' - 1, by omega⟩
    have n9 := h.1.1
    have je := h.2.2.1.2.1
    have en := h.2.2.1.2.2.1
    have g : cc = 38 := by
      rcases h.2.2.2.1 with x | x
      · exact x
      · omega
    refine ⟨true, A, N, ?_, ?_, Kt_q Kt_r, Or.inl ⟨rfl, ⟨P, hp⟩, h.2.2.2.2.1, h.2.2.2.2.2.1, h.2.2.2.2.2.2⟩⟩
    · rw [L_X4_readText, if_neg (Int32.not_lt.mpr (nI_le (by omega) (by omega))), h.2.2.1.2.2.2.1, if_pos g]
    · rw [L_X12_parish, h.2.2.2.2.2.2, if_pos rfl, (TR_0 h.2.2.1).mpr g, if_pos rfl]; rfl
  | succ d ih =>
    intro c c' x A N j e cc P hd hc hc' hx h hp
    obtain ⟨c0, rfl⟩ : ∃ c0, c = c0 + 1 := ⟨c - 1, by omega⟩
    obtain ⟨c1, rfl⟩ : ∃ c1, c' = c1 + 1 + 1 := ⟨c' - 2, by omega⟩
    have n9 := h.1.1
    have je := h.2.2.1.2.1
    have en := h.2.2.1.2.2.1
    have h3 : A.1 5 3 = cc := h.2.2.1.2.2.2.1
    have h0 := h.2.2.2.2.2.2
    have nx : ¬ nI n < nI x := Int32.not_lt.mpr (nI_le (by omega) (by omega))
    by_cases g : cc = 38
    · refine ⟨true, A, N, ?_, ?_, Kt_q Kt_r, Or.inl ⟨rfl, ⟨P, hp⟩, h.2.2.2.2.1, h.2.2.2.2.2.1, h0⟩⟩
      · rw [L_X4_readText, if_neg nx, h3, if_pos g]
      · rw [L_X12_parish, h0, if_pos rfl, (TR_0 h.2.2.1).mpr g, if_pos rfl]; rfl
    · have jl : j < e := by
        rcases h.2.2.2.1 with x | x
        · exact absurd x g
        · exact x
      obtain ⟨b, A1, N1, p1, p2, p3, p4⟩ := p_part hw h hp
      rw [ct h3 g nx c0, L_X12_parish, h0, if_pos rfl, if_neg (fun y => g ((TR_0 h.2.2.1).mp y)), p1, p2, bindS]
      unfold tn
      dsimp only
      rw [bindS]
      dsimp only
      rcases p4 with ⟨q0, ⟨P1, q1⟩, j1, e1, cc1, q2, q3⟩ | ⟨q0, q1⟩ | ⟨q0, A0, j1, e1, cc1, q1, q2, q3⟩
      · subst q0
        rw [if_pos rfl, m_sign q2.2.2.1 59 33 (Or.inl ⟨rfl, rfl⟩), bindS]
        dsimp only
        obtain ⟨A2, N2, r1, r2, r3⟩ := g_take hw q2 33
        have je1 := q2.2.2.1.2.1
        rw [r1, bindS]
        dsimp only
        rcases r3 with ⟨r4, r5, j2, e2, c2, r6, r7⟩ | ⟨r4, r5, r6⟩
        · rw [r5, bindS, if_pos rfl, nI_1]
          dsimp only
          obtain ⟨b, A3, N3, u1, u2, u3, u4⟩ := ih c0 (c1 + 1) (x + 1) A2 N2 j2 e2 c2 P1 (by omega) (by omega) (by omega) (by omega) r6 (PR_k q1 r2)
          exact ⟨b, A3, N3, u1, u2, Kq_t (Kq_t p3 (Kt_q r2)) u3, u4⟩
        · rw [r5, bindS, if_neg (by simp), b_par (Bd_n r6)]
          exact ⟨false, A2, N2, rfl, rfl, Kq_t p3 (Kt_q r2), Or.inr ⟨rfl, r6⟩⟩
      · subst q0
        obtain ⟨b, hb⟩ := p_sign (w := w) (N := N1) 59
        rw [if_neg (by simp), hb, bindS]
        dsimp only
        rw [b_must (Bd_n q1), bindS]
        dsimp only
        rw [b_par (Bd_n q1)]
        exact ⟨false, A1, N1, rfl, rfl, p3, Or.inr ⟨rfl, q1⟩⟩
      · subst q0
        obtain ⟨A2, N2, a1, a2, a3, a4⟩ := g_amiss (w := w) q1
        rw [q3] at a1
        simp only [Option.some.injEq, Prod.mk.injEq, true_and] at a1
        subst a1
        rw [if_neg (by simp), m_sign q1.2.2.1 59 33 (Or.inl ⟨rfl, rfl⟩), bindS]
        dsimp only
        rw [decide_eq_false q2, show F_X12_must w N1 (z_tb false) = some ((), N2) from (m_must0 q1.2.2.2.2.2.2).trans a2, bindS]
        dsimp only
        rw [b_par (Bd_n a3)]
        exact ⟨false, A1, N2, rfl, rfl, Kq_n p3 a4, Or.inr ⟨rfl, a3⟩⟩
end
