/-! ===== a clause, from its word on ===== -/
section
variable {w : Nat} {A N A' N' : z_Mem} {t : Nat → Nat} {n j e : Nat} {c : Int32} {P : t_P}
theorem r_clause (hw : 10000 ≤ w) (h : Gd A N t n j e c) (hp : PR A N t n P) (hc : c = 12) : ∃ b A' N', F_X4_readClause w A = some (b, A') ∧ F_X12_readClause w N = some ((), N') ∧ Kq A A' N N' ∧ ((b = true ∧ (∃ P, PR A' N' t n P) ∧ ∃ j' e' c1, Gd A' N' t n j' e' c1 ∧ e ≤ j') ∨ (b = false ∧ Bd A' N') ∨ (b = false ∧ ∃ A0 j' e' c1, Gd A0 N' t n j' e' c1 ∧ ¬ c1 = 33 ∧ F_X7_fail w A0 2 = some (false, A'))) := by
  have ml := hp.2.2.1.2.2.2.1.2.1
  have c5 : A.1 42 5 = nI P.2.2.2.1.2.1.1 := hp.1.2.2.2.1.2.1
  have n3 : N.1 142 (1500 + 3) = nI P.2.2.2.1.2.1.1 := hp.2.1.2.2.2.1.2.1
  obtain ⟨A1, N1, o1, o2, o3⟩ := g_room hw h (by rw [hc]; decide) hp (f := 3) (b := 8) ml (by omega) (by omega) n3
  unfold F_X4_readClause F_X12_readClause
  rw [c5, show F_X12_another w N 3 8 = some (nI P.2.2.2.1.2.1.1, N1) from o1, bindS]
  dsimp only
  rcases o3 with ⟨m8, p0, p1, p2, j1, e1, c1, p3, p4⟩ | ⟨p0, p1⟩
  · rw [show F_X4_hasRoom w A (nI P.2.2.2.1.2.1.1) 8 = some (true, A) from p0, bindS, if_pos rfl]
    dsimp only
    rw [p1, bindS]
    dsimp only
    obtain ⟨bb, A2, N2, u1, u2, u3, u4⟩ := lw_clause (t := t) (n := n) (P := P) hw m8 3 0 0 0 w w A1 N1 j1 e1 c1 (by omega) (by omega) (by omega) (by omega) (by omega) p3 p2 rfl
    refine ⟨bb, A2, N2, u1, u2, Kq_t (Kt_q o2) u3, ?_⟩
    rcases u4 with ⟨x, y, j3, e3, c3, z, zz⟩ | u4
    · exact Or.inl ⟨x, y, j3, e3, c3, z, by omega⟩
    · exact Or.inr u4
  · obtain ⟨w', ew⟩ : ∃ w', w = w' + 1 := ⟨w - 1, by omega⟩
    have bc := b_cl (w := w) (Bd_n p1) w' (nI P.2.2.2.1.2.1.1) 0 0
    rw [← ew] at bc
    rw [show F_X4_hasRoom w A (nI P.2.2.2.1.2.1.1) 8 = some (false, A1) from p0, bindS, if_neg (by simp), bc]
    exact ⟨false, A1, N1, rfl, rfl, Kt_q o2, Or.inr (Or.inl ⟨rfl, p1⟩)⟩
end
