/-! ===== rights, read by both ===== -/
def rt_c (w : Nat) (A : z_Mem) (s kd z : Int32) : Option (Bool × z_Mem) :=
  (F_X7_take w A (6 : Int32)).bind fun q16 =>
  if q16.1 = true then
  (F_X7_takeNumber w q16.2 (1 : Int32) (50 : Int32)).bind fun q19 =>
  if q19.1 = (-1 : Int32) then
  some (false, q19.2)
  else
  (F_X7_take w q19.2 (7 : Int32)).bind fun q22 =>
  if q22.1 = true then
  (F_X4_takeMonths w q22.2).bind fun q25 =>
  if q25.1 = (-1 : Int32) then
  some (false, q25.2)
  else
  (F_X6_add w q25.2 30 s kd z q19.1 q25.1).bind fun q28 =>
  if q28.1 = true then
  some (true, q28.2)
  else
  some (false, q28.2)
  else
  some (false, q22.2)
  else
  some (false, q16.2)
def rt_m (w : Nat) (N : z_Mem) (m s kd z : Int32) : Option (Unit × z_Mem) :=
  (F_X12_isWorth w N).bind fun q37 =>
  (F_X12_behindWord w q37.2 (z_tb q37.1) (1 : Int32) (50 : Int32)).bind fun q39 =>
  (F_X12_isInWord w q39.2).bind fun q41 =>
  (F_X12_must w q41.2 (z_tb q41.1)).bind fun q43 =>
  L_X12_readRight w w q43.2 m s kd z q39.1 (0 : Int32)
section
variable {w : Nat} {A N A' N' : z_Mem} {t : Nat → Nat} {n j e : Nat} {c : Int32} {P : t_P}
theorem bl_right' (hw : 10000 ≤ w) (h : Bn N) (m s kd z u x : Int32) : L_X12_readRight w w N m s kd z u x = some ((), N) := by
  obtain ⟨w', e⟩ : ∃ w', w = w' + 1 := ⟨w - 1, by omega⟩
  have := bl_right (w := w) h w' m s kd z u x
  rw [← e] at this
  exact this
theorem bt_m (hw : 10000 ≤ w) (h : Bn N) (m s kd z : Int32) : rt_m w N m s kd z = some ((), N) := by
  obtain ⟨b, hb⟩ := p_isWorth (w := w) (N := N)
  obtain ⟨b2, hb2⟩ := p_isInWord (w := w) (N := N)
  unfold rt_m
  rw [hb, bindS]
  dsimp only
  rw [b_behind h, bindS]
  dsimp only
  rw [hb2, bindS]
  dsimp only
  rw [b_must h, bindS]
  exact bl_right' hw h _ _ _ _ _ _
theorem r_rest (hw : 10000 ≤ w) (h : Gd A N t n j e c) (hp : PR A N t n P) (hl : P.2.1.1 < 8) {s kd z : Nat} (hs : s ≤ 1) (hk : (kd = 0 ∧ z = 0) ∨ (kd = 1 ∧ z = 0) ∨ (kd = 2 ∧ 1 ≤ z ∧ z ≤ 6)) : ∃ b A' N', rt_c w A (nI s) (nI kd) (nI z) = some (b, A') ∧ rt_m w N (nI P.2.1.1) (nI s) (nI kd) (nI z) = some ((), N') ∧ Rd A A' N N' t n e b := by
  unfold rt_c rt_m
  rw [m_isWorth h.2.2.1, bindS]
  dsimp only
  obtain ⟨A1, N1, o1, o2⟩ := g_behind hw h 6 1 50 (by omega) 1 50 rfl rfl (by omega)
  rcases o2 with ⟨u, A1', u1, u2, o3, o4, o5, j1, e1, c1, o6, o7⟩ | ⟨o3, o4, o5⟩
  · rw [o3, bindS, if_pos rfl]
    dsimp only
    rw [o4, bindS, if_neg (nI_nm1 (by omega)), o5, bindS]
    dsimp only
    rw [m_isInWord o6.2.2.1, bindS]
    dsimp only
    have je1 := o6.2.2.1.2.1
    obtain ⟨A2, N2, p1, p2, p3⟩ := g_take hw o6 7
    rw [p1, bindS]
    dsimp only
    rcases p3 with ⟨_, p3, j2, e2, c2, p4, p5⟩ | ⟨_, p3, p4⟩
    · rw [p3, bindS, if_pos rfl]
      dsimp only
      obtain ⟨A3, N3, q1, q2⟩ := lw_months hw (nI P.2.1.1) (nI s) (nI kd) (nI z) (nI u) 12 0 w w A2 N2 j2 e2 c2 (by rw [tcn_z]) (by omega) (by omega) (by omega) p4
      have kk := Kt_t (Kt_t o1 p2) q1
      rw [tcn_z] at q2
      rcases q2 with ⟨Y, y1, y2, y3, j3, e3, c3, y4, y5⟩ | ⟨y2, y3, y4⟩
      · rw [show F_X4_takeMonths w A2 = some (nI Y, A3) from y2, bindS, show L_X12_readRight w w N2 (nI P.2.1.1) (nI s) (nI kd) (nI z) (nI u) 0 = _ from y3]
        dsimp only
        have hq := PR_k hp kk
        obtain ⟨A4, a1, a2, a3⟩ := f_addR (w := w) (p := 30) hq.1.2.1 hl (nI s) (nI kd) (nI z) (nI u) (nI Y)
        obtain ⟨N4, b1, b2, b3, b4, b5⟩ := f_grants (w := w) (N := N3) (b := 4) (by omega) (r := P.2.1) hq.2.1.2.1 hl (nI s) (nI kd) (nI z) (nI u) (nI Y)
        rw [if_neg (nI_nm1 (by omega)), a1, bindS, if_pos rfl, show F_X12_grants w N3 4 (nI P.2.1.1) (nI s) (nI kd) (nI z) (nI u) (nI Y) = some ((), N4) from b1, bindS]
        dsimp only
        refine ⟨true, _, _, rfl, rfl, Kq_t (Kt_q kk) ?_, Or.inl ⟨rfl, ⟨(P.1, rA P.2.1 (v5 (nI s) (nI kd) (nI z) (nI u) (nI Y)), P.2.2), ?_⟩, j3, e3, c3, Gd_k y4 (a3.1 5 (by omega)) (a3.1 6 (by omega)) (b3 141 (by omega)) (fun i _ => by rw [b3 137 (by omega)]) (by rw [b5]), by omega⟩⟩
        · exact ⟨fun x _ a => a3.1 x (by omega), fun k a => by rw [a3.1 5 (by omega)], a3.2, fun x a b => b3 x b, fun i a => b4 i (by omega) (by omega), fun i a b => by rw [b3 137 (by omega)], fun _ _ _ => by rw [b5], fun _ _ => by rw [b5]⟩
        · refine PR_p hq (CP_r hq.1 a2 a3) (BP_r hq.2.1 hq.2.2.1 b2 (fun i h1 h2 => b4 (1500 + i) (by omega) (by omega))) ?_ rfl (fun a x y => a3.1 a (by omega)) (by rw [b3 137 (by omega)]) b5
          obtain ⟨z1, ⟨z2, z3⟩, z4⟩ := hq.2.2.1
          refine ⟨z1, ⟨?_, fun i hi => ?_⟩, z4⟩
          · show P.2.1.1 + 1 ≤ 8; omega
          · have hi' : i < P.2.1.1 + 1 := hi
            by_cases g : i = P.2.1.1
            · have ev : ∀ k, (rA P.2.1 (v5 (nI s) (nI kd) (nI z) (nI u) (nI Y))).2 k i = v5 (nI s) (nI kd) (nI z) (nI u) (nI Y) k := fun k => if_pos g
              show ((rA P.2.1 (v5 (nI s) (nI kd) (nI z) (nI u) (nI Y))).2 0 i = 0 ∨ (rA P.2.1 (v5 (nI s) (nI kd) (nI z) (nI u) (nI Y))).2 0 i = 1) ∧ _
              dsimp only
              rw [ev, ev, ev, ev, ev]
              refine ⟨?_, ?_, ⟨nI_le (a := 1) u1 (by omega), nI_le (b := 50) u2 (by omega)⟩, nI_pos' (by omega), nI_le (b := 4095) (by omega) (by omega)⟩
              · have : s = 0 ∨ s = 1 := by omega
                rcases this with x | x <;> subst x
                · exact Or.inl rfl
                · exact Or.inr rfl
              · rcases hk with ⟨x, y⟩ | ⟨x, y⟩ | ⟨x, y, y'⟩
                · subst x; subst y; exact Or.inl ⟨rfl, rfl⟩
                · subst x; subst y; exact Or.inr (Or.inl ⟨rfl, rfl⟩)
                · subst x; exact Or.inr (Or.inr ⟨rfl, nI_le (a := 1) y (by omega), nI_le (b := 6) y' (by omega)⟩)
            · have ev : ∀ k, (rA P.2.1 (v5 (nI s) (nI kd) (nI z) (nI u) (nI Y))).2 k i = P.2.1.2 k i := fun k => if_neg g
              show ((rA P.2.1 (v5 (nI s) (nI kd) (nI z) (nI u) (nI Y))).2 0 i = 0 ∨ (rA P.2.1 (v5 (nI s) (nI kd) (nI z) (nI u) (nI Y))).2 0 i = 1) ∧ _
              dsimp only
              rw [ev, ev, ev, ev, ev]
              exact z3 i (by omega)
      · rw [show F_X4_takeMonths w A2 = some (-1, A3) from y2, bindS, if_pos rfl, show L_X12_readRight w w N2 (nI P.2.1.1) (nI s) (nI kd) (nI z) (nI u) 0 = _ from y3]
        exact ⟨false, _, _, rfl, rfl, Kt_q kk, Or.inr ⟨rfl, y4⟩⟩
    · rw [p3, bindS, if_neg (by simp), bl_right' hw (Bd_n p4)]
      exact ⟨false, _, _, rfl, rfl, Kt_q (Kt_t o1 p2), Or.inr ⟨rfl, p4⟩⟩
  · obtain ⟨b2, hb2⟩ := p_isInWord (w := w) (N := N1)
    rw [o3, bindS]
    dsimp only
    rw [hb2, bindS]
    dsimp only
    rw [b_must (Bd_n o4), bindS]
    dsimp only
    rw [bl_right' hw (Bd_n o4)]
    rcases o5 with o5 | ⟨A5, o5, o6⟩
    · rw [o5, bindS, if_neg (by simp)]
      exact ⟨false, _, _, rfl, rfl, Kt_q o1, Or.inr ⟨rfl, o4⟩⟩
    · rw [o5, bindS, if_pos rfl]
      dsimp only
      rw [o6, bindS, if_pos rfl]
      exact ⟨false, _, _, rfl, rfl, Kt_q o1, Or.inr ⟨rfl, o4⟩⟩
end
