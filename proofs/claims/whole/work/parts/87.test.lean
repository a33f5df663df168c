/-! ===== years: a test ===== -/
def cts (w : Nat) (A : z_Mem) (c : Int32) : Option (Bool × z_Mem) :=
  if c = (34 : Int32) then (F_X7_advance w A).bind fun q => (F_X7_takeNumber w q.2 (0 : Int32) (9999 : Int32)).bind fun r => if r.1 = (-1 : Int32) then some (false, (z_wI r.2 56 6 r.1)) else some (true, (z_wI r.2 56 6 r.1))
  else if c = (35 : Int32) then (F_X7_advance w A).bind fun q => (F_X7_takeNumber w q.2 (0 : Int32) (9999 : Int32)).bind fun r => if r.1 = (-1 : Int32) then some (false, (z_wI r.2 56 6 r.1)) else some (true, (z_wI r.2 56 6 r.1))
  else if c = (36 : Int32) then (F_X7_advance w A).bind fun q => (F_X7_takeNumber w q.2 (0 : Int32) (9999 : Int32)).bind fun r => if r.1 = (-1 : Int32) then some (false, (z_wI r.2 56 6 r.1)) else some (true, (z_wI r.2 56 6 r.1))
  else (F_X7_fail w A (2 : Int32)).bind fun q => some (q.1, q.2)
def mts (w : Nat) (N : z_Mem) (a1 : Int32) : Option (Unit × z_Mem) :=
  (F_X12_isSign w N (60 : Int32)).bind fun p => if p.1 = true then (F_X12_must w p.2 (1 : Int32)).bind fun q => (F_X12_count w q.2 (0 : Int32) (9999 : Int32)).bind fun r => if (a1 + (6 : Int32)) < 0 ∨ 1875 ≤ (a1 + (6 : Int32)).toNatClampNeg then none else some ((), (z_wI r.2 142 ((a1 + (6 : Int32)).toNatClampNeg) r.1))
  else (F_X12_isSign w p.2 (62 : Int32)).bind fun p => if p.1 = true then (F_X12_must w p.2 (1 : Int32)).bind fun q => (F_X12_count w q.2 (0 : Int32) (9999 : Int32)).bind fun r => if (a1 + (6 : Int32)) < 0 ∨ 1875 ≤ (a1 + (6 : Int32)).toNatClampNeg then none else some ((), (z_wI r.2 142 ((a1 + (6 : Int32)).toNatClampNeg) r.1))
  else (F_X12_isSign w p.2 (61 : Int32)).bind fun p => if p.1 = true then (F_X12_must w p.2 (1 : Int32)).bind fun q => (F_X12_count w q.2 (0 : Int32) (9999 : Int32)).bind fun r => if (a1 + (6 : Int32)) < 0 ∨ 1875 ≤ (a1 + (6 : Int32)).toNatClampNeg then none else some ((), (z_wI r.2 142 ((a1 + (6 : Int32)).toNatClampNeg) r.1))
  else (F_X12_must w p.2 (0 : Int32)).bind fun q => (F_X12_count w q.2 (0 : Int32) (9999 : Int32)).bind fun r => if (a1 + (6 : Int32)) < 0 ∨ 1875 ≤ (a1 + (6 : Int32)).toNatClampNeg then none else some ((), (z_wI r.2 142 ((a1 + (6 : Int32)).toNatClampNeg) r.1))
section
variable {w : Nat} {A N A' N' : z_Mem} {t : Nat → Nat} {n j e W : Nat} {c : Int32}
theorem TR_s (h : TR A N t n j e c) : (c = 34 → N.1 137 14 = 3 ∧ N.1 137 17 = 60) ∧ (c = 35 → N.1 137 14 = 3 ∧ N.1 137 17 = 62) ∧ (c = 36 → N.1 137 14 = 3 ∧ N.1 137 17 = 61) := by
  have tw := TR_w h
  obtain ⟨_, h1, h0, _, h⟩ := h
  rcases h with ⟨h, h2, _⟩ | ⟨h, h2, _⟩ | ⟨h, h2, _⟩ | ⟨h2, _, h⟩ | ⟨h, h2, _⟩
  · rw [h]; exact ⟨fun x => absurd x (by decide), fun x => absurd x (by decide), fun x => absurd x (by decide)⟩
  · have b := tw h2
    refine ⟨fun x => ?_, fun x => ?_, fun x => ?_⟩ <;> rw [x] at b <;> exact absurd b (by decide)
  · rw [h]; exact ⟨fun x => absurd x (by decide), fun x => absurd x (by decide), fun x => absurd x (by decide)⟩
  · refine ⟨fun x => ⟨h2, ?_⟩, fun x => ⟨h2, ?_⟩, fun x => ⟨h2, ?_⟩⟩ <;> rw [x] at h <;> rcases h with ⟨h, y⟩ | ⟨h, y⟩ | ⟨h, y⟩ | ⟨h, y⟩ <;> first | exact y | exact absurd h (by decide)
  · rw [h]; exact ⟨fun x => absurd x (by decide), fun x => absurd x (by decide), fun x => absurd x (by decide)⟩
/-- how both come out of what stands behind a chest's side -/
def Rt (A A' N N' : z_Mem) (W : Nat) (t : Nat → Nat) (n j : Nat) (b : Bool) : Prop := Ky W A A' N N' ∧ ((b = true ∧ (∃ j' e' c', Gd A' N' t n j' e' c' ∧ j ≤ j') ∧ A'.1 56 6 = N'.1 142 (W + 6) ∧ (∀ k, k ≠ 6 → A'.1 56 k = A.1 56 k) ∧ ∀ k, k ≠ W + 6 → N'.1 142 k = N.1 142 k) ∨ (b = false ∧ Bd A' N'))
theorem rt_num (hw : 10000 ≤ w) (h : Gd A N t n j e c) (hW : W + 8 < 1875) : ∃ b A' N', ((F_X7_advance w A).bind fun q => (F_X7_takeNumber w q.2 (0 : Int32) (9999 : Int32)).bind fun r => if r.1 = (-1 : Int32) then some (false, (z_wI r.2 56 6 r.1)) else some (true, (z_wI r.2 56 6 r.1))) = some (b, A') ∧ ((F_X12_must w N (1 : Int32)).bind fun q => (F_X12_count w q.2 (0 : Int32) (9999 : Int32)).bind fun r => if (nI W + (6 : Int32)) < 0 ∨ 1875 ≤ (nI W + (6 : Int32)).toNatClampNeg then none else some ((), (z_wI r.2 142 ((nI W + (6 : Int32)).toNatClampNeg) r.1))) = some ((), N') ∧ Rt A A' N N' W t n j b := by
  have je0 := h.2.2.1.2.1
  obtain ⟨A1, N1, j1, e1, c1, a1, a2, a3, a4, a5⟩ := g_adv hw h
  rw [a1, bindS, m_must1 h.2.2.2.2.2.2, a2, bindS]
  dsimp only
  obtain ⟨A2, N2, q1, q2⟩ := g_num hw a3 0 9999 (by omega) 0 9999 rfl rfl (by omega)
  have je1 := a3.2.2.1.2.1
  have K := Ky_t (W := W) (Kt_y a5) (Kt_y q1)
  rcases q2 with ⟨v, v1, v2, _, _, q3, q4, j2, e2, c2, q5, q6⟩ | ⟨q3, q4, q5⟩
  · rw [q3, bindS, q4, bindS]
    dsimp only
    rw [if_neg (nI_nm1 (by omega)), wadd W 6, if_neg (win hW (by omega)), wcl hW (by omega)]
    refine ⟨true, _, _, rfl, rfl, Ky_t K (Ky_t (Ky_a (by omega)) (Ky_n (by omega))), Or.inl ⟨rfl, ⟨j2, e2, c2, Gd_n (Gd_a q5), by omega⟩, ?_, fun k hk => ?_, fun k hk => ?_⟩⟩
    · rw [wI_same, wI_same]
    · rw [wI_slot hk, q1.1 56 (by omega), a5.1 56 (by omega)]
    · rw [wI_slot hk, q1.2.2.2.1 142 (by omega), a5.2.2.2.1 142 (by omega)]
  · rw [q3, bindS, q4, bindS]
    dsimp only
    rw [if_pos rfl, wadd W 6, if_neg (win hW (by omega)), wcl hW (by omega)]
    exact ⟨false, _, _, rfl, rfl, Ky_t K (Ky_t (Ky_a (by omega)) (Ky_n (by omega))), Or.inr ⟨rfl, Bd_m (Bd_a q5)⟩⟩
theorem rt_all (hw : 10000 ≤ w) (h : Gd A N t n j e c) (hW : W + 8 < 1875) : ∃ b A' N', cts w A c = some (b, A') ∧ mts w N (nI W) = some ((), N') ∧ Rt A A' N N' W t n j b ∧ (b = true → c = 34 ∨ c = 35 ∨ c = 36) := by
  have T := h.2.2.1
  unfold cts mts
  rw [m_sign T 60 34 (Or.inr (Or.inl ⟨rfl, rfl⟩)), bindS]
  dsimp only
  by_cases g1 : c = 34
  · obtain ⟨b, A', N', x1, x2, x3⟩ := rt_num hw h hW
    rw [if_pos g1, if_pos (decide_eq_true g1)]
    exact ⟨b, A', N', x1, x2, x3, fun _ => Or.inl g1⟩
  rw [if_neg g1, if_neg (show ¬ decide (c = 34) = true by rw [decide_eq_true_iff]; exact g1), m_sign T 62 35 (Or.inr (Or.inr (Or.inr ⟨rfl, rfl⟩))), bindS]
  dsimp only
  by_cases g2 : c = 35
  · obtain ⟨b, A', N', x1, x2, x3⟩ := rt_num hw h hW
    rw [if_pos g2, if_pos (decide_eq_true g2)]
    exact ⟨b, A', N', x1, x2, x3, fun _ => Or.inr (Or.inl g2)⟩
  rw [if_neg g2, if_neg (show ¬ decide (c = 35) = true by rw [decide_eq_true_iff]; exact g2), m_sign T 61 36 (Or.inr (Or.inr (Or.inl ⟨rfl, rfl⟩))), bindS]
  dsimp only
  by_cases g3 : c = 36
  · obtain ⟨b, A', N', x1, x2, x3⟩ := rt_num hw h hW
    rw [if_pos g3, if_pos (decide_eq_true g3)]
    exact ⟨b, A', N', x1, x2, x3, fun _ => Or.inr (Or.inr g3)⟩
  rw [if_neg g3, if_neg (show ¬ decide (c = 36) = true by rw [decide_eq_true_iff]; exact g3)]
  obtain ⟨A1, N1, a1, a2, a3, a4⟩ := g_amiss (w := w) h
  rw [a1, bindS, m_must0 h.2.2.2.2.2.2, a2, bindS]
  dsimp only
  rw [b_count (Bd_n a3), bindS]
  dsimp only
  rw [wadd W 6, if_neg (win hW (by omega)), wcl hW (by omega)]
  exact ⟨false, _, _, rfl, rfl, ⟨Ky_t (Kt_y a4) (Ky_n (by omega)), Or.inr ⟨rfl, Bd_m a3⟩⟩, fun x => by cases x⟩
/-- a side, behind lies or owes -/
theorem rs_lo (hw : 10000 ≤ w) (h : Gd A N t n j e c) (hW : W + 8 < 1875) (τ : Int32) (hx : (c = 3 ∧ τ = 0) ∨ (c = 26 ∧ τ = 2)) : ∃ b A' N', F_X10_takeTest w A = some (b, A') ∧ F_X12_readTest w N (nI W) = some ((), N') ∧ Rs A A' N N' W t n j 25 b := by
  have h3 : A.1 5 3 = c := h.2.2.1.2.2.2.1
  have je0 := h.2.2.1.2.1
  have h0 := h.2.2.2.2.2.2
  obtain ⟨A1, N1, j1, e1, c1, a1, a2, a3, a4, a5⟩ := g_adv hw (Gd_a h (k := 4) (v := c))
  obtain ⟨A2, N2, q1, q2⟩ := g_side hw (Gd_n a3 (k := W + 5) (v := τ))
  have je1 := a3.2.2.1.2.1
  have K := Ky_t (Ky_a (W := W) (A := A) (N := N) (k := 4) (v := c) (by omega)) (Ky_t (Kt_y a5) (Ky_t (Ky_n (k := W + 5) (v := τ) (by omega)) (Kt_y q1)))
  have f4 : A2.1 56 4 = c := by rw [q1.1 56 (by omega), a5.1 56 (by omega), wI_same]
  have t5 : N2.1 142 (W + 5) = τ := by rw [q1.2.2.2.1 142 (by omega), wI_same]
  have tn : ¬ τ < 0 ∧ ¬ τ = 1 ∧ ¬ c = 4 := by
    rcases hx with ⟨rfl, rfl⟩ | ⟨rfl, rfl⟩ <;> decide
  have tw : F_X12_testWord w N = some (τ, N) := by
    rw [m_testWord h.2.2.1]
    rcases hx with ⟨rfl, rfl⟩ | ⟨rfl, rfl⟩ <;> rfl
  have eC : ∀ r : Int32, F_X7_takeSide w A1 = some (r, A2) → F_X10_takeTest w A = if r = -1 then some (false, z_wI A2 56 5 r) else some (true, z_wI A2 56 5 r) := by
    intro r hr
    unfold F_X10_takeTest
    rw [h3]
    rcases hx with ⟨g, _⟩ | ⟨g, _⟩
    · rw [if_pos g, a1, bindS]
      dsimp only
      rw [hr, bindS]
      dsimp only
      rw [if_neg tn.2.2]
      by_cases y : r = -1
      · simp only [if_pos y]
      · simp only [if_neg y]
    · rw [if_neg (show ¬ c = 3 by rw [g]; decide), if_pos g, a1, bindS]
      dsimp only
      rw [hr, bindS]
      dsimp only
      rw [if_neg tn.2.2]
      by_cases y : r = -1
      · simp only [if_pos y]
      · simp only [if_neg y]
  have eM : ∀ r : Int32, F_X12_readSide w (z_wI N1 142 (W + 5) τ) = some (r, N2) → F_X12_readTest w N (nI W) = some ((), z_wI N2 142 (W + 1) r) := by
    intro r hr
    unfold F_X12_readTest
    rw [tw, bindS]
    dsimp only
    rw [if_neg tn.1, m_must1 h0, a2, bindS]
    dsimp only
    rw [wadd W 5, if_neg (win hW (by omega)), wcl hW (by omega), hr, bindS]
    dsimp only
    rw [wadd W 1, if_neg (win hW (by omega)), wcl hW (by omega), if_neg tn.2.1, ite_self]
  rcases q2 with ⟨v, v1, q3, q4, j2, e2, c2, q5, q6⟩ | ⟨q3, q4, q5⟩
  · rw [eC _ q3, eM _ q4, if_neg (nI_nm1 (by omega))]
    refine ⟨true, _, _, rfl, rfl, Ky_t K (Ky_t (Ky_a (by omega)) (Ky_n (by omega))), Or.inl ⟨rfl, ⟨j2, e2, c2, Gd_n (Gd_a q5), by omega⟩, ?_⟩⟩
    rw [wI_same, wI_slot (by omega), wI_slot (by omega), f4]
    have vv : nI v = 0 ∨ nI v = 1 := by
      rcases (show v = 0 ∨ v = 1 by omega) with rfl | rfl
      · exact Or.inl rfl
      · exact Or.inr rfl
    have yt : y_test c = τ := by rcases hx with ⟨rfl, rfl⟩ | ⟨rfl, rfl⟩ <;> rfl
    refine ⟨Or.inr (Or.inr (Or.inr (Or.inr (Or.inr (Or.inr (Or.inr (Or.inl ⟨rfl, vv, ?_⟩))))))), fun _ => ⟨?_, wI_same, fun y => absurd (yt ▸ y) tn.2.1⟩, fun y => absurd rfl y, fun y => absurd y (by decide), fun y => absurd y (by decide)⟩
    · rcases hx with ⟨rfl, _⟩ | ⟨rfl, _⟩
      · exact Or.inl rfl
      · exact Or.inr (Or.inl rfl)
    · rw [wI_slot (by omega), t5, yt]
  · rw [eC _ q3, eM _ q4, if_pos rfl]
    exact ⟨false, _, _, rfl, rfl, Ky_t K (Ky_t (Ky_a (by omega)) (Ky_n (by omega))), Or.inr ⟨rfl, Bd_m (Bd_a q5)⟩⟩
/-- a chest -/
theorem rs_ch (hw : 10000 ≤ w) (h : Gd A N t n j e c) (hW : W + 8 < 1875) (hx : c = 4) : ∃ b A' N', F_X10_takeTest w A = some (b, A') ∧ F_X12_readTest w N (nI W) = some ((), N') ∧ Rs A A' N N' W t n j 25 b := by
  have h3 : A.1 5 3 = c := h.2.2.1.2.2.2.1
  have je0 := h.2.2.1.2.1
  have h0 := h.2.2.2.2.2.2
  obtain ⟨A1, N1, j1, e1, c1, a1, a2, a3, a4, a5⟩ := g_adv hw (Gd_a h (k := 4) (v := c))
  obtain ⟨A2, N2, q1, q2⟩ := g_side hw (Gd_n a3 (k := W + 5) (v := 1))
  have je1 := a3.2.2.1.2.1
  have K := Ky_t (Ky_a (W := W) (A := A) (N := N) (k := 4) (v := c) (by omega)) (Ky_t (Kt_y a5) (Ky_t (Ky_n (k := W + 5) (v := 1) (by omega)) (Kt_y q1)))
  have t5 : N2.1 142 (W + 5) = 1 := by rw [q1.2.2.2.1 142 (by omega), wI_same]
  have tw : F_X12_testWord w N = some (1, N) := by
    rw [m_testWord h.2.2.1, hx]; rfl
  have eC : ∀ r : Int32, F_X7_takeSide w A1 = some (r, A2) → F_X10_takeTest w A = if r = -1 then some (false, z_wI A2 56 5 r) else cts w (z_wI (z_wI A2 56 5 r) 56 4 (A2.1 5 3)) (A2.1 5 3) := by
    intro r hr
    unfold F_X10_takeTest
    rw [h3, if_neg (show ¬ c = 3 by rw [hx]; decide), if_neg (show ¬ c = 26 by rw [hx]; decide), if_pos hx, a1, bindS]
    dsimp only
    rw [hr, bindS]
    dsimp only
    rw [if_pos hx]
    by_cases y : r = -1
    · simp only [if_pos y]
    · rw [if_neg y, if_neg y]
      rfl
  have eM : ∀ r : Int32, F_X12_readSide w (z_wI N1 142 (W + 5) 1) = some (r, N2) → F_X12_readTest w N (nI W) = if (0 : Int32) < N2.1 137 12 then some ((), z_wI N2 142 (W + 1) r) else mts w (z_wI (z_wI N2 142 (W + 1) r) 142 (W + 7) (if N2.1 137 14 = 3 then N2.1 137 17 else 0)) (nI W) := by
    intro r hr
    unfold F_X12_readTest
    rw [tw, bindS]
    dsimp only
    rw [if_neg (show ¬ (1 : Int32) < 0 by decide), m_must1 h0, a2, bindS]
    dsimp only
    rw [wadd W 5, if_neg (win hW (by omega)), wcl hW (by omega), hr, bindS]
    dsimp only
    rw [wadd W 1, if_neg (win hW (by omega)), wcl hW (by omega), if_pos rfl]
    by_cases y : (0 : Int32) < N2.1 137 12
    · rw [if_pos y, if_pos y]
    · rw [if_neg y, if_neg y, wadd W 7]
      by_cases z : N2.1 137 14 = 3
      · rw [if_pos z, if_pos z, if_neg (win hW (by omega)), wcl hW (by omega)]
        rfl
      · rw [if_neg z, if_neg z, if_neg (win hW (by omega)), wcl hW (by omega)]
        rfl
  rcases q2 with ⟨v, v1, q3, q4, j2, e2, c2, q5, q6⟩ | ⟨q3, q4, q5⟩
  · have c3 : A2.1 5 3 = c2 := q5.2.2.1.2.2.2.1
    rw [eC _ q3, eM _ q4, if_neg (nI_nm1 (by omega)), c3, if_neg (show ¬ (0 : Int32) < N2.1 137 12 by rw [q5.2.2.2.2.2.2]; decide)]
    obtain ⟨b, A', N', x1, x2, ⟨x3, x4⟩, x5⟩ := rt_all hw (Gd_n (Gd_n (Gd_a (Gd_a q5 (k := 5) (v := nI v)) (k := 4) (v := c2)) (k := W + 1) (v := nI v)) (k := W + 7) (v := if N2.1 137 14 = 3 then N2.1 137 17 else 0)) hW
    have je2 := q5.2.2.1.2.1
    refine ⟨b, A', N', x1, x2, Ky_t (Ky_t K (Ky_t (Ky_t (Ky_a (by omega)) (Ky_a (by omega))) (Ky_t (Ky_n (by omega)) (Ky_n (by omega))))) x3, ?_⟩
    rcases x4 with ⟨rfl, ⟨j3, e3, c4, y1, y2⟩, y3, y4, y5⟩ | x4
    · refine Or.inl ⟨rfl, ⟨j3, e3, c4, y1, by omega⟩, ?_⟩
      rw [y4 4 (by omega), y4 5 (by omega), wI_same, wI_slot (by omega), wI_same]
      have vv : nI v = 0 ∨ nI v = 1 := by
        rcases (show v = 0 ∨ v = 1 by omega) with rfl | rfl
        · exact Or.inl rfl
        · exact Or.inr rfl
      have g := x5 rfl
      have yt : y_test c2 = 1 := by rcases g with rfl | rfl | rfl <;> rfl
      obtain ⟨s1, s2, s3⟩ := TR_s q5.2.2.1
      refine ⟨Or.inr (Or.inr (Or.inr (Or.inr (Or.inr (Or.inr (Or.inr (Or.inl ⟨rfl, vv, ?_⟩))))))), fun _ => ⟨?_, ?_, fun _ => ⟨y3.symm, ?_⟩⟩, fun y => absurd rfl y, fun y => absurd y (by decide), fun y => absurd y (by decide)⟩
      · exact Or.inr (Or.inr g)
      · rw [y5 _ (by omega), wI_slot (by omega), wI_slot (by omega), t5, yt]
      · rw [y5 _ (by omega), wI_slot (by omega), wI_same]
      · rw [y5 _ (by omega), wI_same]
        rcases g with g | g | g
        · rw [if_pos (s1 g).1, (s1 g).2, g]; rfl
        · rw [if_pos (s2 g).1, (s2 g).2, g]; rfl
        · rw [if_pos (s3 g).1, (s3 g).2, g]; rfl
    · exact Or.inr x4
  · have B := Bd_m q5 (k := W + 1) (v := 0)
    rw [eC _ q3, eM _ q4, if_pos rfl, if_pos (show (0 : Int32) < N2.1 137 12 from Int32.not_le.mp (Bd_n q5).1)]
    exact ⟨false, _, _, rfl, rfl, Ky_t K (Ky_t (Ky_a (by omega)) (Ky_n (by omega))), Or.inr ⟨rfl, Bd_a B⟩⟩
theorem rs_when (hw : 10000 ≤ w) (h : Gd A N t n j e c) (hW : W + 8 < 1875) (hk : N.1 142 W = 5) : ∃ b A' N', F_X10_takeTest w A = some (b, A') ∧ F_X12_readRest w N (nI W) = some ((), N') ∧ Rs A A' N N' W t n j 25 b := by
  have hin : ¬ (nI W < 0 ∨ 1875 ≤ (nI W).toNatClampNeg) := nI_in (by omega) (by omega)
  have hcl : (nI W).toNatClampNeg = W := nI_cl (by omega)
  have eM : ∀ N', F_X12_readTest w N (nI W) = some ((), N') → F_X12_readRest w N (nI W) = some ((), N') := by
    intro N' hN
    unfold F_X12_readRest
    rw [if_neg hin, hcl, hk, if_neg (by decide), if_neg (by decide), if_neg (by decide), if_neg (by decide), if_neg (by decide), if_pos rfl, hN, bindS]
  have fin : (∃ b A' N', F_X10_takeTest w A = some (b, A') ∧ F_X12_readTest w N (nI W) = some ((), N') ∧ Rs A A' N N' W t n j 25 b) → ∃ b A' N', F_X10_takeTest w A = some (b, A') ∧ F_X12_readRest w N (nI W) = some ((), N') ∧ Rs A A' N N' W t n j 25 b := by
    rintro ⟨b, A', N', x1, x2, x3⟩
    exact ⟨b, A', N', x1, eM _ x2, x3⟩
  by_cases g1 : c = 3
  · exact fin (rs_lo hw h hW 0 (Or.inl ⟨g1, rfl⟩))
  by_cases g2 : c = 26
  · exact fin (rs_lo hw h hW 2 (Or.inr ⟨g2, rfl⟩))
  by_cases g3 : c = 4
  · exact fin (rs_ch hw h hW g3)
  refine fin ?_
  have h3 : A.1 5 3 = c := h.2.2.1.2.2.2.1
  obtain ⟨A1, N1, a1, a2, a3, a4⟩ := g_amiss (w := w) h
  have B := Bd_m a3 (k := W + 5) (v := -1)
  refine ⟨false, A1, z_wI (z_wI N1 142 (W + 5) (-1)) 142 (W + 1) 0, ?_, ?_, Ky_t (Kt_y a4) (Ky_t (Ky_n (by omega)) (Ky_n (by omega))), Or.inr ⟨rfl, Bd_m B⟩⟩
  · unfold F_X10_takeTest
    rw [h3, if_neg g1, if_neg g2, if_neg g3, a1, bindS]
  · unfold F_X12_readTest
    rw [m_testWord h.2.2.1, bindS, if_neg g1, if_neg g3, if_neg g2]
    dsimp only
    rw [if_pos (by decide), m_must0 h.2.2.2.2.2.2, a2, bindS]
    dsimp only
    rw [wadd W 5, if_neg (win hW (by omega)), wcl hW (by omega), b_side (Bd_n B), bindS]
    dsimp only
    rw [wadd W 1, if_neg (win hW (by omega)), wcl hW (by omega), if_pos (show (0 : Int32) < (z_wI N1 142 (W + 5) (-1)).1 137 12 from Int32.not_le.mp (Bd_n B).1)]
end
