/-! ===== years: a step ===== -/
section
variable {w : Nat} {A N : z_Mem} {t : Nat → Nat} {n j e d L S : Nat} {c : Int32}
/-- a step's word, its numbers, the semicolon -/
theorem st_pre (hw : 10000 ≤ w) (h : Gd A N t n j e c) (hs : c = 20 ∨ c = 21 ∨ c = 22 ∨ c = 23 ∨ c = 24 ∨ c = 29 ∨ c = 25 ∨ c = 27) (hS : S < 30) : ∃ A1 N1 A3 N3, F_X7_advance w A = some ((), A1) ∧ F_X12_advance w (z_wI N 137 25 (nI (S + 1))) = some ((), N1) ∧ KN (1605 + 9 * S) N N3 ∧ (∀ x, x ≠ 5 → x ≠ 56 → A3.1 x = A.1 x) ∧ (∀ k, k < 3 → A3.1 5 k = A.1 5 k) ∧ (∀ k, k < 4 → A3.1 56 k = A.1 56 k) ∧ A3.2 = A.2 ∧ N3.1 137 25 = nI (S + 1) ∧
    (∀ G a x3, m_tl w G N1 a x3 (y_kind c) (1605 + 9 * S) = L_X12_readStep w G w N3 a x3 (nI (1605 + 9 * S))) ∧
    ((c_fl w c (rst w (z0 A1) c) = ((F_X9_add w A3 30 c (A3.1 56 4) (A3.1 56 5) (A3.1 56 6)).bind fun s => if s.1 = true then some (true, s.2) else some (false, s.2)) ∧ c_op w c (rst w (z0 A1) c) = ((F_X9_add w A3 30 c (A3.1 56 4) (A3.1 56 5) (A3.1 56 6)).bind fun s => if s.1 = true then (if (s.2.1 56 3) < 0 ∨ 3 ≤ (s.2.1 56 3).toNatClampNeg then none else some (true, (z_wI (z_wI s.2 57 ((s.2.1 56 3).toNatClampNeg) ((s.2.1 47 5) - (1 : Int32))) 56 3 ((s.2.1 56 3) + (1 : Int32))))) else some (false, s.2)) ∧ (∃ j3 e3 c3, Gd A3 N3 t n j3 e3 c3 ∧ e ≤ j3) ∧ N3.1 142 (1605 + 9 * S) = y_kind c ∧ sv N3 (1605 + 9 * S) c (A3.1 56 4) (A3.1 56 5) (A3.1 56 6)) ∨
     (c_fl w c (rst w (z0 A1) c) = some (false, A3) ∧ c_op w c (rst w (z0 A1) c) = some (false, A3) ∧ Bd A3 N3)) := by
  have hW : 1605 + 9 * S + 8 < 1875 := by omega
  have G0 : Gd A (z_wI N 137 25 (nI (S + 1))) t n j e c := Gd_k h rfl rfl (wI_row (by omega)) (fun k hk => wI_slot (by omega)) rfl
  obtain ⟨A1, N1, j1, e1, c1, a1, a2, a3, a4, a5⟩ := g_adv hw G0
  obtain ⟨b, A2, N2, b1, b2, b3, b4⟩ := rs_any (w := w) hw a3 hW hs
  have KN2 : KN (1605 + 9 * S) N N2 := KN_t (KN_t KN_5 (Kt_N a5)) (KN_t (KN_w (Nat.le_refl _)) (KN_le (Ky_N b3) (by omega)))
  have z0x : ∀ x, x ≠ 56 → (z0 A1).1 x = A1.1 x := fun x hx => by unfold z0; rw [wI_row hx, wI_row hx, wI_row hx]
  have z0k : ∀ k, k < 4 → (z0 A1).1 56 k = A1.1 56 k := fun k hk => by unfold z0; rw [wI_slot (by omega), wI_slot (by omega), wI_slot (by omega)]
  have e1x : ∀ x, x ≠ 5 → x ≠ 56 → A2.1 x = A.1 x := fun x p q => by rw [b3.1 x p q, z0x x q, a5.1 x p]
  have e2x : ∀ k, k < 3 → A2.1 5 k = A.1 5 k := fun k hk => by rw [b3.2.1 k hk, z0x 5 (by omega), a5.2.1 k hk]
  have e3x : ∀ k, k < 4 → A2.1 56 k = A.1 56 k := fun k hk => by rw [b3.2.2.1 k hk, z0k k hk, a5.1 56 (by omega)]
  have e4x : A2.2 = A.2 := by rw [b3.2.2.2.1]; exact a5.2.2.1
  have n25 : N2.1 137 25 = nI (S + 1) := by rw [b3.2.2.2.2.2.2.1 25 (by omega), wI_row (by omega), a5.2.2.2.2.1 25 (by omega), wI_same]
  have nW : N2.1 142 (1605 + 9 * S) = y_kind c := by rw [b3.2.2.2.2.2.1 _ (Nat.le_refl _), wI_same]
  rcases b4 with ⟨rfl, ⟨j2, e2, c2, b5, b6⟩, b7⟩ | ⟨rfl, b5⟩
  · obtain ⟨A3, N3, r1, r2, r3⟩ := g_take hw b5 33
    have je1 := a3.2.2.1.2.1
    have je2 := b5.2.2.1.2.1
    refine ⟨A1, N1, A3, N3, a1, a2, KN_t KN2 (Kt_N r2), fun x p q => by rw [r2.1 x p, e1x x p q], fun k hk => by rw [r2.2.1 k hk, e2x k hk], fun k hk => by rw [r2.1 56 (by omega), e3x k hk], by rw [r2.2.2.1, e4x], by rw [r2.2.2.2.2.1 25 (by omega), n25], fun G a x3 => ?_, ?_⟩
    · unfold m_tl
      rw [b2, bindS]
      dsimp only
      rw [m_sign b5.2.2.1 59 33 (Or.inl ⟨rfl, rfl⟩), bindS]
      dsimp only
      rw [r1, bindS]
    · rcases r3 with ⟨r4, r5, j3, e3, c3, r6, r7⟩ | ⟨r4, r5, r6⟩
      · have s3 : ∀ k, A3.1 56 k = A2.1 56 k := fun k => by rw [r2.1 56 (by omega)]
        refine Or.inl ⟨?_, ?_, ⟨j3, e3, c3, r6, by omega⟩, by rw [r2.2.2.2.1 142 (by omega)]; exact nW, ?_⟩
        · unfold c_fl
          rw [b1, bindS, if_pos rfl]
          dsimp only
          rw [r5, bindS, if_pos rfl]
        · unfold c_op
          rw [b1, bindS, if_pos rfl]
          dsimp only
          rw [r5, bindS, if_pos rfl]
        · rw [s3, s3, s3]
          unfold sv at b7 ⊢
          rw [r2.2.2.2.1 142 (by omega)]
          exact b7
      · refine Or.inr ⟨?_, ?_, r6⟩
        · unfold c_fl
          rw [b1, bindS, if_pos rfl]
          dsimp only
          rw [r5, bindS, if_neg (by simp)]
        · unfold c_op
          rw [b1, bindS, if_pos rfl]
          dsimp only
          rw [r5, bindS, if_neg (by simp)]
  · refine ⟨A1, N1, A2, N2, a1, a2, KN2, e1x, e2x, e3x, e4x, n25, fun G a x3 => ?_, Or.inr ⟨?_, ?_, b5⟩⟩
    · obtain ⟨b', hb'⟩ := p_sign (w := w) (N := N2) 59
      unfold m_tl
      rw [b2, bindS]
      dsimp only
      rw [hb', bindS]
      dsimp only
      rw [b_must (Bd_n b5), bindS]
    · unfold c_fl
      rw [b1, bindS, if_neg (by simp)]
    · unfold c_op
      rw [b1, bindS, if_neg (by simp)]
theorem lb_0 {G : z_Mem → Int32 → Option (Unit × z_Mem)} {W : Nat} (hW : W + 8 < 1875) (c0 : Nat) (a : Int32) : L_X12_readStep w G (c0 + 1) N a 0 (nI W) = some ((), z_wI N 142 (W + 8) (N.1 137 25)) := by
  rw [L_X12_readStep, if_pos rfl, if_pos rfl, wadd W 8, if_neg (win hW (by omega)), wcl hW (by omega)]
theorem st_step (hw : 10000 ≤ w) {m : Nat} (H : d < 3 → ST w m (d + 1) t n) : ST w (m + 1) d t n := by
  intro A N j e c L S h hY h28 h38
  have h3 : A.1 5 3 = c := h.2.2.1.2.2.2.1
  have h12 := h.2.2.2.2.2.2
  have je := h.2.2.1.2.1
  have en := h.2.2.1.2.2.1
  have n9 := h.1.1
  obtain ⟨y1, y2, y3, y4, y5, y6, y7, y8, y9, y10⟩ := hY
  rw [F_X12_readStep]
  by_cases hs : c = 20 ∨ c = 21 ∨ c = 22 ∨ c = 23 ∨ c = 24 ∨ c = 29 ∨ c = 25 ∨ c = 27
  · have nn : ¬ c = 37 ∧ ¬ c = 38 ∧ ¬ c = 28 := by
      rcases hs with x | x | x | x | x | x | x | x <;> rw [x] <;> decide
    obtain ⟨n37, n38, n28⟩ := nn
    have jl : j < e := by
      rcases h.2.2.2.1 with x | x
      · exact absurd x n38
      · exact x
    have sw : F_X12_stepWord w N = some (y_kind c, N) := by
      rw [m_stepWord h.2.2.1]
      rcases hs with x | x | x | x | x | x | x | x <;> rw [x] <;> rfl
    by_cases g30 : S = 30
    · obtain ⟨A1, N1, a1, a2, a3, a4⟩ := g_fail (w := w) h 6 (by omega) n37
      have hk : y_kind c = 0 ∨ y_kind c = 1 ∨ y_kind c = 2 ∨ y_kind c = 3 ∨ y_kind c = 4 ∨ y_kind c = 7 ∨ y_kind c = 5 ∨ y_kind c = 6 := by
        rcases hs with x | x | x | x | x | x | x | x <;> rw [x] <;> decide
      refine ⟨N1, ms_6 sw hk h12 (by rw [y3, g30]; rfl) a2 (Bd_n a3), Kt_N a4, Or.inr (ob_st h a3 (Kt_A a4) n38 n28 ?_)⟩
      rw [cs_6 h3 hs (by rw [y2, g30]; decide), show F_X7_fail w A 6 = some (false, A1) from a1, bindS]
    have hS : S < 30 := by omega
    have hW : 1605 + 9 * S + 8 < 1875 := by omega
    have lt30 : A.1 47 6 < 30 := by rw [y2]; exact nI_lt (b := 30) hS (by omega)
    by_cases hb : c = 25 ∨ c = 27
    · have hk : y_kind c = 5 ∨ y_kind c = 6 := by rcases hb with x | x <;> rw [x] <;> decide
      by_cases hd : d = 3
      · obtain ⟨A1, N1, a1, a2, a3, a4⟩ := g_fail (w := w) h 7 (by omega) n37
        refine ⟨N1, ?_, Kt_N a4, Or.inr (ob_st h a3 (Kt_A a4) n38 n28 ?_)⟩
        · rw [hd]
          exact ms_7 sw hk h12 y3 hS a2 (Bd_n a3)
        · rw [cs_7 h3 hb lt30 (by rw [y4, hd]; decide), show F_X7_fail w A 7 = some (false, A1) from a1, bindS]
      have d3 : d < 3 := by omega
      have lt3 : A.1 56 3 < 3 := by rw [y4]; exact nI_lt (b := 3) d3 (by omega)
      obtain ⟨A1, N1, A3, N3, a1, a2, p1, p2, p3, p4, p5, p6, p7, p8⟩ := st_pre hw h hs hS
      rw [ms_op sw hk h12 y3 hS d3, a2, bindS]
      dsimp only
      rw [p7]
      have ka : KA A A3 := ⟨fun x p _ q _ => p2 x p q, p3, p5⟩
      rcases p8 with ⟨_, q1, ⟨j3, e3, c3, q2, q3⟩, q4, q5⟩ | ⟨_, q1, q2⟩
      · obtain ⟨A4, s1, s2, s3, s4, s5, s6, s7, s8, s9⟩ := c_add (w := w) (A := A3) (L := L) (by rw [p2 47 (by omega) (by omega)]; exact y1) (by omega) c (A3.1 56 4) (A3.1 56 5) (A3.1 56 6)
        have dd : A4.1 56 3 = nI d := by rw [s6 56 (by omega), p4 3 (by omega), y4]
        have lm : nI (L + 1) - 1 = nI L := pk_sub (b := 1) (by omega)
        have es : F_X10_readStep w A = some (true, z_wI (z_wI A4 57 d (nI L)) 56 3 (nI (d + 1))) := by
          rw [cs_op h3 hb lt30 lt3 a1, q1, s1, bindS, if_pos rfl]
          dsimp only
          rw [dd, if_neg (nI_in (by omega) (by omega)), nI_cl (by omega), s4, lm, nI_1]
        have RA : Rw A3 = Rw A := Rw_of (fun x p q => p2 x (by omega) (by omega))
        have R5 : Rw (z_wI (z_wI A4 57 d (nI L)) 56 3 (nI (d + 1))) = Rw A4 := Rw_of (fun x p q => by rw [wI_row (by omega), wI_row (by omega)])
        have x5 : ∀ x, x ≠ 56 → x ≠ 57 → (z_wI (z_wI A4 57 d (nI L)) 56 3 (nI (d + 1))).1 x = A4.1 x := fun x p q => by rw [wI_row p, wI_row q]
        have RO : ∀ i, i < L → Rw A4 i = Rw A i := fun i hi => by rw [s2 i (by omega), RA]
        have KK : ∀ i, i < L → (Rw A4 i).1 = (Rw A i).1 := fun i hi => by rw [RO i hi]
        have nL : nf (Rw A4) L = S := by rw [nf_of KK L (Nat.le_refl _), y5]
        have dL : df (Rw A4) L = d := by rw [df_of KK L (Nat.le_refl _), y6]
        have nL1 : nf (Rw A4) (L + 1) = S + 1 := by rw [nf_s, s3, if_neg n28, nL]
        have dL1 : df (Rw A4) (L + 1) = d + 1 := by rw [df_s, s3, if_pos hb, dL]
        have Y5 : YR (z_wI (z_wI A4 57 d (nI L)) 56 3 (nI (d + 1))) N3 (d + 1) (L + 1) (S + 1) := by
          refine ⟨?_, ?_, p6, wI_same, by rw [R5, nL1], by rw [R5, dL1], by omega, by omega, by omega, fun i hi => ?_⟩
          · rw [x5 47 (by omega) (by omega), s4]
          · rw [x5 47 (by omega) (by omega), s5, if_neg n28, p2 47 (by omega) (by omega), y2, nI_1]
          · rw [x5 52 (by omega) (by omega)]
            by_cases x : i = L
            · rw [x]; exact ⟨L, by omega, s9⟩
            · obtain ⟨p, pp, pq⟩ := y10 i (by omega)
              exact ⟨p, pp, by rw [s8 i x, p2 52 (by omega) (by omega), pq]⟩
        have B5 : BK (z_wI (z_wI A4 57 d (nI L)) 56 3 (nI (d + 1))) N3 d L S (L + 1) := by
          refine ⟨by rw [wI_row (by omega), wI_same], Nat.le_refl _, by rw [R5, nL], by rw [R5, dL], by rw [R5, s3]; exact hb, ?_, Sg_0 (by rw [R5, dL1]; omega)⟩
          rw [R5, s3]
          exact ⟨q4, q5⟩
        obtain ⟨N', r1, r2, r3⟩ := lw_blk hw d3 (H d3) (n + 1 - j3) w (z_wI (z_wI A4 57 d (nI L)) 56 3 (nI (d + 1))) N3 j3 e3 c3 (L + 1) (S + 1) (Nat.le_refl _) (by omega) (Gd_k q2 (by rw [x5 5 (by omega) (by omega), s6 5 (by omega)]) (by rw [x5 6 (by omega) (by omega), s6 6 (by omega)]) rfl (fun _ _ => rfl) rfl) Y5 B5
        have ka5 : KA A (z_wI (z_wI A4 57 d (nI L)) 56 3 (nI (d + 1))) := KA_t ka ⟨fun x p q r s => by rw [x5 x r s, s6 x q], fun k hk => by rw [x5 5 (by omega) (by omega), s6 5 (by omega)], s7⟩
        have one : ∀ c0 x, x ≤ j → L_X10_readText w (c0 + 1) A (nI n) (nI x) = L_X10_readText w c0 (z_wI (z_wI A4 57 d (nI L)) 56 3 (nI (d + 1))) (nI n) (nI (x + 1)) := fun c0 x hx => by
          rw [lp_step h3 n38 n28 n9 c0 x (by omega), es, bindS]
          exact if_pos rfl
        refine ⟨N', r1, KN_t p1 r2, ?_⟩
        rcases r3 with r3 | r3
        · refine Or.inl (Og_pre r3 one (by omega) ka5 (fun i hi => by rw [R5, RO i hi]) (fun i hi => ?_))
          rw [wI_row (by omega), wI_slot (by omega), s6 57 (by omega), p2 57 (by omega) (by omega)]
        · exact Or.inr (Ob_pre r3 one (by omega) ka5)
      · obtain ⟨c1, hc1⟩ : ∃ c1, w = c1 + 1 := ⟨w - 1, by omega⟩
        have lb := lb_bad (w := w) (Bd_n q2) (G := F_X12_readStep w m) hW c1 (nI d) 1
        rw [← hc1] at lb
        rw [lb]
        refine ⟨_, rfl, KN_t p1 (KN_w (by omega)), Or.inr (Ob_m (ob_st h q2 ka n38 n28 ?_))⟩
        rw [cs_op h3 hb lt30 lt3 a1, q1]
    · have hf : c = 20 ∨ c = 21 ∨ c = 22 ∨ c = 23 ∨ c = 24 ∨ c = 29 := by
        rcases hs with x | x | x | x | x | x | x | x
        · exact Or.inl x
        · exact Or.inr (Or.inl x)
        · exact Or.inr (Or.inr (Or.inl x))
        · exact Or.inr (Or.inr (Or.inr (Or.inl x)))
        · exact Or.inr (Or.inr (Or.inr (Or.inr (Or.inl x))))
        · exact Or.inr (Or.inr (Or.inr (Or.inr (Or.inr x))))
        · exact absurd (Or.inl x) hb
        · exact absurd (Or.inr x) hb
      have hk : y_kind c = 0 ∨ y_kind c = 1 ∨ y_kind c = 2 ∨ y_kind c = 3 ∨ y_kind c = 4 ∨ y_kind c = 7 := by
        rcases hf with x | x | x | x | x | x <;> rw [x] <;> decide
      obtain ⟨A1, N1, A3, N3, a1, a2, p1, p2, p3, p4, p5, p6, p7, p8⟩ := st_pre hw h hs hS
      obtain ⟨c1, hc1⟩ : ∃ c1, w = c1 + 1 := ⟨w - 1, by omega⟩
      have lb := lb_0 (w := w) (N := N3) (G := F_X12_readStep w m) hW c1 (nI d)
      rw [← hc1] at lb
      rw [ms_fl sw hk h12 y3 hS, a2, bindS]
      dsimp only
      rw [p7, lb]
      have ka : KA A A3 := ⟨fun x p _ q _ => p2 x p q, p3, p5⟩
      refine ⟨_, rfl, KN_t p1 (KN_w (by omega)), ?_⟩
      rcases p8 with ⟨q1, _, ⟨j3, e3, c3, q2, q3⟩, q4, q5⟩ | ⟨q1, _, q2⟩
      · left
        obtain ⟨A4, s1, s2, s3, s4, s5, s6, s7, s8, s9⟩ := c_add (w := w) (A := A3) (L := L) (by rw [p2 47 (by omega) (by omega)]; exact y1) (by omega) c (A3.1 56 4) (A3.1 56 5) (A3.1 56 6)
        have es : F_X10_readStep w A = some (true, A4) := by
          rw [cs_fl h3 hf lt30 a1, q1, s1, bindS, if_pos rfl]
        have RA : Rw A3 = Rw A := Rw_of (fun x p q => p2 x (by omega) (by omega))
        have RO : ∀ i, i < L → Rw A4 i = Rw A i := fun i hi => by rw [s2 i (by omega), RA]
        have KK : ∀ i, i < L → (Rw A4 i).1 = (Rw A i).1 := fun i hi => by rw [RO i hi]
        have nL : nf (Rw A4) L = S := by rw [nf_of KK L (Nat.le_refl _), y5]
        have dL : df (Rw A4) L = d := by rw [df_of KK L (Nat.le_refl _), y6]
        have nL1 : nf (Rw A4) (L + 1) = S + 1 := by rw [nf_s, s3, if_neg n28, nL]
        have dL1 : df (Rw A4) (L + 1) = d := by rw [df_s, s3, if_neg hb, if_neg n28, dL]
        refine ⟨A4, j3, e3, c3, L + 1, S + 1, 1, Gd_n (Gd_k q2 (by rw [s6 5 (by omega)]) (by rw [s6 6 (by omega)]) rfl (fun _ _ => rfl) rfl), by omega, by omega, ⟨s4, ?_, ?_, ?_, nL1, dL1, by omega, by omega, y9, fun i hi => ?_⟩, Sg_1 ?_ ?_ ?_ (BF_mk (q := S + 1) nL ?_ ?_ ?_) (by omega), KA_t ka ⟨fun x p q r s => s6 x q, fun k hk => by rw [s6 5 (by omega)], s7⟩, RO, fun i hi => ?_, fun c0 x hx => ?_⟩
        · rw [s5, if_neg n28, p2 47 (by omega) (by omega), y2, nI_1]
        · rw [wI_row (by omega), p6]
        · rw [s6 56 (by omega), p4 3 (by omega), y4]
        · by_cases x : i = L
          · rw [x]; exact ⟨L, by omega, s9⟩
          · obtain ⟨p, pp, pq⟩ := y10 i (by omega)
            exact ⟨p, pp, by rw [s8 i x, p2 52 (by omega) (by omega), pq]⟩
        · rw [s3]; exact q5.1
        · rw [s3]; exact n28
        · rw [s3]; exact hb
        · rw [s3]
          exact PB_of (N := N3) ⟨q4, q5⟩ (fun i hi => by rw [wI_slot (by omega)])
        · rw [wI_same, p6]
        · unfold y_next
          rw [s3, if_neg hb, nL1]
        · rw [s6 57 (by omega), p2 57 (by omega) (by omega)]
        · rw [lp_step h3 n38 n28 n9 c0 x (by omega), es, bindS]
          exact if_pos rfl
      · right
        refine Ob_m (ob_st h q2 ka n38 n28 ?_)
        rw [cs_fl h3 hf lt30 a1, q1]
  · -- no step's word
    have sw : F_X12_stepWord w N = some (-1, N) := by
      rw [m_stepWord h.2.2.1, if_neg (fun x => hs (Or.inl x)), if_neg (fun x => hs (Or.inr (Or.inl x))), if_neg (fun x => hs (Or.inr (Or.inr (Or.inl x)))), if_neg (fun x => hs (Or.inr (Or.inr (Or.inr (Or.inl x))))), if_neg (fun x => hs (Or.inr (Or.inr (Or.inr (Or.inr (Or.inl x)))))), if_neg (fun x => hs (Or.inr (Or.inr (Or.inr (Or.inr (Or.inr (Or.inr (Or.inl x)))))))), if_neg (fun x => hs (Or.inr (Or.inr (Or.inr (Or.inr (Or.inr (Or.inr (Or.inr x)))))))), if_neg (fun x => hs (Or.inr (Or.inr (Or.inr (Or.inr (Or.inr (Or.inl x)))))))]
    obtain ⟨A1, N1, a1, a2, a3, a4⟩ := g_amiss (w := w) h
    refine ⟨N1, ms_bad sw a2 (Bd_n a3), Kt_N a4, Or.inr ?_⟩
    by_cases n38 : c = 38
    · have d0 : 0 < d := by
        rcases h38 with x | x
        · exact absurd n38 x
        · exact x
      refine ob_1 h a3 (Kt_A a4) (fun c0 x hx => ?_)
      rw [L_X10_readText, if_neg (Int32.not_lt.mpr (nI_le hx (by omega))), h3, if_pos n38, y4, if_neg (nle0 (by omega) (by omega)), a1, bindS]
    by_cases n28 : c = 28
    · have d0 : d = 0 := by
        rcases h28 with x | x
        · exact x
        · exact absurd n28 x
      refine ob_1 h a3 (Kt_A a4) (fun c0 x hx => ?_)
      rw [lp_end h3 n28 n9 c0 x hx]
      unfold F_X10_readEnd
      rw [y4, d0, if_neg (show ¬ (0 : Int32) < nI 0 by decide), a1, bindS, bindS]
      exact if_neg (by simp)
    refine ob_st h a3 (Kt_A a4) n38 n28 ?_
    rw [cs_bad h3 ?_, a1, bindS]
    obtain ⟨k, k1, k2⟩ := TR_k h.2.2.1
    have ne : ∀ q : Nat, q < 100 → ¬ c = nI q → ¬ k = q := fun q hq hc x => hc (by rw [k2, x])
    have m20 := ne 20 (by omega) (fun x => hs (Or.inl x))
    have m21 := ne 21 (by omega) (fun x => hs (Or.inr (Or.inl x)))
    have m22 := ne 22 (by omega) (fun x => hs (Or.inr (Or.inr (Or.inl x))))
    have m23 := ne 23 (by omega) (fun x => hs (Or.inr (Or.inr (Or.inr (Or.inl x)))))
    have m24 := ne 24 (by omega) (fun x => hs (Or.inr (Or.inr (Or.inr (Or.inr (Or.inl x))))))
    have m29 := ne 29 (by omega) (fun x => hs (Or.inr (Or.inr (Or.inr (Or.inr (Or.inr (Or.inl x)))))))
    have m25 := ne 25 (by omega) (fun x => hs (Or.inr (Or.inr (Or.inr (Or.inr (Or.inr (Or.inr (Or.inl x))))))))
    have m27 := ne 27 (by omega) (fun x => hs (Or.inr (Or.inr (Or.inr (Or.inr (Or.inr (Or.inr (Or.inr x))))))))
    have m28 := ne 28 (by omega) n28
    rcases (show k < 20 ∨ 29 < k ∨ k = 26 by omega) with x | x | x
    · left; rw [k2]; exact nI_lt (b := 20) x (by omega)
    · right; left; rw [k2]; exact nI_lt (a := 29) x (by omega)
    · right; right; rw [k2, x]; rfl
/-- at any depth -/
theorem st_all (hw : 10000 ≤ w) : ST w 10 0 t n := by
  have s3 : ST w 7 3 t n := st_step hw (fun x => by omega)
  have s2 : ST w 8 2 t n := st_step hw (fun _ => s3)
  have s1 : ST w 9 1 t n := st_step hw (fun _ => s2)
  exact st_step hw (fun _ => s1)
end
