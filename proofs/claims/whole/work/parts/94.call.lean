/-! ===== years ===== -/
section
variable {w : Nat} {A N M : z_Mem} {t : Nat → Nat} {n j e d L S : Nat} {c : Int32}
theorem ye_no (h : r_Rel M) (a : Int32) (h1 : F_X11_years w M a = some (-1, z_wI M 0 11 5)) (h2 : ∀ N : z_Mem, N.1 137 8 = M.1 137 8 → F_X12_starts w N a 300 = some (false, z_wI N 137 0 5)) : r_ok (F_X11_years w M a) (fun M => F_X12_years w M a) := by
  refine ⟨-1, z_wI M 0 11 5, z_st M 5, h1, ?_, r_stv 5 h⟩
  show F_X12_years w (z_wI M 0 11 5) a = _
  unfold F_X12_years
  rw [h2 _ (by rw [wI_slot (by omega), wI_slot (by omega), wI_row (by omega)]), bindS, if_neg (by simp)]
  dsimp only
  rw [st_v]
/-- the rows that were read, as the years of a parish -/
theorem y_cy (hY : YR A N 0 L S) : Y_c (kf (z_wI A 47 7 1)) 30 (true, yl (Rw A) L) := by
  obtain ⟨y1, y2, y3, y4, y5, y6, y7, y8, y9, y10⟩ := hY
  have kx : ∀ x, x ≠ 0 → x ≠ 5 → x ≠ 47 → (kf (z_wI A 47 7 1)).1 x = A.1 x := fun x p q r => by rw [kf_row p q, wI_row r]
  refine ⟨?_, ?_, ?_, fun i r hr => ?_⟩
  · show (kf (z_wI A 47 7 1)).1 47 5 = nI (yl (Rw A) L).length
    rw [kf_row (by omega) (by omega), wI_slot (by omega), yl_len]; exact y1
  · show (kf (z_wI A 47 7 1)).1 47 6 = nI (y_steps (yl (Rw A) L))
    rw [kf_row (by omega) (by omega), wI_slot (by omega), yl_steps, y5]; exact y2
  · show (kf (z_wI A 47 7 1)).1 47 7 = z_tb true
    rw [kf_row (by omega) (by omega), wI_same]; rfl
  · obtain ⟨hi, rfl⟩ := yl_some hr
    obtain ⟨p, p1, p2⟩ := y10 i hi
    show (kf (z_wI A 47 7 1)).1 48 i = A.1 48 i ∧ (kf (z_wI A 47 7 1)).1 49 i = A.1 49 i ∧ (kf (z_wI A 47 7 1)).1 50 i = A.1 50 i ∧ (kf (z_wI A 47 7 1)).1 51 i = A.1 51 i ∧ (kf (z_wI A 47 7 1)).1 52 i = nI (A.1 52 i).toNatClampNeg
    rw [kx 48 (by omega) (by omega) (by omega), kx 49 (by omega) (by omega) (by omega), kx 50 (by omega) (by omega) (by omega), kx 51 (by omega) (by omega) (by omega), kx 52 (by omega) (by omega) (by omega), p2, nI_cl (by omega)]
    exact ⟨rfl, rfl, rfl, rfl, rfl⟩
theorem y_vy (hY : YR A N 0 L S) (hG : Sg A N 0 L) : VY (true, yl (Rw A) L) := by
  obtain ⟨y1, y2, y3, y4, y5, y6, y7, y8, y9, y10⟩ := hY
  refine ⟨?_, ?_, fun _ => ⟨?_, yl_dep (fun i hi => hG.2.2 i (Nat.zero_le i) hi)⟩⟩
  · show (yl (Rw A) L).length ≤ 60
    rw [yl_len]; omega
  · show y_steps (yl (Rw A) L) ≤ 30
    rw [yl_steps, y5]; exact y8
  · show y_wf (yl (Rw A) L) 60 0 (yl (Rw A) L).length
    rw [yl_len]
    have := wfr_le hG.1 (60 - L)
    rw [show L - 0 + (60 - L) = 60 by omega] at this
    exact yl_wf 60 0 L (Nat.le_refl L) this
theorem y_by {f : Nat → Int32} (hY : YR A N 0 L S) (hG : Sg A N 0 L) (f1 : f 103 = 1) (f2 : f 104 = nI S) (f3 : ∀ k, 105 ≤ k → k < 105 + 9 * S → f k = N.1 142 (1500 + k)) : BY f (true, yl (Rw A) L) := by
  obtain ⟨y1, y2, y3, y4, y5, y6, y7, y8, y9, y10⟩ := hY
  refine ⟨f1, fun _ => ⟨?_, fun i r hr h28 => ?_⟩⟩
  · show f 104 = nI (y_steps (yl (Rw A) L))
    rw [yl_steps, y5]; exact f2
  · obtain ⟨hi, rfl⟩ := yl_some hr
    obtain ⟨g1, g2⟩ := hG.2.1 i (Nat.zero_le i) hi h28
    have m := nf_mo (Rw A) (show i + 1 ≤ L by omega)
    rw [nf_s, if_neg h28, y5] at m
    exact BF_y hi (BF_of g1 rfl rfl rfl (fun k hk => f3 _ (by omega) (by omega))) g2
theorem call_years (hw : 10000 ≤ w) (h : r_Rel M) (a : Int32) : r_ok (F_X11_years w M a) (fun M => F_X12_years w M a) := by
  obtain ⟨f, hf, f1, f2, _⟩ := h.2.2.2.1
  obtain ⟨t, ht, t1⟩ := tx_of h.2.2.2.1
  obtain ⟨P, p1, p2, p3⟩ := h.2.2.2.2.2.2.1
  by_cases g0 : a < 0
  · refine ye_no h a ?_ (fun N _ => ?_)
    · unfold F_X11_years F_X11_refuse
      rw [if_pos g0, bindS]
    · unfold F_X12_starts F_X12_no
      rw [if_pos g0, bindS]
  obtain ⟨n, hn, rfl⟩ := nI_of g0
  by_cases g1 : n ≤ f
  · have nlt : ¬ nI f < nI n := Int32.not_lt.mpr (nI_le g1 (by omega))
    by_cases g3 : n ≤ 300
    · have le3 : nI n ≤ 300 := nI_le (b := 300) g3 (by omega)
      have key := fun (N : z_Mem) (e1 : N.1 141 = M.1 141) (e2 : N.1 137 8 = M.1 137 8) => rd_yrs (w := w) (M := M) (N := N) (n := n) (t := t) (f := f) hw (e2.trans f2) hf g1 g3 ht (fun k hk => (t1 k hk).1) (fun k hk => by rw [e1]; exact (t1 k hk).2)
      obtain ⟨b, A, N0, _, x1, _, _, x3, x4, _, _, _, _, _, x10⟩ := key M rfl rfl
      rcases x10 with ⟨rfl, A0, L0, S0, xa, x5, x6, _⟩ | ⟨rfl, _⟩
      · have c0 : Y_c (kf A) 30 (true, yl (Rw A0) L0) := by rw [xa]; exact y_cy x5
        obtain ⟨A2, d1, _, d3, d4⟩ := f_copyY (w := w) (p := 7) (q := 30) (by omega) (y_vy x5 x6).1 c0 (by omega)
        have kA : ∀ x, x ≠ 0 → x ≠ 5 → (x < 24 ∨ 58 ≤ x) → (z_wI A2 0 11 0).1 x = M.1 x := fun x h1 h2 h3 => by
          rw [wI_row h1, d3 x (by omega), kf_row h1 h2, x3 x h2 (by omega)]
        obtain ⟨b', A', N, c1, y1, y2, yc, _, _, y5, y6, ⟨y7, y8, y9⟩, y10, y11, y12⟩ := key (z_wI A2 0 11 0) (kA 141 (by omega) (by omega) (by omega)) (by rw [kA 137 (by omega) (by omega) (by omega)])
        rw [x1] at y1
        simp only [Option.some.injEq, Prod.mk.injEq] at y1
        obtain ⟨rfl, rfl⟩ := y1
        rcases y12 with ⟨_, A1, L, S, ya, hY, hG, z1, z2, z3⟩ | ⟨z, _⟩
        · have e57 : A.1 5 7 = 0 := by rw [ya, wI_row (by omega)]; exact z1
          have e58 : A.1 5 8 = -1 := by rw [ya, wI_row (by omega)]; exact z2
          have cy : Y_c (kf A) 30 (true, yl (Rw A1) L) := by rw [ya]; exact y_cy hY
          have vy := y_vy hY hG
          obtain ⟨A3, e1, e2, _⟩ := f_copyY (w := w) (p := 7) (q := 30) (by omega) vy.1 cy (by omega)
          rw [d1] at e1
          simp only [Option.some.injEq, Prod.mk.injEq, true_and] at e1
          subst e1
          have s25 : N.1 137 25 = nI S := hY.2.2.1
          have S30 : S ≤ 30 := hY.2.2.2.2.2.2.2.1
          obtain ⟨K, k1, k2, k3, k4⟩ := ml_yc (w := w) S30 (9 * S) 0 c1 (z_wI (z_wI (z_wI (z_wI N 137 10 0) 137 11 (-1)) 142 103 1) 142 104 (nI S)) (by omega) (by omega) (by rw [wI_row (by omega), wI_row (by omega), wI_slot (by omega), wI_slot (by omega)]; exact s25)
          have kK : ∀ x, x ≠ 0 → x ≠ 5 → x ≠ 137 → x ≠ 142 → (x < 24 ∨ 58 ≤ x) → K.1 x = M.1 x := fun x h0 h1 h2 h3 h4 => by
            rw [k2 x h3, wI_row h3, wI_row h3, wI_row h2, wI_row h2, y5 x h2 h3, kA x h0 h1 h4]
          have K0 : ∀ k, K.1 0 k = (z_wI A2 0 11 0).1 0 k := fun k => by
            rw [k2 0 (by omega), wI_row (by omega), wI_row (by omega), wI_row (by omega), wI_row (by omega), y5 0 (by omega) (by omega)]
          have K5 : ∀ k, K.1 5 k = (kf A).1 5 k := fun k => by
            rw [k2 5 (by omega), wI_row (by omega), wI_row (by omega), wI_row (by omega), wI_row (by omega), y5 5 (by omega) (by omega), wI_row (by omega), d3 5 (by omega)]
          have K137 : ∀ k, k ≠ 10 → k ≠ 11 → K.1 137 k = N.1 137 k := fun k h1 h2 => by
            rw [k2 137 (by omega), wI_row (by omega), wI_row (by omega), wI_slot h2, wI_slot h1]
          have kc : ∀ k, (k < 103 ∨ 375 ≤ k) → k < 1605 → K.1 142 k = M.1 142 k := fun k h1 h2 => by
            rw [k4, if_neg (by omega), wI_slot (by omega), wI_slot (by omega), wI_row (by omega), wI_row (by omega), y6 k h2, kA 142 (by omega) (by omega) (by omega)]
          have K2 : K.2 = N.2 := by rw [k3, wI_2, wI_2, wI_2, wI_2]
          have AL : (z_wI A2 0 11 0).2 = M.2 := by rw [wI_2, d4, kf_2, x4]
          have ans : A2.1 24 6 = nI S := by
            have := e2.2.1
            rw [show y_steps (true, yl (Rw A1) L).2 = S from yl_steps.trans hY.2.2.2.2.1] at this
            exact this
          refine ⟨nI S, z_wI A2 0 11 0, K, ?_, ?_, r_rd h ?_ ?_ ?_ (Or.inr ⟨?_, ?_, ?_⟩) ?_ (fun k hk => ?_) (fun x hx => kK x (by omega) (by omega) (by omega) (by omega) (by omega)) (fun k h1 h2 => kc k (by omega) (by omega)) (fun x k hx => ?_) ⟨(P.1, P.2.1, P.2.2.1, P.2.2.2.1, (true, yl (Rw A1) L)), ?_, ?_, ⟨p3.1, p3.2.1, p3.2.2.1, p3.2.2.2.1, vy⟩⟩⟩
          · unfold F_X11_years F_X11_answer F_X11_keepFault
            rw [if_neg g0, f1, if_neg nlt, if_pos le3, x1, bindS, bindS, if_pos rfl]
            dsimp only
            rw [show F_X9_copyFrom w (z_wI (z_wI (z_wI (z_wI A 0 16 1) 0 14 (A.1 5 7)) 0 15 (A.1 5 8)) 5 1 0) 7 30 = some ((), A2) from d1, bindS]
            dsimp only
            rw [bindS, ans]
          · show F_X12_years w (z_wI A2 0 11 0) (nI n) = _
            rw [y2]
            unfold fiY F_X12_isWell
            rw [z3, if_pos rfl, if_pos rfl, bindS, if_pos rfl]
            dsimp only
            rw [wI_slot (by omega), wI_slot (by omega), s25]
            exact k1
          · rw [K0, wI_same, K137 0 (by omega) (by omega), y7]
          · rw [K5, kf_v.2.2.2]
          · rw [K137 8 (by omega) (by omega), y8]
          · rw [K0, wI_slot (by omega), d3 0 (by omega), kf_v.2.2.1]
          · rw [K0, wI_slot (by omega), d3 0 (by omega), kf_v.1, k2 137 (by omega), wI_row (by omega), wI_row (by omega), wI_slot (by omega), wI_same, e57]
          · rw [K0, wI_slot (by omega), d3 0 (by omega), kf_v.2.1, k2 137 (by omega), wI_row (by omega), wI_row (by omega), wI_same, e58]
          · rw [K0, wI_slot (by omega), d3 0 (by omega), kf_0 (by omega), x3 0 (by omega) (by omega)]
          · rw [K137 k (by omega) (by omega), y9 k hk, kA 137 (by omega) (by omega) (by omega)]
          · rw [K2]
            by_cases g : x = 137
            · subst g
              rw [y11 k (by omega), AL]
            · rw [y10 x g, AL]
          · have kx : ∀ x, 7 ≤ x → x < 24 → K.1 x = M.1 x := fun x h1 h2 => kK x (by omega) (by omega) (by omega) (by omega) (by omega)
            have ky : ∀ x, 24 ≤ x → x < 30 → K.1 x = A2.1 x := fun x h1 h2 => by
              rw [k2 x (by omega), wI_row (by omega), wI_row (by omega), wI_row (by omega), wI_row (by omega), y5 x (by omega) (by omega), wI_row (by omega)]
            obtain ⟨c1, c2, c3, c4, _⟩ := p1
            unfold CP
            refine ⟨?_, ?_, ?_, ?_, ?_⟩
            · rw [kx 7 (by omega) (by omega), kx (7 + 1) (by omega) (by omega)]; exact c1
            · rw [kx (7 + 2) (by omega) (by omega), kx (7 + 3) (by omega) (by omega), kx (7 + 4) (by omega) (by omega), kx (7 + 5) (by omega) (by omega), kx (7 + 6) (by omega) (by omega), kx (7 + 7) (by omega) (by omega)]; exact c2
            · rw [kx (7 + 8) (by omega) (by omega), kx (7 + 9) (by omega) (by omega), kx (7 + 10) (by omega) (by omega), kx (7 + 11) (by omega) (by omega)]; exact c3
            · rw [kx (7 + 12) (by omega) (by omega), kx (7 + 13) (by omega) (by omega), kx (7 + 14) (by omega) (by omega), kx (7 + 15) (by omega) (by omega), kx (7 + 16) (by omega) (by omega)]; exact c4
            · rw [ky (7 + 17) (by omega) (by omega), ky (7 + 18) (by omega) (by omega), ky (7 + 19) (by omega) (by omega), ky (7 + 20) (by omega) (by omega), ky (7 + 21) (by omega) (by omega), ky (7 + 22) (by omega) (by omega)]; exact e2
          · obtain ⟨c1, c2, c3, c4, _⟩ := p2
            obtain ⟨v1, v2, v3, v4, _⟩ := p3
            refine ⟨BS_of c1 (fun k _ _ _ => kc k (by omega) (by omega)), BR_of c2 v2 (kc 0 (by omega) (by omega)) (fun k _ _ => kc k (by omega) (by omega)), BD_of c3 v3 (kc 1 (by omega) (by omega)) (kc 10 (by omega) (by omega)) (fun k _ _ => kc k (by omega) (by omega)), BC_of c4 v4 (fun k _ _ => kc k (by omega) (by omega)) (fun k _ _ => kc k (by omega) (by omega)), y_by hY hG ?_ ?_ (fun k h1 h2 => ?_)⟩
            · rw [k4, if_neg (by omega), wI_slot (by omega), wI_same]
            · rw [k4, if_neg (by omega), wI_same]
            · rw [k4, if_pos (by omega), wI_slot (by omega), wI_slot (by omega), wI_row (by omega), wI_row (by omega), Nat.add_comm k 1500]
        · cases z
      · have kA : ∀ x, x ≠ 0 → x ≠ 5 → (x < 30 ∨ 58 ≤ x) → (z_wI (kf A) 0 11 10).1 x = M.1 x := fun x h1 h2 h3 => by
          rw [wI_row h1, kf_row h1 h2, x3 x h2 h3]
        obtain ⟨b', A', N, c1, y1, y2, yc, _, _, y5, y6, ⟨y7, y8, y9⟩, y10, y11, y12⟩ := key (z_wI (kf A) 0 11 10) (kA 141 (by omega) (by omega) (by omega)) (by rw [kA 137 (by omega) (by omega) (by omega)])
        rw [x1] at y1
        simp only [Option.some.injEq, Prod.mk.injEq] at y1
        obtain ⟨rfl, rfl⟩ := y1
        rcases y12 with ⟨z, _⟩ | ⟨_, z⟩
        · cases z
        · have zn := (Bd_n z).2
          obtain ⟨v, p, _, _, z1, z2, z3, z4⟩ := z
          have kK : ∀ x, x ≠ 0 → x ≠ 5 → x ≠ 137 → x ≠ 142 → (x < 30 ∨ 58 ≤ x) → (z_wI (z_wI (z_wI N 137 10 (nI v)) 137 11 (nI p)) 137 0 10).1 x = M.1 x := fun x h0 h1 h2 h3 h4 => by
            rw [wI_row h2, wI_row h2, wI_row h2, y5 x h2 h3, kA x h0 h1 h4]
          have K0 : ∀ k, (z_wI (z_wI (z_wI N 137 10 (nI v)) 137 11 (nI p)) 137 0 10).1 0 k = (z_wI (kf A) 0 11 10).1 0 k := fun k => by
            rw [wI_row (by omega), wI_row (by omega), wI_row (by omega), y5 0 (by omega) (by omega)]
          have kc : ∀ k, k < 1605 → (z_wI (z_wI (z_wI N 137 10 (nI v)) 137 11 (nI p)) 137 0 10).1 142 k = M.1 142 k := fun k h2 => by
            rw [wI_row (by omega), wI_row (by omega), wI_row (by omega), y6 k h2, kA 142 (by omega) (by omega) (by omega)]
          have AL : (z_wI (kf A) 0 11 10).2 = M.2 := by rw [wI_2, kf_2, x4]
          refine ⟨-1, z_wI (kf A) 0 11 10, z_wI (z_wI (z_wI N 137 10 (nI v)) 137 11 (nI p)) 137 0 10, ?_, ?_, r_rd h ?_ ?_ ?_ (Or.inr ⟨?_, ?_, ?_⟩) ?_ (fun k hk => ?_) (fun x hx => kK x (by omega) (by omega) (by omega) (by omega) (by omega)) (fun k h1 h2 => kc k (by omega)) (fun x k hx => ?_) ⟨P, ?_, ?_, p3⟩⟩
          · unfold F_X11_years F_X11_refuse F_X11_keepFault
            rw [if_neg g0, f1, if_neg nlt, if_pos le3, x1, bindS, bindS, if_neg (by simp), bindS]
            rfl
          · show F_X12_years w (z_wI (kf A) 0 11 10) (nI n) = _
            rw [y2]
            unfold fiY F_X12_isWell F_X12_no
            rw [if_neg zn, if_neg zn, bindS, if_neg (by simp), bindS, if_neg (by simp), z3, z4]
          · rw [K0, wI_same, wI_same]
          · rw [wI_row (by omega), wI_row (by omega), wI_row (by omega), y5 5 (by omega) (by omega), wI_row (by omega), kf_v.2.2.2]
          · rw [wI_slot (by omega), wI_slot (by omega), wI_slot (by omega), y8]
          · rw [K0, wI_slot (by omega), kf_v.2.2.1]
          · rw [K0, wI_slot (by omega), kf_v.1, wI_slot (by omega), wI_slot (by omega), wI_same, z1]
          · rw [K0, wI_slot (by omega), kf_v.2.1, wI_slot (by omega), wI_same, z2]
          · rw [K0, wI_slot (by omega), kf_0 (by omega), x3 0 (by omega) (by omega)]
          · rw [wI_slot (by omega), wI_slot (by omega), wI_slot (by omega), y9 k hk, kA 137 (by omega) (by omega) (by omega)]
          · rw [wI_2, wI_2, wI_2]
            by_cases g : x = 137
            · subst g
              rw [y11 k (by omega), AL]
            · rw [y10 x g, AL]
          · exact CP_of p1 (fun x h1 h2 => kK x (by omega) (by omega) (by omega) (by omega) (by omega))
          · exact BP_ext p2 p3 (fun k hk => kc k (by omega))
    · have nle3 : ¬ nI n ≤ 300 := nI_ge (a := 300) (by omega) hn
      refine ye_no h (nI n) ?_ (fun N hN => ?_)
      · unfold F_X11_years F_X11_refuse
        rw [if_neg g0, f1, if_neg nlt, if_neg nle3, bindS]
      · unfold F_X12_starts F_X12_no
        rw [if_neg g0, hN, f2, if_neg nlt, if_neg nle3, bindS]
  · have lt : nI f < nI n := nI_lt (by omega) hn
    refine ye_no h (nI n) ?_ (fun N hN => ?_)
    · unfold F_X11_years F_X11_refuse
      rw [if_neg g0, f1, if_pos lt, bindS]
    · unfold F_X12_starts F_X12_no
      rw [if_neg g0, hN, f2, if_pos lt, bindS]
end
