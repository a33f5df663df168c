/-! ===== witnesses and chests, read by both ===== -/
section
variable {w : Nat} {A N A' N' : z_Mem} {t : Nat → Nat} {n j e : Nat} {c : Int32} {P : t_P}
theorem CP_c {M M' : z_Mem} {p : Nat} {c' : t_C} (h : CP M p P) (hc : C_c M' p c') (k : Kr (p + 12) (p + 17) M M') : CP M' p (P.1, P.2.1, P.2.2.1, c', P.2.2.2.2) := by
  obtain ⟨hS, hR, hD, _, hY⟩ := h
  refine ⟨?_, ?_, ?_, hc, ?_⟩
  · rw [k.1 p (by omega), k.1 (p + 1) (by omega)]; exact hS
  · rw [k.1 (p + 2) (by omega), k.1 (p + 3) (by omega), k.1 (p + 4) (by omega), k.1 (p + 5) (by omega), k.1 (p + 6) (by omega), k.1 (p + 7) (by omega)]; exact hR
  · rw [k.1 (p + 8) (by omega), k.1 (p + 9) (by omega), k.1 (p + 10) (by omega), k.1 (p + 11) (by omega)]; exact hD
  · rw [k.1 (p + 17) (by omega), k.1 (p + 18) (by omega), k.1 (p + 19) (by omega), k.1 (p + 20) (by omega), k.1 (p + 21) (by omega), k.1 (p + 22) (by omega)]; exact hY
theorem BP_c {f f' : Nat → Int32} {c' : t_C} (h : BP f P) (hv : VP P) (hc : BC f' c') (k : ∀ k, (k < 2 ∨ 5 ≤ k) → (k < 75 ∨ 103 ≤ k) → f' k = f k) : BP f' (P.1, P.2.1, P.2.2.1, c', P.2.2.2.2) := by
  obtain ⟨hS, hR, hD, _, hY⟩ := h
  obtain ⟨_, vR, vD, vC, vY⟩ := hv
  exact ⟨BS_of hS (fun j a b _ => k j (by omega) (by omega)), BR_of hR vR (k 0 (by omega) (by omega)) (fun j a b => k j (by omega) (by omega)), BD_of hD vD (k 1 (by omega) (by omega)) (k 10 (by omega) (by omega)) (fun j a b => k j (by omega) (by omega)), hc, BY_of hY (fun j a b => k j (by omega) (by omega)) vY⟩
def v2 (a b : Int32) : Nat → Int32 := fun k => if k = 0 then a else b
theorem r_witness (hw : 10000 ≤ w) (h : Gd A N t n j e c) (hp : PR A N t n P) (hc : c = 14) : ∃ b A' N', F_X4_readWitness w A = some (b, A') ∧ F_X12_readWitness w N = some ((), N') ∧ Rd A A' N N' t n e b := by
  have ml := hp.2.2.1.2.2.2.1.2.2.1
  have c6 : A.1 42 6 = nI P.2.2.2.1.2.2.1 := hp.1.2.2.2.1.2.2.1
  have n4 : N.1 142 (1500 + 4) = nI P.2.2.2.1.2.2.1 := hp.2.1.2.2.2.1.2.2.1
  obtain ⟨A1, N1, o1, o2, o3⟩ := g_room hw h (by rw [hc]; decide) hp (f := 4) (b := 6) ml (by omega) (by omega) n4
  unfold F_X4_readWitness F_X12_readWitness
  rw [c6, show F_X12_another w N 4 6 = some (nI P.2.2.2.1.2.2.1, N1) from o1, bindS]
  dsimp only
  rcases o3 with ⟨m6, p0, p1, p2, j1, e1, c1, p3, p4⟩ | ⟨p0, p1⟩
  · rw [show F_X4_hasRoom w A (nI P.2.2.2.1.2.2.1) 6 = some (true, A) from p0, bindS, if_pos rfl]
    dsimp only
    rw [p1, bindS]
    dsimp only
    have je1 := p3.2.2.1.2.1
    obtain ⟨A2, N2, q1, q2⟩ := g_num hw p3 0 16 (by omega) 0 16 rfl rfl (by omega)
    rcases q2 with ⟨a, a1, a2, _, _, q3, q4, j2, e2, c2, q5, q6⟩ | ⟨q3, q4, q5⟩
    · rw [q3, bindS, q4, bindS]
      dsimp only
      have je2 := q5.2.2.1.2.1
      rw [if_neg (nI_nm1 (by omega))]
      obtain ⟨A3, N3, r1, r2⟩ := g_num hw q5 0 16 (by omega) 0 16 rfl rfl (by omega)
      have kk := Kt_t (Kt_t o2 q1) r1
      rcases r2 with ⟨b, b1, b2, _, _, r3, r4, j3, e3, c3, r5, r6⟩ | ⟨r3, r4, r5⟩
      · rw [r3, bindS, r4, bindS]
        dsimp only
        have hq := PR_k hp kk
        generalize hm : P.2.2.2.1.2.2.1 = m at *
        have d6 : A3.1 42 6 = nI m := by rw [← hm]; exact hq.1.2.2.2.1.2.2.1
        have d4 : N3.1 142 1504 = nI m := by rw [← hm]; exact hq.2.1.2.2.2.1.2.2.1
        have es : F_X0_addWitness w A3 30 (nI a) (nI b) = some (true, z_wI (z_wI (z_wI A3 45 m (nI a)) 46 m (nI b)) 42 6 (nI (m + 1))) := by
          unfold F_X0_addWitness
          rw [show A3.1 (30 + 12) 6 = nI m from d6, if_pos (show nI m < (6 : Int32) from nI_lt (b := 6) (by omega) (by omega)), if_neg (nI_in (by omega) (by omega)), if_neg (nI_in (by omega) (by omega)), nI_cl (by omega), nI_1]
        rw [if_neg (nI_nm1 (by omega)), es, bindS, if_pos rfl, r5.2.2.2.2.2.2, if_pos (by decide), show (1591 : Int32) + nI m = nI (1591 + m) from n_lad 1591 _, show (1597 : Int32) + nI m = nI (1597 + m) from n_lad 1597 _, if_neg (nI_in (by omega) (by omega)), if_neg (nI_in (by omega) (by omega)), nI_cl (by omega), nI_cl (by omega), wI_slot (by omega), wI_slot (by omega), d4, nI_1]
        dsimp only
        have F : ∀ i : Nat, (z_wI (z_wI (z_wI N3 142 (1591 + m) (nI a)) 142 (1597 + m) (nI b)) 142 1504 (nI (m + 1))).1 142 i = if i = 1504 then nI (m + 1) else if i = 1597 + m then nI b else if i = 1591 + m then nI a else N3.1 142 i := by
          intro i
          rw [wI_rd, wI_rd, wI_rd]
          simp only [true_and]
        have Fr : ∀ x, x ≠ 142 → (z_wI (z_wI (z_wI N3 142 (1591 + m) (nI a)) 142 (1597 + m) (nI b)) 142 1504 (nI (m + 1))).1 x = N3.1 x := by
          intro x hx
          rw [wI_row hx, wI_row hx, wI_row hx]
        have Ar : ∀ x, x ≠ 42 → x ≠ 45 → x ≠ 46 → (z_wI (z_wI (z_wI A3 45 m (nI a)) 46 m (nI b)) 42 6 (nI (m + 1))).1 x = A3.1 x := by
          intro x h1 h2 h3
          rw [wI_row h1, wI_row h3, wI_row h2]
        refine ⟨true, _, _, rfl, rfl, Kq_t (Kt_q kk) ?_, Or.inl ⟨rfl, ⟨(P.1, P.2.1, P.2.2.1, (P.2.2.2.1.1, P.2.2.2.1.2.1, rA P.2.2.2.1.2.2 (v2 (nI a) (nI b))), P.2.2.2.2), ?_⟩, j3, e3, c3, Gd_k r5 (Ar 5 (by omega) (by omega) (by omega)) (Ar 6 (by omega) (by omega) (by omega)) (Fr 141 (by omega)) (fun i _ => by rw [Fr 137 (by omega)]) rfl, by omega⟩⟩
        · exact ⟨fun x _ y => Ar x (by omega) (by omega) (by omega), fun k y => by rw [Ar 5 (by omega) (by omega) (by omega)], rfl, fun x _ y => Fr x y, fun i y => by rw [F, if_neg (by omega), if_neg (by omega), if_neg (by omega)], fun i _ _ => by rw [Fr 137 (by omega)], fun _ _ _ => rfl, fun _ _ => rfl⟩
        · refine PR_p hq (CP_c hq.1 ?_ ⟨fun x hx => Ar x (by omega) (by omega) (by omega), rfl⟩) (BP_c hq.2.1 hq.2.2.1 ?_ (fun i h1 h2 => ?_)) ?_ rfl (fun x h1 h2 => Ar x (by omega) (by omega) (by omega)) (by rw [Fr 137 (by omega)]) rfl
          · obtain ⟨g1, g2, g3, g4, g5⟩ := hq.1.2.2.2.1
            refine ⟨?_, ?_, ?_, fun i hi => ?_, fun i hi => ?_⟩
            · rw [wI_slot (by omega), wI_row (by omega), wI_row (by omega)]; exact g1
            · rw [wI_slot (by omega), wI_row (by omega), wI_row (by omega)]; exact g2
            · rw [wI_same]; show _ = nI (P.2.2.2.1.2.2.1 + 1); rw [hm]
            · rw [Ar (30 + 13) (by omega) (by omega) (by omega), Ar (30 + 14) (by omega) (by omega) (by omega)]
              exact g4 i hi
            · have e45 : (z_wI (z_wI (z_wI A3 45 m (nI a)) 46 m (nI b)) 42 6 (nI (m + 1))).1 (30 + 15) i = if i = m then nI a else A3.1 (30 + 15) i := by
                rw [wI_rd, if_neg (by omega), wI_rd, if_neg (by omega), wI_rd]; simp
              have e46 : (z_wI (z_wI (z_wI A3 45 m (nI a)) 46 m (nI b)) 42 6 (nI (m + 1))).1 (30 + 16) i = if i = m then nI b else A3.1 (30 + 16) i := by
                rw [wI_rd, if_neg (by omega), wI_rd, wI_row (by omega)]; simp
              rw [e45, e46]
              show _ = (if i = P.2.2.2.1.2.2.1 then v2 (nI a) (nI b) 0 else _) ∧ _ = (if i = P.2.2.2.1.2.2.1 then v2 (nI a) (nI b) 1 else _)
              rw [hm]
              by_cases g : i = m
              · rw [if_pos g, if_pos g, if_pos g, if_pos g]
                exact ⟨rfl, rfl⟩
              · rw [if_neg g, if_neg g, if_neg g, if_neg g]
                have hi' : i < m + 1 := by rw [← hm]; exact hi
                exact g5 i (by omega)
          · obtain ⟨g1, g2, g3, g4, g5⟩ := hq.2.1.2.2.2.1
            have cl := hq.2.2.1.2.2.2.1.2.1
            refine ⟨?_, ?_, ?_, fun i hi => ?_, fun i hi => ?_⟩
            · dsimp only; rw [F, if_neg (by omega), if_neg (by omega), if_neg (by omega)]; exact g1
            · dsimp only; rw [F, if_neg (by omega), if_neg (by omega), if_neg (by omega)]; exact g2
            · dsimp only; rw [F, if_pos rfl]; show _ = nI (P.2.2.2.1.2.2.1 + 1); rw [hm]
            · have hi' : i < P.2.2.2.1.2.1.1 := hi
              dsimp only
              rw [F, F, if_neg (by omega), if_neg (by omega), if_neg (by omega), if_neg (by omega), if_neg (by omega), if_neg (by omega)]
              exact g4 i hi
            · have hi' : i < m + 1 := by rw [← hm]; exact hi
              dsimp only
              rw [F, F]
              show _ = (if i = P.2.2.2.1.2.2.1 then v2 (nI a) (nI b) 0 else _) ∧ _ = (if i = P.2.2.2.1.2.2.1 then v2 (nI a) (nI b) 1 else _)
              rw [hm]
              by_cases g : i = m
              · subst g
                rw [if_pos rfl, if_pos rfl, if_neg (by omega), if_neg (by omega), if_pos (by omega), if_neg (by omega), if_pos (by omega)]
                exact ⟨rfl, rfl⟩
              · rw [if_neg g, if_neg g, if_neg (by omega), if_neg (by omega), if_neg (by omega), if_neg (by omega), if_neg (by omega), if_neg (by omega)]
                exact g5 i (by omega)
          · rw [F, if_neg (by omega), if_neg (by omega), if_neg (by omega)]
          · obtain ⟨z1, z2, z3, ⟨y1, y2, y3, y4, y5⟩, z5⟩ := hq.2.2.1
            refine ⟨z1, z2, z3, ⟨y1, y2, ?_, y4, fun i hi => ?_⟩, z5⟩
            · show P.2.2.2.1.2.2.1 + 1 ≤ 6; omega
            · have hi' : i < m + 1 := by rw [← hm]; exact hi
              show (0 ≤ (if i = P.2.2.2.1.2.2.1 then v2 (nI a) (nI b) 0 else _) ∧ (if i = P.2.2.2.1.2.2.1 then v2 (nI a) (nI b) 0 else _) ≤ 16) ∧ (0 ≤ (if i = P.2.2.2.1.2.2.1 then v2 (nI a) (nI b) 1 else _) ∧ (if i = P.2.2.2.1.2.2.1 then v2 (nI a) (nI b) 1 else _) ≤ 16)
              rw [hm]
              by_cases g : i = m
              · rw [if_pos g, if_pos g]
                exact ⟨⟨nI_pos' (by omega), nI_le (b := 16) (by omega) (by omega)⟩, nI_pos' (by omega), nI_le (b := 16) (by omega) (by omega)⟩
              · rw [if_neg g, if_neg g]
                exact y5 i (by omega)
      · rw [r3, bindS, r4, bindS]
        dsimp only
        rw [if_pos rfl, if_neg (Bd_n r5).1]
        exact ⟨false, _, _, rfl, rfl, Kt_q kk, Or.inr ⟨rfl, r5⟩⟩
    · rw [q3, bindS, q4, bindS]
      dsimp only
      rw [if_pos rfl, b_count (Bd_n q5), bindS]
      dsimp only
      rw [if_neg (Bd_n q5).1]
      exact ⟨false, _, _, rfl, rfl, Kt_q (Kt_t o2 q1), Or.inr ⟨rfl, q5⟩⟩
  · rw [show F_X4_hasRoom w A (nI P.2.2.2.1.2.2.1) 6 = some (false, A1) from p0, bindS, if_neg (by simp), b_count (Bd_n p1), bindS]
    dsimp only
    rw [b_count (Bd_n p1), bindS]
    dsimp only
    rw [if_neg (Bd_n p1).1]
    exact ⟨false, _, _, rfl, rfl, Kt_q o2, Or.inr ⟨rfl, p1⟩⟩
end
