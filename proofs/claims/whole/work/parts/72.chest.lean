/-! ===== chests, read by both ===== -/
section
variable {w : Nat} {A N A' N' : z_Mem} {t : Nat → Nat} {n j e : Nat} {c : Int32} {P : t_P}
theorem m_chest {N1 : z_Mem} {v : Nat} (hv : v ≤ 1) (hm : F_X12_must w N 1 = some ((), N1)) (hs : F_X12_sideWord w N1 = some (nI v, N1)) : F_X12_readChest w N = (F_X12_once w N1 (nI (12 + v))).bind fun q8 => (F_X12_count w q8.2 0 999).bind fun r => if r.2.1 137 12 = 0 then some ((), z_wI r.2 142 (1512 + v) r.1) else some ((), r.2) := by
  have hneg : ¬ nI v < (0 : Int32) := nI_pos (by omega)
  have e1 : (12 : Int32) + nI v = nI (12 + v) := n_lad 12 _
  have e2 : (1512 : Int32) + nI v = nI (1512 + v) := n_lad 1512 _
  have ck : ¬ (nI (1512 + v) < 0 ∨ 1875 ≤ (nI (1512 + v)).toNatClampNeg) := nI_in (by omega) (by omega)
  have cl : (nI (1512 + v)).toNatClampNeg = 1512 + v := nI_cl (by omega)
  unfold F_X12_readChest F_X12_once
  rw [hm, bindS]
  dsimp only
  rw [hs, bindS]
  dsimp only
  rw [if_neg hneg, e1, f_has12, bindS, bindS]
  dsimp only
  by_cases g : decide (((N1.1 137 24 >>> (nI (12 + v) &&& 31)) &&& 1) = 1) = true
  · rw [if_pos g, if_pos g]
    cases hX : F_X12_fail w N1 5 (N1.1 137 15) with
    | none => rfl
    | some q =>
      rw [bindS, bindS, if_neg hneg, if_neg hneg]
      cases hY : F_X12_must w (z_wI q.2 137 24 (q.2.1 137 24 ||| 1 <<< (nI (12 + v) &&& 31))) 1 with
      | none => rfl
      | some r =>
        rw [bindS, bindS, bindS]
        dsimp only
        rw [e2, cl]
        rw [cl] at ck
        simp only [if_neg ck]
  · rw [if_neg g, if_neg g, if_neg hneg, if_neg hneg]
    cases hY : F_X12_must w (z_wI N1 137 24 (N1.1 137 24 ||| 1 <<< (nI (12 + v) &&& 31))) 1 with
    | none => rfl
    | some r =>
      rw [bindS, bindS, bindS]
      dsimp only
      rw [e2, cl]
      rw [cl] at ck
      simp only [if_neg ck]
theorem r_chest (hw : 10000 ≤ w) (h : Gd A N t n j e c) (hp : PR A N t n P) : ∃ b A' N', F_X4_readChest w A = some (b, A') ∧ F_X12_readChest w N = some ((), N') ∧ Rd A A' N N' t n e b := by
  obtain ⟨A1, N1, j1, e1, c1, o1, o2, o3, o4, o5⟩ := g_adv hw h
  have hp1 := PR_k hp o5
  have mm : F_X12_must w N 1 = some ((), N1) := (m_must1 h.2.2.2.2.2.2).trans o2
  have h3 : A1.1 5 3 = c1 := o3.2.2.1.2.2.2.1
  have sw := m_sideWord (w := w) o3.2.2.1
  have je1 := o3.2.2.1.2.1
  have key : ∀ v, v ≤ 1 → ¬ c1 = 37 → F_X7_sideHere w A1 = some (nI v, A1) → F_X12_sideWord w N1 = some (nI v, N1) → ∃ b A' N', F_X4_readChest w A = some (b, A') ∧ F_X12_readChest w N = some ((), N') ∧ Rd A A' N N' t n e b := by
    intro v hv n37 hs hm
    rw [m_chest hv mm hm]
    unfold F_X4_readChest
    rw [o1, bindS]
    dsimp only
    rw [hs, bindS]
    dsimp only
    rw [if_neg (nI_nm1 (by omega)), show (4 : Int32) + nI v = nI (4 + v) from n_lad 4 _]
    obtain ⟨A2, N2, p1, p2, p3⟩ := g_once hw o3 n37 hp1 (k := 4 + v) (by omega)
    have ef : fl (4 + v) = 12 + v := by unfold fl; rw [if_neg (by omega)]; omega
    rw [ef] at p1
    rw [p1, bindS]
    dsimp only
    rcases p3 with ⟨A0, q1, q2, q3, j2, e2, c2, q4, q5⟩ | ⟨q1, q2⟩
    · rw [q1, bindS, if_pos rfl]
      dsimp only
      rw [q2, bindS]
      dsimp only
      have je2 := q4.2.2.1.2.1
      obtain ⟨A3, N3, r1, r2⟩ := g_num hw q4 0 999 (by omega) 0 999 rfl rfl (by omega)
      rcases r2 with ⟨x, x1, x2, _, _, r3, r4, j3, e3, c3, r5, r6⟩ | ⟨r3, r4, r5⟩
      · rw [r3, bindS, r4, bindS]
        dsimp only
        rw [if_neg (nI_nm1 (by omega)), if_neg (nI_in (by omega) (by omega)), nI_cl (by omega), r5.2.2.2.2.2.2, if_pos rfl]
        refine ⟨true, _, _, rfl, rfl, Kq_t (Kq_t (Kt_q o5) (Kq_t p2 (Kt_q r1))) ?_, Or.inl ⟨rfl, ⟨(sR P.1 (12 + v) (nI x), P.2), ?_⟩, j3, e3, c3, Gd_k r5 (wI_row (by omega)) (wI_row (by omega)) (wI_row (by omega)) (fun i hi => by rw [wI_row (by omega)]) rfl, by omega⟩⟩
        · exact ⟨fun y _ a => wI_row (by omega), fun k a => by rw [wI_row (by omega)], rfl, fun y a b => wI_row b, fun i a => wI_slot (by omega), fun i a b => by rw [wI_row (by omega)], fun _ _ _ => rfl, fun _ _ => rfl⟩
        · have hq := PR_k q3 r1
          obtain ⟨s1, s2, s3, s4, s5, s6, s7, s8, s9⟩ := hq.1.1
          obtain ⟨b1, b2, b3, b4, b5, b6, b7, b8, b9, b10, b11, b12, b13, b14⟩ := hq.2.1.1
          obtain ⟨w1, w2, w3, w4, w5, w6, w7⟩ := hq.2.2.1.1
          have lay := z_lay_of (s := P.1) (s' := sR P.1 (12 + v) (nI x)) (fun i a b => sR_ne (by omega))
          have rng : (0 : Int32) ≤ nI x ∧ nI x ≤ 9999 := ⟨nI_pos' (by omega), nI_le (b := 9999) (by omega) (by omega)⟩
          have RA : ∀ i : Nat, (z_wI A3 31 v (nI x)).1 (30 + 1) i = if i = v then nI x else A3.1 (30 + 1) i := fun i => by rw [wI_rd]; simp
          have RN : ∀ i : Nat, (z_wI N3 142 (1512 + v) (nI x)).1 142 (1500 + i) = if i = 12 + v then nI x else N3.1 142 (1500 + i) := fun i => by
            rw [wI_rd]
            by_cases g : i = 12 + v
            · rw [if_pos g, if_pos ⟨rfl, by omega⟩]
            · rw [if_neg g, if_neg (fun y => g (by omega))]
          refine PR_s hq ?_ ?_ ?_ (fun a y z => wI_row (by omega)) (fun i hi => wI_slot (by omega)) (by rw [wI_row (by omega)]) rfl
          · refine ⟨?_, ?_, ?_, ?_, ?_, ?_, ?_, ?_, ?_⟩
            · rw [wI_row (by omega), sR_ne (by omega)]; exact s1
            · rw [wI_row (by omega), sR_ne (by omega)]; exact s2
            · rw [wI_row (by omega), sR_ne (by omega)]; exact s3
            · rw [wI_row (by omega), sR_ne (by omega)]; exact s4
            · rw [wI_row (by omega), lay]; exact s5
            · rw [wI_row (by omega), sR_ne (by omega)]; exact s6
            · rw [wI_row (by omega), sR_ne (by omega)]; exact s7
            · rw [RA]
              by_cases g : v = 0
              · subst g; rw [if_pos rfl, sR_eq]
              · rw [if_neg (by omega), sR_ne (by omega)]; exact s8
            · rw [RA]
              by_cases g : v = 1
              · subst g; rw [if_pos rfl, sR_eq]
              · rw [if_neg (by omega), sR_ne (by omega)]; exact s9
          · refine ⟨?_, ?_, ?_, ?_, ?_, ?_, ?_, ?_, ?_, ?_, ?_, ?_, ?_, ?_⟩
            all_goals (dsimp only; rw [RN]; unfold sR)
            · rw [show N3.1 142 (1500 + 5) = P.1 5 from b1]
            · rw [show N3.1 142 (1500 + 6) = P.1 6 from b2]
            · rw [show N3.1 142 (1500 + 7) = P.1 7 from b3]
            · rw [show N3.1 142 (1500 + 8) = P.1 8 from b4]
            · rw [show N3.1 142 (1500 + 9) = P.1 9 from b5]
            · rw [show N3.1 142 (1500 + 11) = P.1 11 from b6]
            · rw [show N3.1 142 (1500 + 12) = P.1 12 from b7]
            · rw [show N3.1 142 (1500 + 13) = P.1 13 from b8]
            · rw [show N3.1 142 (1500 + 14) = P.1 14 from b9]
            · rw [show N3.1 142 (1500 + 15) = P.1 15 from b10]
            · rw [show N3.1 142 (1500 + 16) = P.1 16 from b11]
            · rw [show N3.1 142 (1500 + 17) = P.1 17 from b12]
            · rw [show N3.1 142 (1500 + 18) = P.1 18 from b13]
            · rw [show N3.1 142 (1500 + 19) = P.1 19 from b14]
          · refine ⟨?_, ?_, ?_, ?_, ?_, ?_, ?_⟩
            · rw [sR_ne (by omega)]; exact w1
            · intro i hi; rw [sR_ne (by omega)]; exact w2 i hi
            · by_cases g : v = 0
              · subst g; rw [sR_eq]; exact rng
              · rw [sR_ne (by omega)]; exact w3
            · by_cases g : v = 1
              · subst g; rw [sR_eq]; exact rng
              · rw [sR_ne (by omega)]; exact w4
            · rw [sR_ne (by omega)]; exact w5
            · rw [sR_ne (by omega)]; exact w6
            · rw [sR_ne (by omega)]; exact w7
      · rw [r3, bindS, r4, bindS]
        dsimp only
        rw [if_pos rfl, if_neg (Bd_n r5).2]
        exact ⟨false, _, _, rfl, rfl, Kq_t (Kt_q o5) (Kq_t p2 (Kt_q r1)), Or.inr ⟨rfl, r5⟩⟩
    · rw [q1, bindS, if_neg (by simp), b_count (Bd_n q2), bindS]
      dsimp only
      rw [if_neg (Bd_n q2).2]
      exact ⟨false, _, _, rfl, rfl, Kq_t (Kt_q o5) p2, Or.inr ⟨rfl, q2⟩⟩
  by_cases g : c1 = 15
  · refine key 0 (by omega) (by rw [g]; decide) ?_ ?_
    · unfold F_X7_sideHere
      rw [h3, if_pos g, if_pos g]; rfl
    · rw [sw, if_pos g]; rfl
  · by_cases g2 : c1 = 16
    · refine key 1 (by omega) (by rw [g2]; decide) ?_ ?_
      · unfold F_X7_sideHere
        rw [h3, if_neg g, if_pos g2, if_neg g]; rfl
      · rw [sw, if_neg g, if_pos g2]; rfl
    · obtain ⟨A2, N2, a1, a2, a3, a4⟩ := g_amiss (w := w) o3
      rw [if_neg g, if_neg g2] at sw
      unfold F_X4_readChest F_X12_readChest F_X7_sideHere
      rw [o1, bindS, mm, bindS]
      dsimp only
      rw [h3, if_neg g, if_neg g2, a1, bindS, bindS, if_pos rfl, sw, bindS]
      dsimp only
      rw [if_pos (by decide), if_pos (by decide), if_pos (by decide), m_must0 o3.2.2.2.2.2.2, a2, bindS]
      dsimp only
      rw [b_count (Bd_n a3), bindS]
      dsimp only
      rw [if_neg (Bd_n a3).2]
      exact ⟨false, _, _, rfl, rfl, Kt_q (Kt_t o5 a4), Or.inr ⟨rfl, a3⟩⟩
end
