/-! ===== a clause's two masks ===== -/
def mk (a b : Nat) : Nat := a ||| (b <<< 6)
theorem mk_a (a b k : Nat) : mk a b ||| 2 ^ k = mk (a ||| 2 ^ k) b := by
  unfold mk
  rw [Nat.or_assoc, Nat.or_comm (b <<< 6), ← Nat.or_assoc]
theorem mk_b (a b k : Nat) : mk a b ||| 2 ^ (k + 6) = mk a (b ||| 2 ^ k) := by
  unfold mk
  rw [Nat.shiftLeft_or_distrib, Nat.or_assoc, Nat.shiftLeft_eq (2 ^ k) 6, Nat.pow_add]
theorem mk_d : ∀ a, a < 64 → ∀ b, b < 64 → (decide ((nI (mk a b) &&& 63) = nI a) && decide ((nI (mk a b) >>> ((6 : Int32) &&& 31)) = nI b)) = true := by decide +kernel
theorem mk_s {a b : Nat} (ha : a < 64) (hb : b < 64) : (nI (mk a b) &&& 63) = nI a ∧ (nI (mk a b) >>> ((6 : Int32) &&& 31)) = nI b := by
  have := mk_d a ha b hb
  rw [Bool.and_eq_true] at this
  exact ⟨of_decide_eq_true this.1, of_decide_eq_true this.2⟩
theorem or_64 {n m : Nat} (hn : n < 64) (hm : m < 6) : n ||| 2 ^ m < 64 := Nat.or_lt_two_pow (n := 6) hn (Nat.pow_lt_pow_right (by omega) hm)
section
variable {w : Nat} {A3 N3 : z_Mem} {t : Nat → Nat} {n : Nat} {P : t_P}
def clA (A : z_Mem) (m a b : Nat) : z_Mem := z_wI (z_wI (z_wI A 43 m (nI a)) 44 m (nI b)) 42 5 (nI (m + 1))
def clN (N : z_Mem) (m a b : Nat) : z_Mem := z_wI (z_wI (z_wI N 142 (1575 + m) (nI a)) 142 (1583 + m) (nI b)) 142 1503 (nI (m + 1))
theorem clA_r {m a b x : Nat} (h1 : x ≠ 42) (h2 : x ≠ 43) (h3 : x ≠ 44) : (clA A3 m a b).1 x = A3.1 x := by
  unfold clA
  rw [wI_row h1, wI_row h3, wI_row h2]
theorem clN_r {m a b x : Nat} (hx : x ≠ 142) : (clN N3 m a b).1 x = N3.1 x := by
  unfold clN
  rw [wI_row hx, wI_row hx, wI_row hx]
theorem clN_f {m a b : Nat} (i : Nat) : (clN N3 m a b).1 142 i = if i = 1503 then nI (m + 1) else if i = 1583 + m then nI b else if i = 1575 + m then nI a else N3.1 142 i := by
  unfold clN
  rw [wI_rd, wI_rd, wI_rd]
  simp only [true_and]
theorem cl_add {m a b : Nat} (hq : PR A3 N3 t n P) (hm : P.2.2.2.1.2.1.1 = m) (m8 : m < 8) (ha : a < 64) (hb : b < 64) : F_X0_addClause w A3 30 (nI a) (nI b) = some (true, clA A3 m a b) ∧ PR (clA A3 m a b) (clN N3 m a b) t n (P.1, P.2.1, P.2.2.1, (P.2.2.2.1.1, rA P.2.2.2.1.2.1 (v2 (nI a) (nI b)), P.2.2.2.1.2.2), P.2.2.2.2) := by
  have d6 : A3.1 42 5 = nI m := by rw [← hm]; exact hq.1.2.2.2.1.2.1
  refine ⟨?_, ?_⟩
  · unfold F_X0_addClause clA
    rw [show A3.1 (30 + 12) 5 = nI m from d6, if_pos (show nI m < (8 : Int32) from nI_lt (b := 8) (by omega) (by omega)), if_neg (nI_in (by omega) (by omega)), if_neg (nI_in (by omega) (by omega)), nI_cl (by omega), nI_1]
  · refine PR_p hq (CP_c hq.1 ?_ ⟨fun x hx => clA_r (by omega) (by omega) (by omega), rfl⟩) (BP_c hq.2.1 hq.2.2.1 ?_ (fun i h1 h2 => ?_)) ?_ rfl (fun x h1 h2 => clA_r (by omega) (by omega) (by omega)) (by rw [clN_r (by omega)]) rfl
    · obtain ⟨g1, g2, g3, g4, g5⟩ := hq.1.2.2.2.1
      refine ⟨?_, ?_, ?_, fun i hi => ?_, fun i hi => ?_⟩
      · unfold clA; rw [wI_slot (by omega), wI_row (by omega), wI_row (by omega)]; exact g1
      · unfold clA; rw [wI_same]; show _ = nI (P.2.2.2.1.2.1.1 + 1); rw [hm]
      · unfold clA; rw [wI_slot (by omega), wI_row (by omega), wI_row (by omega)]; exact g3
      · have e45 : (clA A3 m a b).1 (30 + 13) i = if i = m then nI a else A3.1 (30 + 13) i := by
          unfold clA
          rw [wI_rd, if_neg (by omega), wI_rd, if_neg (by omega), wI_rd]; simp
        have e46 : (clA A3 m a b).1 (30 + 14) i = if i = m then nI b else A3.1 (30 + 14) i := by
          unfold clA
          rw [wI_rd, if_neg (by omega), wI_rd, wI_row (by omega)]; simp
        rw [e45, e46]
        show _ = (if i = P.2.2.2.1.2.1.1 then v2 (nI a) (nI b) 0 else _) ∧ _ = (if i = P.2.2.2.1.2.1.1 then v2 (nI a) (nI b) 1 else _)
        rw [hm]
        by_cases g : i = m
        · rw [if_pos g, if_pos g, if_pos g, if_pos g]
          exact ⟨rfl, rfl⟩
        · rw [if_neg g, if_neg g, if_neg g, if_neg g]
          have hi' : i < m + 1 := by rw [← hm]; exact hi
          exact g4 i (by omega)
      · rw [clA_r (by omega) (by omega) (by omega), clA_r (by omega) (by omega) (by omega)]
        exact g5 i hi
    · obtain ⟨g1, g2, g3, g4, g5⟩ := hq.2.1.2.2.2.1
      have cl := hq.2.2.1.2.2.2.1.2.2.1
      refine ⟨?_, ?_, ?_, fun i hi => ?_, fun i hi => ?_⟩
      · dsimp only; rw [clN_f, if_neg (by omega), if_neg (by omega), if_neg (by omega)]; exact g1
      · dsimp only; rw [clN_f, if_pos rfl]; show _ = nI (P.2.2.2.1.2.1.1 + 1); rw [hm]
      · dsimp only; rw [clN_f, if_neg (by omega), if_neg (by omega), if_neg (by omega)]; exact g3
      · have hi' : i < m + 1 := by rw [← hm]; exact hi
        dsimp only
        rw [clN_f, clN_f]
        show _ = (if i = P.2.2.2.1.2.1.1 then v2 (nI a) (nI b) 0 else _) ∧ _ = (if i = P.2.2.2.1.2.1.1 then v2 (nI a) (nI b) 1 else _)
        rw [hm]
        by_cases g : i = m
        · subst g
          rw [if_pos rfl, if_pos rfl, if_neg (by omega), if_neg (by omega), if_pos (by omega), if_neg (by omega), if_pos (by omega)]
          exact ⟨rfl, rfl⟩
        · rw [if_neg g, if_neg g, if_neg (by omega), if_neg (by omega), if_neg (by omega), if_neg (by omega), if_neg (by omega), if_neg (by omega)]
          exact g4 i (by omega)
      · have hi' : i < P.2.2.2.1.2.2.1 := hi
        dsimp only
        rw [clN_f, clN_f, if_neg (by omega), if_neg (by omega), if_neg (by omega), if_neg (by omega), if_neg (by omega), if_neg (by omega)]
        exact g5 i hi
    · rw [clN_f, if_neg (by omega), if_neg (by omega), if_neg (by omega)]
    · obtain ⟨z1, z2, z3, ⟨y1, y2, y3, y4, y5⟩, z5⟩ := hq.2.2.1
      refine ⟨z1, z2, z3, ⟨y1, ?_, y3, fun i hi => ?_, y5⟩, z5⟩
      · show P.2.2.2.1.2.1.1 + 1 ≤ 8; omega
      · have hi' : i < m + 1 := by rw [← hm]; exact hi
        show (0 ≤ (if i = P.2.2.2.1.2.1.1 then v2 (nI a) (nI b) 0 else _) ∧ (if i = P.2.2.2.1.2.1.1 then v2 (nI a) (nI b) 0 else _) ≤ 63) ∧ (0 ≤ (if i = P.2.2.2.1.2.1.1 then v2 (nI a) (nI b) 1 else _) ∧ (if i = P.2.2.2.1.2.1.1 then v2 (nI a) (nI b) 1 else _) ≤ 63)
        rw [hm]
        by_cases g : i = m
        · rw [if_pos g, if_pos g]
          exact ⟨⟨nI_pos' (by omega), nI_le (b := 63) (by omega) (by omega)⟩, nI_pos' (by omega), nI_le (b := 63) (by omega) (by omega)⟩
        · rw [if_neg g, if_neg g]
          exact y4 i (by omega)
theorem cl_k {A : z_Mem} {m a b : Nat} : Kq A3 (clA A3 m a b) N3 (clN N3 m a b) ∧ Kq A A N3 (clN N3 m a b) := by
  refine ⟨⟨fun x _ y => clA_r (by omega) (by omega) (by omega), fun k y => by rw [clA_r (by omega) (by omega) (by omega)], rfl, fun x _ y => clN_r y, fun i y => by rw [clN_f, if_neg (by omega), if_neg (by omega), if_neg (by omega)], fun i _ _ => by rw [clN_r (by omega)], fun _ _ _ => rfl, fun _ _ => rfl⟩, ⟨fun x _ y => rfl, fun k y => rfl, rfl, fun x _ y => clN_r y, fun i y => by rw [clN_f, if_neg (by omega), if_neg (by omega), if_neg (by omega)], fun i _ _ => by rw [clN_r (by omega)], fun _ _ _ => rfl, fun _ _ => rfl⟩⟩
end
