/-! ===== a part of a parish, read by both ===== -/
def rd_c (w : Nat) (A : z_Mem) (cc : Int32) : Option (Bool × z_Mem) :=
  if cc = (0 : Int32) then F_X4_readRule w A (16 : Int32) else if cc = (1 : Int32) then F_X4_readRule w A (99 : Int32) else if cc = (2 : Int32) then F_X4_readRule w A (99 : Int32) else if cc = (3 : Int32) then F_X4_readLies w A else if cc = (4 : Int32) then F_X4_readChest w A else if cc = (5 : Int32) then F_X4_readRight w A else if cc = (6 : Int32) then F_X7_fail w A (2 : Int32) else if cc = (7 : Int32) then F_X7_fail w A (2 : Int32) else if cc = (8 : Int32) then F_X4_readDebt w A else if cc = (9 : Int32) then F_X7_fail w A (2 : Int32) else if cc = (10 : Int32) then F_X7_fail w A (2 : Int32) else if cc = (11 : Int32) then F_X4_readAsk w A else if cc = (12 : Int32) then F_X4_readClause w A else if cc = (13 : Int32) then F_X7_fail w A (2 : Int32) else if cc = (14 : Int32) then F_X4_readWitness w A else F_X7_fail w A (2 : Int32)
def tn (w c : Nat) (R : Option (Bool × z_Mem)) (x1 x2 : Int32) : Option (Bool × z_Mem) :=
  R.bind fun q4 =>
  if q4.1 = true then
  (F_X7_take w q4.2 (33 : Int32)).bind fun q7 =>
  if q7.1 = true then
  L_X4_readText w c q7.2 x1 (x2 + (1 : Int32))
  else
  some (false, q7.2)
  else
  some (false, q4.2)
section
variable {w : Nat} {A N A' N' : z_Mem} {t : Nat → Nat} {n j e : Nat} {c : Int32} {P : t_P}
theorem ct {cc : Int32} (h3 : A.1 5 3 = cc) (h38 : ¬ cc = 38) {x1 x2 : Int32} (hx : ¬ x1 < x2) (c0 : Nat) : L_X4_readText w (c0 + 1) A x1 x2 = tn w c0 (rd_c w A cc) x1 x2 := by
  rw [L_X4_readText, if_neg hx, h3, if_neg h38]
  unfold rd_c tn
  by_cases g0 : cc = 0
  · rw [if_pos g0, if_pos g0]
  rw [if_neg g0, if_neg g0]
  by_cases g1 : cc = 1
  · rw [if_pos g1, if_pos g1]
  rw [if_neg g1, if_neg g1]
  by_cases g2 : cc = 2
  · rw [if_pos g2, if_pos g2]
  rw [if_neg g2, if_neg g2]
  by_cases g3 : cc = 3
  · rw [if_pos g3, if_pos g3]
  rw [if_neg g3, if_neg g3]
  by_cases g4 : cc = 4
  · rw [if_pos g4, if_pos g4]
  rw [if_neg g4, if_neg g4]
  by_cases g5 : cc = 5
  · rw [if_pos g5, if_pos g5]
  rw [if_neg g5, if_neg g5]
  by_cases g6 : cc = 6
  · rw [if_pos g6, if_pos g6]
  rw [if_neg g6, if_neg g6]
  by_cases g7 : cc = 7
  · rw [if_pos g7, if_pos g7]
  rw [if_neg g7, if_neg g7]
  by_cases g8 : cc = 8
  · rw [if_pos g8, if_pos g8]
  rw [if_neg g8, if_neg g8]
  by_cases g9 : cc = 9
  · rw [if_pos g9, if_pos g9]
  rw [if_neg g9, if_neg g9]
  by_cases g10 : cc = 10
  · rw [if_pos g10, if_pos g10]
  rw [if_neg g10, if_neg g10]
  by_cases g11 : cc = 11
  · rw [if_pos g11, if_pos g11]
  rw [if_neg g11, if_neg g11]
  by_cases g12 : cc = 12
  · rw [if_pos g12, if_pos g12]
  rw [if_neg g12, if_neg g12]
  by_cases g13 : cc = 13
  · rw [if_pos g13, if_pos g13]
  rw [if_neg g13, if_neg g13]
  by_cases g14 : cc = 14
  · rw [if_pos g14, if_pos g14]
  rw [if_neg g14, if_neg g14]
/-- how both come out of a part -/
def R3 (w : Nat) (A A' N N' : z_Mem) (t : Nat → Nat) (n e : Nat) (b : Bool) : Prop := Kq A A' N N' ∧ ((b = true ∧ (∃ P, PR A' N' t n P) ∧ ∃ j' e' c1, Gd A' N' t n j' e' c1 ∧ e ≤ j') ∨ (b = false ∧ Bd A' N') ∨ (b = false ∧ ∃ A0 j' e' c1, Gd A0 N' t n j' e' c1 ∧ ¬ c1 = 33 ∧ F_X7_fail w A0 2 = some (false, A')))
theorem Rd_3 {b : Bool} (h : Rd A A' N N' t n e b) : R3 w A A' N N' t n e b := ⟨h.1, h.2.elim Or.inl (fun x => Or.inr (Or.inl x))⟩
theorem p_part (hw : 10000 ≤ w) (h : Gd A N t n j e c) (hp : PR A N t n P) : ∃ b A' N', rd_c w A c = some (b, A') ∧ F_X12_readPart w N = some ((), N') ∧ R3 w A A' N N' t n e b := by
  have T := h.2.2.1
  unfold F_X12_readPart rd_c
  rw [m_isOdds T, bindS]
  dsimp only
  by_cases g0 : c = 0
  · obtain ⟨b, A', N', x1, x2, x3⟩ := r_rule hw h hp (k := 0) (hi := 16) (Or.inl ⟨rfl, rfl⟩) g0
    have x1' : F_X4_readRule w A (16 : Int32) = some (b, A') := x1
    have x2' : F_X12_readOnce w N 5 16 = some ((), N') := x2
    rw [if_pos (decide_eq_true g0), if_pos g0, x1', x2', bindS]
    exact ⟨b, A', N', rfl, rfl, Rd_3 x3⟩
  rw [if_neg (show ¬ decide (c = 0) = true by rw [decide_eq_true_iff]; exact g0)]
  rw [m_isToll T, bindS]
  dsimp only
  by_cases g1 : c = 1
  · obtain ⟨b, A', N', x1, x2, x3⟩ := r_rule hw h hp (k := 1) (hi := 99) (Or.inr (Or.inl ⟨rfl, rfl⟩)) g1
    have x1' : F_X4_readRule w A (99 : Int32) = some (b, A') := x1
    have x2' : F_X12_readOnce w N 6 99 = some ((), N') := x2
    rw [if_pos (decide_eq_true g1), if_neg (show ¬ c = (0 : Int32) by rw [g1]; decide), if_pos g1, x1', x2', bindS]
    exact ⟨b, A', N', rfl, rfl, Rd_3 x3⟩
  rw [if_neg (show ¬ decide (c = 1) = true by rw [decide_eq_true_iff]; exact g1)]
  rw [m_isWar T, bindS]
  dsimp only
  by_cases g2 : c = 2
  · obtain ⟨b, A', N', x1, x2, x3⟩ := r_rule hw h hp (k := 2) (hi := 99) (Or.inr (Or.inr ⟨rfl, rfl⟩)) g2
    have x1' : F_X4_readRule w A (99 : Int32) = some (b, A') := x1
    have x2' : F_X12_readOnce w N 7 99 = some ((), N') := x2
    rw [if_pos (decide_eq_true g2), if_neg (show ¬ c = (0 : Int32) by rw [g2]; decide), if_neg (show ¬ c = (1 : Int32) by rw [g2]; decide), if_pos g2, x1', x2', bindS]
    exact ⟨b, A', N', rfl, rfl, Rd_3 x3⟩
  rw [if_neg (show ¬ decide (c = 2) = true by rw [decide_eq_true_iff]; exact g2)]
  rw [m_isLies T, bindS]
  dsimp only
  by_cases g3 : c = 3
  · obtain ⟨b, A', N', x1, x2, x3⟩ := r_lies hw h hp g3
    have x1' : F_X4_readLies w A = some (b, A') := x1
    have x2' : F_X12_readLies w N = some ((), N') := x2
    rw [if_pos (decide_eq_true g3), if_neg (show ¬ c = (0 : Int32) by rw [g3]; decide), if_neg (show ¬ c = (1 : Int32) by rw [g3]; decide), if_neg (show ¬ c = (2 : Int32) by rw [g3]; decide), if_pos g3, x1', x2', bindS]
    exact ⟨b, A', N', rfl, rfl, Rd_3 x3⟩
  rw [if_neg (show ¬ decide (c = 3) = true by rw [decide_eq_true_iff]; exact g3)]
  rw [m_isChest T, bindS]
  dsimp only
  by_cases g4 : c = 4
  · obtain ⟨b, A', N', x1, x2, x3⟩ := r_chest hw h hp
    have x1' : F_X4_readChest w A = some (b, A') := x1
    have x2' : F_X12_readChest w N = some ((), N') := x2
    rw [if_pos (decide_eq_true g4), if_neg (show ¬ c = (0 : Int32) by rw [g4]; decide), if_neg (show ¬ c = (1 : Int32) by rw [g4]; decide), if_neg (show ¬ c = (2 : Int32) by rw [g4]; decide), if_neg (show ¬ c = (3 : Int32) by rw [g4]; decide), if_pos g4, x1', x2', bindS]
    exact ⟨b, A', N', rfl, rfl, Rd_3 x3⟩
  rw [if_neg (show ¬ decide (c = 4) = true by rw [decide_eq_true_iff]; exact g4)]
  rw [m_isRight T, bindS]
  dsimp only
  by_cases g5 : c = 5
  · obtain ⟨b, A', N', x1, x2, x3⟩ := r_right hw h hp g5
    have x1' : F_X4_readRight w A = some (b, A') := x1
    have x2' : F_X12_readRight w N = some ((), N') := x2
    rw [if_pos (decide_eq_true g5), if_neg (show ¬ c = (0 : Int32) by rw [g5]; decide), if_neg (show ¬ c = (1 : Int32) by rw [g5]; decide), if_neg (show ¬ c = (2 : Int32) by rw [g5]; decide), if_neg (show ¬ c = (3 : Int32) by rw [g5]; decide), if_neg (show ¬ c = (4 : Int32) by rw [g5]; decide), if_pos g5, x1', x2', bindS]
    exact ⟨b, A', N', rfl, rfl, Rd_3 x3⟩
  rw [if_neg (show ¬ decide (c = 5) = true by rw [decide_eq_true_iff]; exact g5)]
  rw [m_isDebt T, bindS]
  dsimp only
  by_cases g8 : c = 8
  · obtain ⟨b, A', N', x1, x2, x3⟩ := r_debt hw h hp g8
    have x1' : F_X4_readDebt w A = some (b, A') := x1
    have x2' : F_X12_readDebt w N = some ((), N') := x2
    rw [if_pos (decide_eq_true g8), if_neg (show ¬ c = (0 : Int32) by rw [g8]; decide), if_neg (show ¬ c = (1 : Int32) by rw [g8]; decide), if_neg (show ¬ c = (2 : Int32) by rw [g8]; decide), if_neg (show ¬ c = (3 : Int32) by rw [g8]; decide), if_neg (show ¬ c = (4 : Int32) by rw [g8]; decide), if_neg (show ¬ c = (5 : Int32) by rw [g8]; decide), if_neg (show ¬ c = (6 : Int32) by rw [g8]; decide), if_neg (show ¬ c = (7 : Int32) by rw [g8]; decide), if_pos g8, x1', x2', bindS]
    exact ⟨b, A', N', rfl, rfl, Rd_3 x3⟩
  rw [if_neg (show ¬ decide (c = 8) = true by rw [decide_eq_true_iff]; exact g8)]
  rw [m_isAsk T, bindS]
  dsimp only
  by_cases g11 : c = 11
  · obtain ⟨b, A', N', x1, x2, x3⟩ := r_ask hw h hp g11
    have x1' : F_X4_readAsk w A = some (b, A') := x1
    have x2' : F_X12_readAsk w N = some ((), N') := x2
    rw [if_pos (decide_eq_true g11), if_neg (show ¬ c = (0 : Int32) by rw [g11]; decide), if_neg (show ¬ c = (1 : Int32) by rw [g11]; decide), if_neg (show ¬ c = (2 : Int32) by rw [g11]; decide), if_neg (show ¬ c = (3 : Int32) by rw [g11]; decide), if_neg (show ¬ c = (4 : Int32) by rw [g11]; decide), if_neg (show ¬ c = (5 : Int32) by rw [g11]; decide), if_neg (show ¬ c = (6 : Int32) by rw [g11]; decide), if_neg (show ¬ c = (7 : Int32) by rw [g11]; decide), if_neg (show ¬ c = (8 : Int32) by rw [g11]; decide), if_neg (show ¬ c = (9 : Int32) by rw [g11]; decide), if_neg (show ¬ c = (10 : Int32) by rw [g11]; decide), if_pos g11, x1', x2', bindS]
    exact ⟨b, A', N', rfl, rfl, Rd_3 x3⟩
  rw [if_neg (show ¬ decide (c = 11) = true by rw [decide_eq_true_iff]; exact g11)]
  rw [m_isClause T, bindS]
  dsimp only
  by_cases g12 : c = 12
  · obtain ⟨b, A', N', x1, x2, x3⟩ := r_clause hw h hp g12
    have x1' : F_X4_readClause w A = some (b, A') := x1
    have x2' : F_X12_readClause w N = some ((), N') := x2
    rw [if_pos (decide_eq_true g12), if_neg (show ¬ c = (0 : Int32) by rw [g12]; decide), if_neg (show ¬ c = (1 : Int32) by rw [g12]; decide), if_neg (show ¬ c = (2 : Int32) by rw [g12]; decide), if_neg (show ¬ c = (3 : Int32) by rw [g12]; decide), if_neg (show ¬ c = (4 : Int32) by rw [g12]; decide), if_neg (show ¬ c = (5 : Int32) by rw [g12]; decide), if_neg (show ¬ c = (6 : Int32) by rw [g12]; decide), if_neg (show ¬ c = (7 : Int32) by rw [g12]; decide), if_neg (show ¬ c = (8 : Int32) by rw [g12]; decide), if_neg (show ¬ c = (9 : Int32) by rw [g12]; decide), if_neg (show ¬ c = (10 : Int32) by rw [g12]; decide), if_neg (show ¬ c = (11 : Int32) by rw [g12]; decide), if_pos g12, x1', x2', bindS]
    exact ⟨b, A', N', rfl, rfl, x3⟩
  rw [if_neg (show ¬ decide (c = 12) = true by rw [decide_eq_true_iff]; exact g12)]
  rw [m_isWitness T, bindS]
  dsimp only
  by_cases g14 : c = 14
  · obtain ⟨b, A', N', x1, x2, x3⟩ := r_witness hw h hp g14
    have x1' : F_X4_readWitness w A = some (b, A') := x1
    have x2' : F_X12_readWitness w N = some ((), N') := x2
    rw [if_pos (decide_eq_true g14), if_neg (show ¬ c = (0 : Int32) by rw [g14]; decide), if_neg (show ¬ c = (1 : Int32) by rw [g14]; decide), if_neg (show ¬ c = (2 : Int32) by rw [g14]; decide), if_neg (show ¬ c = (3 : Int32) by rw [g14]; decide), if_neg (show ¬ c = (4 : Int32) by rw [g14]; decide), if_neg (show ¬ c = (5 : Int32) by rw [g14]; decide), if_neg (show ¬ c = (6 : Int32) by rw [g14]; decide), if_neg (show ¬ c = (7 : Int32) by rw [g14]; decide), if_neg (show ¬ c = (8 : Int32) by rw [g14]; decide), if_neg (show ¬ c = (9 : Int32) by rw [g14]; decide), if_neg (show ¬ c = (10 : Int32) by rw [g14]; decide), if_neg (show ¬ c = (11 : Int32) by rw [g14]; decide), if_neg (show ¬ c = (12 : Int32) by rw [g14]; decide), if_neg (show ¬ c = (13 : Int32) by rw [g14]; decide), if_pos g14, x1', x2', bindS]
    exact ⟨b, A', N', rfl, rfl, Rd_3 x3⟩
  rw [if_neg (show ¬ decide (c = 14) = true by rw [decide_eq_true_iff]; exact g14)]
  obtain ⟨A1, N1, a1, a2, a3, a4⟩ := g_amiss (w := w) h
  rw [a1, a2, bindS]
  refine ⟨false, A1, N1, ?_, rfl, Kt_q a4, Or.inr (Or.inl ⟨rfl, a3⟩)⟩
  simp only [if_neg g0, if_neg g1, if_neg g2, if_neg g3, if_neg g4, if_neg g5, if_neg g8, if_neg g11, if_neg g12, if_neg g14, ite_self]
end
