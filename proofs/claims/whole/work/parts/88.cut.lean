/-! ===== years: a step, cut into its parts ===== -/
def z0 (A : z_Mem) : z_Mem := z_wI (z_wI (z_wI A 56 4 (0 : Int32)) 56 5 (0 : Int32)) 56 6 (0 : Int32)
def rst (w : Nat) (A : z_Mem) (c : Int32) : Option (Bool × z_Mem) := if c = 25 then F_X10_takeTest w A else if c = 22 then F_X10_takeSworn w A else F_X10_takeNumbers w A c
def c_fl (w : Nat) (c : Int32) (R : Option (Bool × z_Mem)) : Option (Bool × z_Mem) :=
  R.bind fun q => if q.1 = true then (F_X7_take w q.2 (33 : Int32)).bind fun r => if r.1 = true then (F_X9_add w r.2 30 c (r.2.1 56 4) (r.2.1 56 5) (r.2.1 56 6)).bind fun s => if s.1 = true then some (true, s.2) else some (false, s.2) else some (false, r.2) else some (false, q.2)
def c_op (w : Nat) (c : Int32) (R : Option (Bool × z_Mem)) : Option (Bool × z_Mem) :=
  R.bind fun q => if q.1 = true then (F_X7_take w q.2 (33 : Int32)).bind fun r => if r.1 = true then (F_X9_add w r.2 30 c (r.2.1 56 4) (r.2.1 56 5) (r.2.1 56 6)).bind fun s => if s.1 = true then if (s.2.1 56 3) < 0 ∨ 3 ≤ (s.2.1 56 3).toNatClampNeg then none else some (true, (z_wI (z_wI s.2 57 ((s.2.1 56 3).toNatClampNeg) ((s.2.1 47 5) - (1 : Int32))) 56 3 ((s.2.1 56 3) + (1 : Int32)))) else some (false, s.2) else some (false, r.2) else some (false, q.2)
def m_tl (w : Nat) (G : z_Mem → Int32 → Option (Unit × z_Mem)) (N : z_Mem) (a1 x3 κ : Int32) (W : Nat) : Option (Unit × z_Mem) :=
  (F_X12_readRest w (z_wI N 142 W κ) (nI W)).bind fun q =>
  (F_X12_isSign w q.2 (59 : Int32)).bind fun r =>
  (F_X12_must w r.2 (z_tb r.1)).bind fun s =>
  L_X12_readStep w G w s.2 a1 x3 (nI W)
section
variable {w : Nat} {A A1 N N1 : z_Mem} {c κ : Int32} {G : z_Mem → Int32 → Option (Unit × z_Mem)} {S d : Nat}
theorem cs_op (h3 : A.1 5 3 = c) (hc : c = 25 ∨ c = 27) (hs : A.1 47 6 < 30) (hd : A.1 56 3 < 3) (ha : F_X7_advance w A = some ((), A1)) : F_X10_readStep w A = c_op w c (rst w (z0 A1) c) := by
  unfold F_X10_readStep
  rw [h3]
  rcases hc with rfl | rfl
  · rw [if_neg (show ¬ (25 : Int32) < 20 by decide), if_neg (show ¬ (29 : Int32) < 25 by decide), if_neg (show ¬ (25 : Int32) = 26 by decide), if_pos (show (25 : Int32) = 25 from rfl), if_pos hs, if_pos hd, ha, bindS]
    rfl
  · rw [if_neg (show ¬ (27 : Int32) < 20 by decide), if_neg (show ¬ (29 : Int32) < 27 by decide), if_neg (show ¬ (27 : Int32) = 26 by decide), if_neg (show ¬ (27 : Int32) = 25 by decide), if_pos (show (27 : Int32) = 27 from rfl), if_pos hs, if_pos hd, ha, bindS]
    rfl
theorem cs_fl (h3 : A.1 5 3 = c) (hc : c = 20 ∨ c = 21 ∨ c = 22 ∨ c = 23 ∨ c = 24 ∨ c = 29) (hs : A.1 47 6 < 30) (ha : F_X7_advance w A = some ((), A1)) : F_X10_readStep w A = c_fl w c (rst w (z0 A1) c) := by
  unfold F_X10_readStep
  rw [h3]
  have f1 : ¬ c < 20 ∧ ¬ (29 : Int32) < c ∧ ¬ c = 26 ∧ ¬ c = 25 ∧ ¬ c = 27 := by
    rcases hc with rfl | rfl | rfl | rfl | rfl | rfl <;> decide
  obtain ⟨f1, f2, f3, f4, f5⟩ := f1
  rw [if_neg f1, if_neg f2, if_neg f3, if_neg f4, if_neg f5, if_pos hs, ha, bindS, if_neg f4]
  unfold rst
  rw [if_neg f4]
  by_cases g : c = 22
  · rw [if_pos g, if_pos g]
    rfl
  · rw [if_neg g, if_neg g]
    rfl
theorem cs_bad (h3 : A.1 5 3 = c) (hc : c < 20 ∨ 29 < c ∨ c = 26) : F_X10_readStep w A = (F_X7_fail w A 2).bind fun q => some (q.1, q.2) := by
  unfold F_X10_readStep
  rw [h3]
  rcases hc with g | g | g
  · rw [if_pos g]; simp only [ite_self]
  · rw [if_neg (fun x : c < 20 => absurd (Int32.lt_trans g x) (by decide)), if_pos g]; simp only [ite_self]
  · rw [g, if_neg (show ¬ (26 : Int32) < 20 by decide), if_neg (show ¬ (29 : Int32) < 26 by decide), if_pos (show (26 : Int32) = 26 from rfl)]; simp only [ite_self]
theorem cs_6 (h3 : A.1 5 3 = c) (hc : c = 20 ∨ c = 21 ∨ c = 22 ∨ c = 23 ∨ c = 24 ∨ c = 29 ∨ c = 25 ∨ c = 27) (hs : ¬ A.1 47 6 < 30) : F_X10_readStep w A = (F_X7_fail w A 6).bind fun q => some (q.1, q.2) := by
  unfold F_X10_readStep
  rw [h3]
  have f1 : ¬ c < 20 ∧ ¬ (29 : Int32) < c ∧ ¬ c = 26 := by
    rcases hc with rfl | rfl | rfl | rfl | rfl | rfl | rfl | rfl <;> decide
  obtain ⟨f1, f2, f3⟩ := f1
  rw [if_neg f1, if_neg f2, if_neg f3]
  simp only [if_neg hs, ite_self]
theorem cs_7 (h3 : A.1 5 3 = c) (hc : c = 25 ∨ c = 27) (hs : A.1 47 6 < 30) (hd : ¬ A.1 56 3 < 3) : F_X10_readStep w A = (F_X7_fail w A 7).bind fun q => some (q.1, q.2) := by
  unfold F_X10_readStep
  rw [h3]
  rcases hc with rfl | rfl
  · rw [if_neg (show ¬ (25 : Int32) < 20 by decide), if_neg (show ¬ (29 : Int32) < 25 by decide), if_neg (show ¬ (25 : Int32) = 26 by decide), if_pos (show (25 : Int32) = 25 from rfl), if_pos hs, if_neg hd]
  · rw [if_neg (show ¬ (27 : Int32) < 20 by decide), if_neg (show ¬ (29 : Int32) < 27 by decide), if_neg (show ¬ (27 : Int32) = 26 by decide), if_neg (show ¬ (27 : Int32) = 25 by decide), if_pos (show (27 : Int32) = 27 from rfl), if_pos hs, if_neg hd]
/-! the reference -/
theorem ms_op (hw : F_X12_stepWord w N = some (κ, N)) (hk : κ = 5 ∨ κ = 6) (h12 : N.1 137 12 = 0) (h25 : N.1 137 25 = nI S) (hS : S < 30) (hd : d < 3) : Fb_X12_readStep w G N (nI d) = (F_X12_advance w (z_wI N 137 25 (nI (S + 1)))).bind fun q => m_tl w G q.2 (nI d) 1 κ (1605 + 9 * S) := by
  have n30 : ¬ nI S = 30 := fun x => by have := (nI_eq (b := 30) (by omega) (by omega)).mp x; omega
  have n3 : ¬ nI d = 3 := fun x => by have := (nI_eq (b := 3) (by omega) (by omega)).mp x; omega
  have e9 : (9 : Int32) * nI S = nI (9 * S) := by rw [show (9 : Int32) = nI 9 from rfl, g_nmul]
  have eW : (1605 : Int32) + nI (9 * S) = nI (1605 + 9 * S) := n_lad 1605 _
  unfold Fb_X12_readStep m_tl
  rw [hw, bindS]
  dsimp only
  rcases hk with rfl | rfl
  · simp (maxSteps := 2000000) (decide := true) (disch := omega) only [h12, h25, n30, n3, e9, eW, nI_11, bindS, wI_row, wI_slot, wI_same, wI_2, nI_p0, false_or, nle_f, nI_cl, n_lad, n_adl, nI_add, if_true, if_false, ite_true, ite_false, ↓reduceIte]
  · simp (maxSteps := 2000000) (decide := true) (disch := omega) only [h12, h25, n30, n3, e9, eW, nI_11, bindS, wI_row, wI_slot, wI_same, wI_2, nI_p0, false_or, nle_f, nI_cl, n_lad, n_adl, nI_add, if_true, if_false, ite_true, ite_false, ↓reduceIte]
theorem ms_fl (hw : F_X12_stepWord w N = some (κ, N)) (hk : κ = 0 ∨ κ = 1 ∨ κ = 2 ∨ κ = 3 ∨ κ = 4 ∨ κ = 7) (h12 : N.1 137 12 = 0) (h25 : N.1 137 25 = nI S) (hS : S < 30) {a : Int32} : Fb_X12_readStep w G N a = (F_X12_advance w (z_wI N 137 25 (nI (S + 1)))).bind fun q => m_tl w G q.2 a 0 κ (1605 + 9 * S) := by
  have n30 : ¬ nI S = 30 := fun x => by have := (nI_eq (b := 30) (by omega) (by omega)).mp x; omega
  have e9 : (9 : Int32) * nI S = nI (9 * S) := by rw [show (9 : Int32) = nI 9 from rfl, g_nmul]
  have eW : (1605 : Int32) + nI (9 * S) = nI (1605 + 9 * S) := n_lad 1605 _
  unfold Fb_X12_readStep m_tl
  rw [hw, bindS]
  dsimp only
  have f : ¬ κ = 5 ∧ ¬ κ = 6 ∧ (0 : Int32) ≤ κ := by
    rcases hk with rfl | rfl | rfl | rfl | rfl | rfl <;> decide
  obtain ⟨f1, f2, f3⟩ := f
  simp (maxSteps := 2000000) (decide := true) (disch := omega) only [f1, f2, f3, h12, h25, n30, e9, eW, nI_11, bindS, wI_row, wI_slot, wI_same, wI_2, nI_p0, false_or, nle_f, nI_cl, n_lad, n_adl, nI_add, if_true, if_false, ite_true, ite_false, ↓reduceIte]
theorem ms_bad (hw : F_X12_stepWord w N = some (-1, N)) (ha : F_X12_amiss w N = some ((), N1)) (hb : Bn N1) {a : Int32} : Fb_X12_readStep w G N a = some ((), N1) := by
  obtain ⟨b1, b2⟩ := hb
  unfold Fb_X12_readStep
  rw [hw, bindS]
  dsimp only
  simp (maxSteps := 2000000) (decide := true) (disch := omega) only [ha, b1, b2, bindS, wI_row, wI_slot, wI_same, wI_2, nI_p0, false_or, nle_f, nI_cl, n_lad, n_adl, nI_add, if_true, if_false, ite_true, ite_false, ↓reduceIte]
theorem ms_6 (hw : F_X12_stepWord w N = some (κ, N)) (hk : κ = 0 ∨ κ = 1 ∨ κ = 2 ∨ κ = 3 ∨ κ = 4 ∨ κ = 7 ∨ κ = 5 ∨ κ = 6) (h12 : N.1 137 12 = 0) (h25 : N.1 137 25 = 30) (ha : F_X12_fail w N 6 (N.1 137 15) = some ((), N1)) (hb : Bn N1) {a : Int32} : Fb_X12_readStep w G N a = some ((), N1) := by
  obtain ⟨b1, b2⟩ := hb
  unfold Fb_X12_readStep
  rw [hw, bindS]
  dsimp only
  have f3 : (0 : Int32) ≤ κ := by
    rcases hk with rfl | rfl | rfl | rfl | rfl | rfl | rfl | rfl <;> decide
  by_cases g1 : κ = 5
  · simp (maxSteps := 2000000) (decide := true) (disch := omega) only [g1, h12, h25, ha, b1, b2, bindS, wI_row, wI_slot, wI_same, wI_2, nI_p0, false_or, nle_f, nI_cl, n_lad, n_adl, nI_add, if_true, if_false, ite_true, ite_false, ↓reduceIte]
  by_cases g2 : κ = 6
  · simp (maxSteps := 2000000) (decide := true) (disch := omega) only [g2, h12, h25, ha, b1, b2, bindS, wI_row, wI_slot, wI_same, wI_2, nI_p0, false_or, nle_f, nI_cl, n_lad, n_adl, nI_add, if_true, if_false, ite_true, ite_false, ↓reduceIte]
  simp (maxSteps := 2000000) (decide := true) (disch := omega) only [g1, g2, f3, h12, h25, ha, b1, b2, bindS, wI_row, wI_slot, wI_same, wI_2, nI_p0, false_or, nle_f, nI_cl, n_lad, n_adl, nI_add, if_true, if_false, ite_true, ite_false, ↓reduceIte]
theorem ms_7 (hw : F_X12_stepWord w N = some (κ, N)) (hk : κ = 5 ∨ κ = 6) (h12 : N.1 137 12 = 0) (h25 : N.1 137 25 = nI S) (hS : S < 30) (ha : F_X12_fail w N 7 (N.1 137 15) = some ((), N1)) (hb : Bn N1) : Fb_X12_readStep w G N 3 = some ((), N1) := by
  obtain ⟨b1, b2⟩ := hb
  have n30 : ¬ nI S = 30 := fun x => by have := (nI_eq (b := 30) (by omega) (by omega)).mp x; omega
  unfold Fb_X12_readStep
  rw [hw, bindS]
  dsimp only
  rcases hk with rfl | rfl
  · simp (maxSteps := 2000000) (decide := true) (disch := omega) only [h12, h25, n30, ha, b1, b2, bindS, wI_row, wI_slot, wI_same, wI_2, nI_p0, false_or, nle_f, nI_cl, n_lad, n_adl, nI_add, if_true, if_false, ite_true, ite_false, ↓reduceIte]
  · simp (maxSteps := 2000000) (decide := true) (disch := omega) only [h12, h25, n30, ha, b1, b2, bindS, wI_row, wI_slot, wI_same, wI_2, nI_p0, false_or, nle_f, nI_cl, n_lad, n_adl, nI_add, if_true, if_false, ite_true, ite_false, ↓reduceIte]
end
