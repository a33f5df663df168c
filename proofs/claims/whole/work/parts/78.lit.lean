/-! ===== a literal, read by both ===== -/
def lt3 (w : Nat) (M : z_Mem) (ng : Bool) : Option (Int32 × z_Mem) :=
  if (M.1 137 12) ≤ (0 : Int32) then
  (F_X12_named w M).bind fun q =>
  if ng = true then
  (F_X12_must w q.2 (1 : Int32)).bind fun r =>
  some (q.1 + (6 : Int32), r.2)
  else
  (F_X12_must w q.2 (1 : Int32)).bind fun r =>
  some (q.1 + (0 : Int32), r.2)
  else
  (F_X12_must w M (1 : Int32)).bind fun r =>
  some ((0 : Int32), r.2)
def lt2 (w : Nat) (M : z_Mem) (ng : Bool) (a1 : Int32) : Option (Int32 × z_Mem) :=
  if a1 = (0 : Int32) then
  lt3 w M ng
  else
  (F_X12_fail w M (5 : Int32) (M.1 137 15)).bind fun q => lt3 w q.2 ng
def lt1 (w : Nat) (M : z_Mem) (ng : Bool) (a1 : Int32) : Option (Int32 × z_Mem) :=
  if (M.1 137 12) = (0 : Int32) then
  (F_X12_named w M).bind fun q =>
  if (0 : Int32) ≤ q.1 then
  lt2 w q.2 ng a1
  else
  (F_X12_fail w q.2 (3 : Int32) (q.2.1 137 15)).bind fun r => lt2 w r.2 ng a1
  else
  lt2 w M ng a1
def lt0 (w : Nat) (M : z_Mem) (ng : Bool) (a1 : Int32) : Option (Int32 × z_Mem) :=
  if (M.1 137 12) = (0 : Int32) then
  (F_X12_isName w M).bind fun q =>
  if q.1 = true then
  lt1 w q.2 ng a1
  else
  (F_X12_amiss w q.2).bind fun r => lt1 w r.2 ng a1
  else
  lt1 w M ng a1
def ltm (w : Nat) (M : z_Mem) (ng : Bool) (a1 : Int32) : Option (Int32 × z_Mem) :=
  if ng = true then
  (F_X12_must w M (1 : Int32)).bind fun q => lt0 w q.2 ng a1
  else
  lt0 w M ng a1
theorem lit_e (w : Nat) (M : z_Mem) (a1 : Int32) : F_X12_readLiteral w M a1 = (F_X12_isNot w M).bind fun q =>
    if q.1 = true then
    if a1 = (0 : Int32) then
    ltm w q.2 q.1 a1
    else
    (F_X12_fail w q.2 (5 : Int32) (q.2.1 137 15)).bind fun r => ltm w r.2 q.1 a1
    else
    ltm w q.2 q.1 a1 := rfl
theorem b_lt3 {w : Nat} {N : z_Mem} (h : Bn N) (ng : Bool) : lt3 w N ng = some (0, N) := by unfold lt3; rw [if_neg h.1, b_must h, bindS]
theorem b_lt2 {w : Nat} {N : z_Mem} (h : Bn N) (ng : Bool) (a : Int32) : lt2 w N ng a = some (0, N) := by
  unfold lt2
  by_cases g : a = 0
  · rw [if_pos g, b_lt3 h]
  · rw [if_neg g, b_fail h, bindS, b_lt3 h]
theorem b_lt1 {w : Nat} {N : z_Mem} (h : Bn N) (ng : Bool) (a : Int32) : lt1 w N ng a = some (0, N) := by unfold lt1; rw [if_neg h.2, b_lt2 h]
theorem b_lt0 {w : Nat} {N : z_Mem} (h : Bn N) (ng : Bool) (a : Int32) : lt0 w N ng a = some (0, N) := by unfold lt0; rw [if_neg h.2, b_lt1 h]
theorem b_ltm {w : Nat} {N : z_Mem} (h : Bn N) (ng : Bool) (a : Int32) : ltm w N ng a = some (0, N) := by
  unfold ltm
  by_cases g : ng = true
  · rw [if_pos g, b_must h, bindS, b_lt0 h]
  · rw [if_neg g, b_lt0 h]
section
variable {w : Nat} {A N A' N' : z_Mem} {t : Nat → Nat} {n j e : Nat} {c : Int32} {P : t_P}
theorem Bn_f (h : Bn N) : (N.1 137 12 = 0) = False ∧ (N.1 137 12 ≤ 0) = False := ⟨eq_false h.2, eq_false h.1⟩
/-- a name that must stand here: which question's -/
theorem g_name (hw : 10000 ≤ w) (h : Gd A N t n j e c) (hp : PR A N t n P) (g : c = 30) : (∃ k, k < P.2.2.2.1.1 ∧ F_X4_questionHere w A = some (nI k, A) ∧ F_X12_named w N = some (nI k, N)) ∨ (F_X4_questionHere w A = some (-1, A) ∧ F_X12_named w N = some (-1, N)) := by
  subst g
  obtain ⟨r, r1, r2, r3⟩ := f_named (w := w) h hw hp
  rcases r3 with x | ⟨k, k1, x⟩
  · subst x; exact Or.inr ⟨r1, r2⟩
  · subst x; exact Or.inl ⟨k, k1, r1, r2⟩
theorem g_lit0 (hw : 10000 ≤ w) (h : Gd A N t n j e c) (hp : PR A N t n P) : ∃ A' N', Kt A A' N N' ∧
    ((∃ k, k < P.2.2.2.1.1 ∧ F_X4_takeLiteral w A 0 = some (nI k, A') ∧ F_X12_readLiteral w N 0 = some (nI (k + (if c = 13 then 6 else 0)), N') ∧ ∃ j' e' c', Gd A' N' t n j' e' c' ∧ e ≤ j') ∨ (F_X4_takeLiteral w A 0 = some (-1, A') ∧ (∃ r, F_X12_readLiteral w N 0 = some (r, N')) ∧ Bd A' N')) := by
  have q6 := hp.2.2.1.2.2.2.1.1
  have h9 := h.1.1
  have h3 : A.1 5 3 = c := h.2.2.1.2.2.2.1
  have b0 := h.2.2.2.2.2.2
  have zle : ((0 : Int32) ≤ 0) = True := eq_true (by decide)
  have zm : ((0 : Int32) ≤ -1) = False := eq_false (by decide)
  by_cases g : c = 13
  · have i0 : F_X12_isNot w N = some (true, N) := by rw [m_isNot h.2.2.1, decide_eq_true g]
    rw [g] at h3
    obtain ⟨A1, N1, j1, e1, c1, o1, o2, o3, o4, o5⟩ := g_adv hw h
    have mm : F_X12_must w N 1 = some ((), N1) := (m_must1 b0).trans o2
    have je1 := o3.2.2.1.2.1
    have b1 := o3.2.2.2.2.2.2
    have h31 : A1.1 5 3 = c1 := o3.2.2.1.2.2.2.1
    have nm := m_isName (w := w) (by omega) o3.2.2.1
    by_cases g1 : c1 = 30
    · rw [decide_eq_true g1] at nm
      rw [g1] at h31
      rcases g_name hw o3 (PR_k hp o5) g1 with ⟨k, k1, r1, r2⟩ | ⟨r1, r2⟩
      · obtain ⟨A2, N2, j2, e2, c2, u1, u2, u3, u4, u5⟩ := g_adv hw o3
        have mm2 : F_X12_must w N1 1 = some ((), N2) := (m_must1 b1).trans u2
        have kn : (nI k = -1) = False := eq_false (nI_nm1 (by omega))
        have kp : ((0 : Int32) ≤ nI k) = True := eq_true (nI_pos' (by omega))
        refine ⟨A2, N2, Kt_t o5 u5, Or.inl ⟨k, k1, ?_, ?_, j2, e2, c2, u3, by omega⟩⟩
        · simp (maxSteps := 2000000) (decide := true) (disch := omega) only [F_X4_takeLiteral, h3, o1, h31, r1, kn, u1, bindS, wI_row, wI_slot, wI_same, wI_2, nI_p0, false_or, nle_f, nI_cl, n_lad, n_adl, nI_add, if_true, if_false, ite_true, ite_false, ↓reduceIte]
        · rw [if_pos g]
          rw [lit_e, i0, bindS]
          dsimp only
          rw [if_pos rfl, if_pos rfl, ltm, if_pos rfl, mm, bindS]
          dsimp only
          rw [lt0, b1, if_pos rfl, nm, bindS]
          dsimp only
          rw [if_pos rfl, lt1, b1, if_pos rfl, r2, bindS]
          dsimp only
          rw [if_pos (of_eq_true kp), lt2, if_pos rfl, lt3, b1, if_pos (show (0 : Int32) ≤ 0 by decide), r2, bindS]
          dsimp only
          rw [if_pos rfl, mm2, bindS]
          exact congrArg (fun x => some (x, N2)) (n_adl 6 k)
      · obtain ⟨A2, N2, a1, a2, a3, a4⟩ := g_fail (w := w) o3 3 (by omega) (by rw [g1]; decide)
        have a1' : F_X7_fail w A1 3 = some (false, A2) := a1
        have a2' : F_X12_fail w N1 3 (N1.1 137 15) = some ((), N2) := a2
        have bn := Bn_f (Bd_n a3)
        have bm := b_must (w := w) (Bd_n a3)
        refine ⟨A2, N2, Kt_t o5 a4, Or.inr ⟨?_, ⟨0, ?_⟩, a3⟩⟩
        · simp (maxSteps := 2000000) (decide := true) (disch := omega) only [F_X4_takeLiteral, h3, o1, h31, r1, a1', bindS, wI_row, wI_slot, wI_same, wI_2, nI_p0, false_or, nle_f, nI_cl, n_lad, n_adl, nI_add, if_true, if_false, ite_true, ite_false, ↓reduceIte]
        · rw [lit_e, i0, bindS]
          dsimp only
          rw [if_pos rfl, if_pos rfl, ltm, if_pos rfl, mm, bindS]
          dsimp only
          rw [lt0, b1, if_pos rfl, nm, bindS]
          dsimp only
          rw [if_pos rfl, lt1, b1, if_pos rfl, r2, bindS]
          dsimp only
          rw [if_neg (show ¬ (0 : Int32) ≤ -1 by decide), a2', bindS]
          dsimp only
          rw [b_lt2 (Bd_n a3)]
    · rw [decide_eq_false g1] at nm
      have g1' : (c1 = 30) = False := eq_false g1
      obtain ⟨A2, N2, a1, a2, a3, a4⟩ := g_amiss (w := w) o3
      have bn := Bn_f (Bd_n a3)
      have bm := b_must (w := w) (Bd_n a3)
      refine ⟨A2, N2, Kt_t o5 a4, Or.inr ⟨?_, ⟨0, ?_⟩, a3⟩⟩
      · simp (maxSteps := 2000000) (decide := true) (disch := omega) only [F_X4_takeLiteral, h3, o1, h31, g1', a1, bindS, wI_row, wI_slot, wI_same, wI_2, nI_p0, false_or, nle_f, nI_cl, n_lad, n_adl, nI_add, if_true, if_false, ite_true, ite_false, ↓reduceIte]
      · rw [lit_e, i0, bindS]
        dsimp only
        rw [if_pos rfl, if_pos rfl, ltm, if_pos rfl, mm, bindS]
        dsimp only
        rw [lt0, b1, if_pos rfl, nm, bindS]
        dsimp only
        rw [if_neg (by simp), a2, bindS]
        dsimp only
        rw [b_lt1 (Bd_n a3)]
  · have i0 : F_X12_isNot w N = some (false, N) := by rw [m_isNot h.2.2.1, decide_eq_false g]
    have g' : (c = 13) = False := eq_false g
    have nm := m_isName (w := w) (by omega) h.2.2.1
    have je1 := h.2.2.1.2.1
    by_cases g1 : c = 30
    · rw [decide_eq_true g1] at nm
      have g1' : (c = 30) = True := eq_true g1
      rcases g_name hw h hp g1 with ⟨k, k1, r1, r2⟩ | ⟨r1, r2⟩
      · obtain ⟨A2, N2, j2, e2, c2, u1, u2, u3, u4, u5⟩ := g_adv hw h
        have mm2 : F_X12_must w N 1 = some ((), N2) := (m_must1 b0).trans u2
        have kn : (nI k = -1) = False := eq_false (nI_nm1 (by omega))
        have kp : ((0 : Int32) ≤ nI k) = True := eq_true (nI_pos' (by omega))
        refine ⟨A2, N2, u5, Or.inl ⟨k, k1, ?_, ?_, j2, e2, c2, u3, u4⟩⟩
        · simp (maxSteps := 2000000) (decide := true) (disch := omega) only [F_X4_takeLiteral, h3, g', g1', r1, kn, u1, bindS, wI_row, wI_slot, wI_same, wI_2, nI_p0, false_or, nle_f, nI_cl, n_lad, n_adl, nI_add, if_true, if_false, ite_true, ite_false, ↓reduceIte]
        · rw [if_neg g]
          rw [lit_e, i0, bindS]
          dsimp only
          rw [if_neg (by simp), ltm, if_neg (by simp), lt0, b0, if_pos rfl, nm, bindS]
          dsimp only
          rw [if_pos rfl, lt1, b0, if_pos rfl, r2, bindS]
          dsimp only
          rw [if_pos (of_eq_true kp), lt2, if_pos rfl, lt3, b0, if_pos (show (0 : Int32) ≤ 0 by decide), r2, bindS]
          dsimp only
          rw [if_neg (by simp), mm2, bindS]
          exact congrArg (fun x => some (x, N2)) (n_adl 0 k)
      · obtain ⟨A2, N2, a1, a2, a3, a4⟩ := g_fail (w := w) h 3 (by omega) (by rw [g1]; decide)
        have a1' : F_X7_fail w A 3 = some (false, A2) := a1
        have a2' : F_X12_fail w N 3 (N.1 137 15) = some ((), N2) := a2
        have bn := Bn_f (Bd_n a3)
        have bm := b_must (w := w) (Bd_n a3)
        refine ⟨A2, N2, a4, Or.inr ⟨?_, ⟨0, ?_⟩, a3⟩⟩
        · simp (maxSteps := 2000000) (decide := true) (disch := omega) only [F_X4_takeLiteral, h3, g', g1', r1, a1', bindS, wI_row, wI_slot, wI_same, wI_2, nI_p0, false_or, nle_f, nI_cl, n_lad, n_adl, nI_add, if_true, if_false, ite_true, ite_false, ↓reduceIte]
        · rw [lit_e, i0, bindS]
          dsimp only
          rw [if_neg (by simp), ltm, if_neg (by simp), lt0, b0, if_pos rfl, nm, bindS]
          dsimp only
          rw [if_pos rfl, lt1, b0, if_pos rfl, r2, bindS]
          dsimp only
          rw [if_neg (show ¬ (0 : Int32) ≤ -1 by decide), a2', bindS]
          dsimp only
          rw [b_lt2 (Bd_n a3)]
    · rw [decide_eq_false g1] at nm
      have g1' : (c = 30) = False := eq_false g1
      obtain ⟨A2, N2, a1, a2, a3, a4⟩ := g_amiss (w := w) h
      have bn := Bn_f (Bd_n a3)
      have bm := b_must (w := w) (Bd_n a3)
      refine ⟨A2, N2, a4, Or.inr ⟨?_, ⟨0, ?_⟩, a3⟩⟩
      · simp (maxSteps := 2000000) (decide := true) (disch := omega) only [F_X4_takeLiteral, h3, g', g1', a1, bindS, wI_row, wI_slot, wI_same, wI_2, nI_p0, false_or, nle_f, nI_cl, n_lad, n_adl, nI_add, if_true, if_false, ite_true, ite_false, ↓reduceIte]
      · rw [lit_e, i0, bindS]
        dsimp only
        rw [if_neg (by simp), ltm, if_neg (by simp), lt0, b0, if_pos rfl, nm, bindS]
        dsimp only
        rw [if_neg (by simp), a2, bindS]
        dsimp only
        rw [b_lt1 (Bd_n a3)]
theorem g_lit1 (hw : 10000 ≤ w) (h : Gd A N t n j e c) (hp : PR A N t n P) : ∃ A' N', Kt A A' N N' ∧ F_X4_takeLiteral w A 1 = some (-1, A') ∧ (∃ r, F_X12_readLiteral w N 1 = some (r, N')) ∧ Bd A' N' := by
  have q6 := hp.2.2.1.2.2.2.1.1
  have h9 := h.1.1
  have h3 : A.1 5 3 = c := h.2.2.1.2.2.2.1
  have b0 := h.2.2.2.2.2.2
  have zle : ((0 : Int32) ≤ 0) = True := eq_true (by decide)
  have zm : ((0 : Int32) ≤ -1) = False := eq_false (by decide)
  have z1 : ((1 : Int32) = 0) = False := eq_false (by decide)
  by_cases g : c = 13
  · have i0 : F_X12_isNot w N = some (true, N) := by rw [m_isNot h.2.2.1, decide_eq_true g]
    obtain ⟨A2, N2, a1, a2, a3, a4⟩ := g_fail (w := w) h 5 (by omega) (by rw [g]; decide)
    have a1' : F_X7_fail w A 5 = some (false, A2) := a1
    have a2' : F_X12_fail w N 5 (N.1 137 15) = some ((), N2) := a2
    have bn := Bn_f (Bd_n a3)
    have bm := b_must (w := w) (Bd_n a3)
    have bf := b_fail (w := w) (Bd_n a3)
    rw [g] at h3
    refine ⟨A2, N2, a4, ?_, ⟨0, ?_⟩, a3⟩
    · simp (maxSteps := 2000000) (decide := true) (disch := omega) only [F_X4_takeLiteral, h3, z1, a1', bindS, wI_row, wI_slot, wI_same, wI_2, nI_p0, false_or, nle_f, nI_cl, n_lad, n_adl, nI_add, if_true, if_false, ite_true, ite_false, ↓reduceIte]
    · rw [lit_e, i0, bindS]
      dsimp only
      rw [if_pos rfl, if_neg (by decide), a2', bindS]
      dsimp only
      rw [b_ltm (Bd_n a3)]
  · have i0 : F_X12_isNot w N = some (false, N) := by rw [m_isNot h.2.2.1, decide_eq_false g]
    have g' : (c = 13) = False := eq_false g
    have nm := m_isName (w := w) (by omega) h.2.2.1
    have je1 := h.2.2.1.2.1
    by_cases g1 : c = 30
    · rw [decide_eq_true g1] at nm
      have g1' : (c = 30) = True := eq_true g1
      rcases g_name hw h hp g1 with ⟨k, k1, r1, r2⟩ | ⟨r1, r2⟩
      · obtain ⟨A2, N2, a1, a2, a3, a4⟩ := g_fail (w := w) h 5 (by omega) (by rw [g1]; decide)
        have a1' : F_X7_fail w A 5 = some (false, A2) := a1
        have a2' : F_X12_fail w N 5 (N.1 137 15) = some ((), N2) := a2
        have bn := Bn_f (Bd_n a3)
        have bm := b_must (w := w) (Bd_n a3)
        have kn : (nI k = -1) = False := eq_false (nI_nm1 (by omega))
        have kp : ((0 : Int32) ≤ nI k) = True := eq_true (nI_pos' (by omega))
        refine ⟨A2, N2, a4, ?_, ⟨0, ?_⟩, a3⟩
        · simp (maxSteps := 2000000) (decide := true) (disch := omega) only [F_X4_takeLiteral, h3, g', g1', r1, kn, z1, a1', bindS, wI_row, wI_slot, wI_same, wI_2, nI_p0, false_or, nle_f, nI_cl, n_lad, n_adl, nI_add, if_true, if_false, ite_true, ite_false, ↓reduceIte]
        · rw [lit_e, i0, bindS]
          dsimp only
          rw [if_neg (by simp), ltm, if_neg (by simp), lt0, b0, if_pos rfl, nm, bindS]
          dsimp only
          rw [if_pos rfl, lt1, b0, if_pos rfl, r2, bindS]
          dsimp only
          rw [if_pos (of_eq_true kp), lt2, if_neg (by decide), a2', bindS]
          dsimp only
          rw [b_lt3 (Bd_n a3)]
      · obtain ⟨A2, N2, a1, a2, a3, a4⟩ := g_fail (w := w) h 3 (by omega) (by rw [g1]; decide)
        have a1' : F_X7_fail w A 3 = some (false, A2) := a1
        have a2' : F_X12_fail w N 3 (N.1 137 15) = some ((), N2) := a2
        have bn := Bn_f (Bd_n a3)
        have bm := b_must (w := w) (Bd_n a3)
        have bf := b_fail (w := w) (Bd_n a3)
        refine ⟨A2, N2, a4, ?_, ⟨0, ?_⟩, a3⟩
        · simp (maxSteps := 2000000) (decide := true) (disch := omega) only [F_X4_takeLiteral, h3, g', g1', r1, z1, a1', bindS, wI_row, wI_slot, wI_same, wI_2, nI_p0, false_or, nle_f, nI_cl, n_lad, n_adl, nI_add, if_true, if_false, ite_true, ite_false, ↓reduceIte]
        · rw [lit_e, i0, bindS]
          dsimp only
          rw [if_neg (by simp), ltm, if_neg (by simp), lt0, b0, if_pos rfl, nm, bindS]
          dsimp only
          rw [if_pos rfl, lt1, b0, if_pos rfl, r2, bindS]
          dsimp only
          rw [if_neg (show ¬ (0 : Int32) ≤ -1 by decide), a2', bindS]
          dsimp only
          rw [b_lt2 (Bd_n a3)]
    · rw [decide_eq_false g1] at nm
      have g1' : (c = 30) = False := eq_false g1
      obtain ⟨A2, N2, a1, a2, a3, a4⟩ := g_amiss (w := w) h
      have bn := Bn_f (Bd_n a3)
      have bm := b_must (w := w) (Bd_n a3)
      have bf := b_fail (w := w) (Bd_n a3)
      refine ⟨A2, N2, a4, ?_, ⟨0, ?_⟩, a3⟩
      · simp (maxSteps := 2000000) (decide := true) (disch := omega) only [F_X4_takeLiteral, h3, g', g1', a1, bindS, wI_row, wI_slot, wI_same, wI_2, nI_p0, false_or, nle_f, nI_cl, n_lad, n_adl, nI_add, if_true, if_false, ite_true, ite_false, ↓reduceIte]
      · rw [lit_e, i0, bindS]
        dsimp only
        rw [if_neg (by simp), ltm, if_neg (by simp), lt0, b0, if_pos rfl, nm, bindS]
        dsimp only
        rw [if_neg (by simp), a2, bindS]
        dsimp only
        rw [b_lt1 (Bd_n a3)]
end
