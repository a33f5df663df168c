/-! ===== both stand well, or both have the same fault ===== -/
def Kt (A A' N N' : z_Mem) : Prop := (∀ x, x ≠ 5 → A'.1 x = A.1 x) ∧ (∀ k, k < 3 → A'.1 5 k = A.1 5 k) ∧ A'.2 = A.2 ∧ (∀ x, x ≠ 137 → N'.1 x = N.1 x) ∧ (∀ k, k < 12 ∨ 19 ≤ k → N'.1 137 k = N.1 137 k) ∧ (∀ x, x ≠ 137 → N'.2 x = N.2 x) ∧ ∀ k, k ≠ 19 → N'.2 137 k = N.2 137 k
theorem Kt_r {A N : z_Mem} : Kt A A N N := ⟨fun _ _ => rfl, fun _ _ => rfl, rfl, fun _ _ => rfl, fun _ _ => rfl, fun _ _ => rfl, fun _ _ => rfl⟩
theorem Kt_t {A B C N O Q : z_Mem} (h : Kt A B N O) (g : Kt B C O Q) : Kt A C N Q := by
  obtain ⟨h1, h2, h3, h4, h5, h6, h7⟩ := h
  obtain ⟨g1, g2, g3, g4, g5, g6, g7⟩ := g
  exact ⟨fun x hx => (g1 x hx).trans (h1 x hx), fun x hx => (g2 x hx).trans (h2 x hx), g3.trans h3, fun x hx => (g4 x hx).trans (h4 x hx), fun x hx => (g5 x hx).trans (h5 x hx), fun x hx => (g6 x hx).trans (h6 x hx), fun x hx => (g7 x hx).trans (h7 x hx)⟩
theorem Ka_t {A B N O : z_Mem} (h : Ka A B N O) : Kt A B N O := by
  obtain ⟨h1, h2, h3, h4, h5, h6, h7⟩ := h
  exact ⟨h1, fun k hk => h2 k (by omega), h3, h4, fun k hk => h5 k (by omega), h6, h7⟩
theorem Kt_f {A N : z_Mem} {a b x y : Int32} : Kt A (z_wI (z_wI A 5 7 a) 5 8 b) N (z_wI (z_wI N 137 12 x) 137 13 y) := by
  refine ⟨fun x hx => ?_, fun k hk => ?_, rfl, fun x hx => ?_, fun k hk => ?_, fun _ _ => rfl, fun _ _ => rfl⟩
  · rw [wI_row hx, wI_row hx]
  · rw [wI_rd, if_neg (by omega), wI_rd, if_neg (by omega)]
  · rw [wI_row hx, wI_row hx]
  · rw [wI_rd, if_neg (by omega), wI_rd, if_neg (by omega)]
/-- both well, at the same token -/
def Gd (A N : z_Mem) (t : Nat → Nat) (n j e : Nat) (c : Int32) : Prop := Txc A t n ∧ Txm N t n ∧ TR A N t n j e c ∧ (c = 38 ∨ j < e) ∧ A.1 5 7 = 0 ∧ A.1 5 8 = -1 ∧ N.1 137 12 = 0
/-- both have found the same fault at the same place -/
def Bd (A N : z_Mem) : Prop := ∃ v p : Nat, (1 ≤ v ∧ v ≤ 7) ∧ p ≤ 900 ∧ A.1 5 7 = nI v ∧ A.1 5 8 = nI p ∧ N.1 137 12 = nI v ∧ N.1 137 13 = nI p
def Bn (N : z_Mem) : Prop := ¬ N.1 137 12 ≤ 0 ∧ ¬ N.1 137 12 = 0
theorem Bd_n {A N : z_Mem} (h : Bd A N) : Bn N := by
  obtain ⟨v, p, hv, _, _, _, h1, _⟩ := h
  unfold Bn
  rw [h1]
  exact ⟨nle0 (by omega) (by omega), fun x => by have := (nI_eq (a := v) (b := 0) (by omega) (by omega)).mp x; omega⟩
theorem bind_u {X : Option (Unit × z_Mem)} : (X.bind fun q => some ((), q.2)) = X := by
  cases X with
  | none => rfl
  | some x => cases x; rfl
section
variable {w : Nat} {A N : z_Mem} {t : Nat → Nat} {n j e : Nat} {c : Int32}
/-! the reference, once at fault, does nothing -/
theorem b_must (h : Bn N) (a : Int32) : F_X12_must w N a = some ((), N) := by unfold F_X12_must; rw [if_neg h.1]
theorem b_count (h : Bn N) (a b : Int32) : F_X12_count w N a b = some (0, N) := by unfold F_X12_count; rw [if_neg h.2, if_neg h.2, if_neg h.1]
theorem b_fail (h : Bn N) (a b : Int32) : F_X12_fail w N a b = some ((), N) := by unfold F_X12_fail; rw [if_neg h.1]
theorem b_side (h : Bn N) : F_X12_readSide w N = some (0, N) := by unfold F_X12_readSide; rw [if_neg h.1, b_must h, bindS, if_neg (by decide)]
theorem b_behind (h : Bn N) (a b d : Int32) : F_X12_behindWord w N a b d = some (0, N) := by unfold F_X12_behindWord; rw [b_must h, bindS, b_count h, bindS]
theorem m_must1 (h : N.1 137 12 = 0) : F_X12_must w N 1 = F_X12_advance w N := by unfold F_X12_must; rw [h, if_pos (by decide), if_neg (by decide), bind_u]
theorem m_must0 (h : N.1 137 12 = 0) : F_X12_must w N 0 = F_X12_amiss w N := by unfold F_X12_must; rw [h, if_pos (by decide), if_pos rfl, bind_u]
theorem TR_b (h : TR A N t n j e c) : (N.1 137 14 = 4 ↔ c = 37) := by
  have tw := TR_w h
  obtain ⟨_, h1, h0, _, h⟩ := h
  rcases h with ⟨h, h2, _⟩ | ⟨h, h2, h3, h4, h5, h6⟩ | ⟨h, h2, _⟩ | ⟨h2, _, h⟩ | ⟨h, h2, _⟩
  · rw [h2, h]; decide
  · have b := tw h2
    rw [h2]
    refine ⟨fun x => absurd x (by decide), fun x => ?_⟩
    rw [x] at b
    exact absurd b (by decide)
  · rw [h2, h]; decide
  · rw [h2]
    rcases h with ⟨h, _⟩ | ⟨h, _⟩ | ⟨h, _⟩ | ⟨h, _⟩ <;> rw [h] <;> decide
  · rw [h2, h]; decide
/-- a fault, found at the token -/
theorem g_bd (h : Gd A N t n j e c) (v : Nat) (hv : 1 ≤ v ∧ v ≤ 7) : Bd (z_wI (z_wI A 5 7 (nI v)) 5 8 (A.1 5 4)) (z_wI (z_wI N 137 12 (nI v)) 137 13 (N.1 137 15)) := by
  obtain ⟨h1, _, ⟨⟨h2, h3, h4, h5⟩, h6, h7, _⟩, _⟩ := h
  have := h1.1
  refine ⟨v, j, hv, by omega, ?_, ?_, ?_, ?_⟩
  · rw [wI_rd, if_neg (by omega), wI_rd, if_pos ⟨rfl, rfl⟩]
  · rw [wI_rd, if_pos ⟨rfl, rfl⟩, h2]
  · rw [wI_rd, if_neg (by omega), wI_rd, if_pos ⟨rfl, rfl⟩]
  · rw [wI_rd, if_pos ⟨rfl, rfl⟩, h4]
theorem g_fail (h : Gd A N t n j e c) (v : Nat) (hv : 1 ≤ v ∧ v ≤ 7) (hc : ¬ c = 37) : ∃ A' N', F_X7_fail w A (nI v) = some (false, A') ∧ F_X12_fail w N (nI v) (N.1 137 15) = some ((), N') ∧ Bd A' N' ∧ Kt A A' N N' := by
  refine ⟨_, _, ?_, ?_, g_bd h v hv, Kt_f⟩
  · unfold F_X7_fail
    rw [h.2.2.1.2.2.2.1, if_neg hc]
  · unfold F_X12_fail
    rw [h.2.2.2.2.2.2, if_pos (by decide)]
theorem g_amiss (h : Gd A N t n j e c) : ∃ A' N', F_X7_fail w A 2 = some (false, A') ∧ F_X12_amiss w N = some ((), N') ∧ Bd A' N' ∧ Kt A A' N N' := by
  by_cases hc : c = 37
  · refine ⟨_, _, ?_, ?_, g_bd h 1 (by omega), Kt_f⟩
    · unfold F_X7_fail
      rw [h.2.2.1.2.2.2.1, if_pos hc]; rfl
    · unfold F_X12_amiss F_X12_fail
      rw [(TR_b h.2.2.1).mpr hc, if_pos rfl, h.2.2.2.2.2.2, if_pos (by decide), bind_u]; rfl
  · refine ⟨_, _, ?_, ?_, g_bd h 2 (by omega), Kt_f⟩
    · unfold F_X7_fail
      rw [h.2.2.1.2.2.2.1, if_neg hc]; rfl
    · unfold F_X12_amiss F_X12_fail
      rw [if_neg (fun x => hc ((TR_b h.2.2.1).mp x)), h.2.2.2.2.2.2, if_pos (by decide), bind_u]; rfl
theorem g_adv (hw : 10000 ≤ w) (h : Gd A N t n j e c) : ∃ A' N' j' e' c', F_X7_advance w A = some ((), A') ∧ F_X12_advance w N = some ((), N') ∧ Gd A' N' t n j' e' c' ∧ e ≤ j' ∧ Kt A A' N N' := by
  obtain ⟨h1, h2, ⟨⟨h3, h4, h5, h6⟩, h7, h8, _⟩, h9, h10, h11, h12⟩ := h
  obtain ⟨A', N', j', e', c', a1, a2, a3, a4, a5, a6, a7, a8⟩ := adv hw h1 h2 h8 h4 h6
  refine ⟨A', N', j', e', c', a1, a2, ⟨a4, a5, a3, a7, ?_, ?_, ?_⟩, a6, Ka_t a8⟩
  · rw [a8.2.1 7 (by omega), h10]
  · rw [a8.2.1 8 (by omega), h11]
  · rw [a8.2.2.2.2.1 12 (by omega), h12]
/-- a token that must stand here -/
theorem g_take (hw : 10000 ≤ w) (h : Gd A N t n j e c) (k : Int32) : ∃ A' N', F_X12_must w N (z_tb (decide (c = k))) = some ((), N') ∧ Kt A A' N N' ∧ ((c = k ∧ F_X7_take w A k = some (true, A') ∧ ∃ j' e' c', Gd A' N' t n j' e' c' ∧ e ≤ j') ∨ (¬ c = k ∧ F_X7_take w A k = some (false, A') ∧ Bd A' N')) := by
  have h3 : A.1 5 3 = c := h.2.2.1.2.2.2.1
  have h0 := h.2.2.2.2.2.2
  by_cases g : c = k
  · obtain ⟨A', N', j', e', c', a1, a2, a3, a4, a5⟩ := g_adv hw h
    refine ⟨A', N', ?_, a5, Or.inl ⟨g, ?_, j', e', c', a3, a4⟩⟩
    · rw [decide_eq_true g]
      exact (m_must1 h0).trans a2
    · unfold F_X7_take
      rw [h3, if_pos g, a1, bindS]
  · obtain ⟨A', N', a1, a2, a3, a4⟩ := g_amiss (w := w) h
    refine ⟨A', N', ?_, a4, Or.inr ⟨g, ?_, a3⟩⟩
    · rw [decide_eq_false g]
      exact (m_must0 h0).trans a2
    · unfold F_X7_take
      rw [h3, if_neg g, a1, bindS]
/-- a number -/
theorem g_num (hw : 10000 ≤ w) (h : Gd A N t n j e c) (lo hi : Nat) (hh : hi ≤ 9999) (a b : Int32) (ha : a = nI lo) (hb : b = nI hi) (hl : lo ≤ hi) : ∃ A' N', Kt A A' N N' ∧ ((∃ v, lo ≤ v ∧ v ≤ hi ∧ c = 32 ∧ A.1 5 6 = nI v ∧ F_X7_takeNumber w A a b = some (nI v, A') ∧ F_X12_count w N a b = some (nI v, N') ∧ ∃ j' e' c', Gd A' N' t n j' e' c' ∧ e ≤ j') ∨ (F_X7_takeNumber w A a b = some (-1, A') ∧ F_X12_count w N a b = some (0, N') ∧ Bd A' N')) := by
  have h3 : A.1 5 3 = c := h.2.2.1.2.2.2.1
  have h0 := h.2.2.2.2.2.2
  unfold F_X7_takeNumber F_X12_count
  by_cases g : c = 32
  · have h14 := (TR_n h.2.2.1).mpr g
    obtain ⟨v, hv, v1, v2⟩ : ∃ v, v ≤ 9999 ∧ A.1 5 6 = nI v ∧ N.1 137 17 = nI v := by
      rcases h.2.2.1.2.2.2.2 with ⟨x, h2, _⟩ | ⟨x, h2, _⟩ | ⟨x, h2, _, y⟩ | ⟨h2, _, x⟩ | ⟨x, h2, _⟩
      · rw [h2] at h14; exact absurd h14 (by decide)
      · rw [h2] at h14; exact absurd h14 (by decide)
      · exact y
      · rw [h2] at h14; exact absurd h14 (by decide)
      · rw [h2] at h14; exact absurd h14 (by decide)
    rw [h3, if_pos g, v1, h0, if_pos rfl, h14, if_pos rfl, if_pos rfl, v2, ha, hb]
    by_cases r : lo ≤ v ∧ v ≤ hi
    · obtain ⟨A', N', j', e', c', a1, a2, a3, a4, a5⟩ := g_adv hw h
      refine ⟨A', N', a5, Or.inl ⟨v, r.1, r.2, g, rfl, ?_, ?_, j', e', c', a3, a4⟩⟩
      · rw [if_neg (Int32.not_lt.mpr (nI_le r.1 (by omega))), if_pos (nI_le r.2 (by omega)), a1, bindS]
      · rw [in_t (nI lo) (nI hi) rfl rfl ⟨nI_le r.1 (by omega), nI_le r.2 (by omega)⟩, bindS, if_pos rfl]
        dsimp only
        rw [h0, if_pos (by decide), a2, bindS, v2]
    · obtain ⟨A', N', a1, a2, a3, a4⟩ := g_fail (w := w) h 4 (by omega) (by rw [g]; decide)
      refine ⟨A', N', a4, Or.inr ⟨?_, ?_, a3⟩⟩
      · rcases Nat.lt_or_ge v lo with r1 | r1
        · rw [if_pos (nI_lt r1 (by omega))]
          exact congrArg (fun X => Option.bind X _) a1
        · rw [if_neg (Int32.not_lt.mpr (nI_le r1 (by omega))), if_neg (nI_ge (by omega) (by omega))]
          exact congrArg (fun X => Option.bind X _) a1
      · have nin : ¬ (nI lo ≤ nI v ∧ nI v ≤ nI hi) := by
          rintro ⟨x, y⟩
          rcases Nat.lt_or_ge v lo with r1 | r1
          · exact nI_ge r1 (by omega) x
          · exact nI_ge (show hi < v by omega) (by omega) y
        rw [in_f (nI lo) (nI hi) rfl rfl nin, bindS, if_neg (by simp)]
        dsimp only
        rw [show F_X12_fail w N 4 (N.1 137 15) = some ((), N') from a2, bindS]
        dsimp only
        rw [if_neg (Bd_n a3).1]
  · obtain ⟨A', N', a1, a2, a3, a4⟩ := g_amiss (w := w) h
    refine ⟨A', N', a4, Or.inr ⟨?_, ?_, a3⟩⟩
    · rw [h3, if_neg g, a1, bindS]
    · rw [h0, if_pos rfl, if_neg (fun x => g ((TR_n h.2.2.1).mp x)), a2, bindS]
      dsimp only
      rw [if_neg (Bd_n a3).2, if_neg (Bd_n a3).1]
/-- a side -/
theorem g_side (hw : 10000 ≤ w) (h : Gd A N t n j e c) : ∃ A' N', Kt A A' N N' ∧ ((∃ v, v ≤ 1 ∧ F_X7_takeSide w A = some (nI v, A') ∧ F_X12_readSide w N = some (nI v, N') ∧ ∃ j' e' c', Gd A' N' t n j' e' c' ∧ e ≤ j') ∨ (F_X7_takeSide w A = some (-1, A') ∧ F_X12_readSide w N = some (0, N') ∧ Bd A' N')) := by
  have h3 : A.1 5 3 = c := h.2.2.1.2.2.2.1
  have h0 := h.2.2.2.2.2.2
  have sw := m_sideWord (w := w) h.2.2.1
  unfold F_X7_takeSide F_X7_sideHere F_X12_readSide
  rw [h3, h0, if_pos (show (0 : Int32) ≤ 0 by decide), sw, bindS]
  dsimp only
  by_cases g : c = 15
  · obtain ⟨A', N', j', e', c', a1, a2, a3, a4, a5⟩ := g_adv hw h
    refine ⟨A', N', a5, Or.inl ⟨0, by omega, ?_, ?_, j', e', c', a3, a4⟩⟩
    · rw [if_pos g, if_pos g, bindS]
      dsimp only
      rw [if_neg (by decide), a1, bindS]; rfl
    · rw [if_pos g, if_neg (by decide), m_must1 h0, a2, bindS]; rfl
  · by_cases g2 : c = 16
    · obtain ⟨A', N', j', e', c', a1, a2, a3, a4, a5⟩ := g_adv hw h
      refine ⟨A', N', a5, Or.inl ⟨1, by omega, ?_, ?_, j', e', c', a3, a4⟩⟩
      · rw [if_neg g, if_pos g2, if_neg g, bindS]
        dsimp only
        rw [if_neg (by decide), a1, bindS]; rfl
      · rw [if_neg g, if_pos g2, if_neg (by decide), m_must1 h0, a2, bindS]; rfl
    · obtain ⟨A', N', a1, a2, a3, a4⟩ := g_amiss (w := w) h
      refine ⟨A', N', a4, Or.inr ⟨?_, ?_, a3⟩⟩
      · rw [if_neg g, if_neg g2, a1, bindS, bindS, if_pos rfl]
      · rw [if_neg g, if_neg g2, if_pos (by decide), m_must0 h0, a2, bindS]; rfl
end
