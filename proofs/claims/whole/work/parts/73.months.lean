/-! ===== months of a right, read by both ===== -/
def tcn (n : Nat) : Nat → Nat
  | 0 => 0
  | k + 1 => tcn n k + (if n.testBit k = true then 1 else 0)
theorem tcn_le (n : Nat) : ∀ k, tcn n k ≤ k := by
  intro k
  induction k with
  | zero => exact Nat.le_refl _
  | succ k ih => rw [tcn]; split <;> omega
theorem tcn_z : ∀ k, tcn 0 k = 0 := by
  intro k
  induction k with
  | zero => rfl
  | succ k ih => rw [tcn, ih, Nat.zero_testBit]; rfl
theorem tcn_or {n m : Nat} (h : n.testBit m = false) : ∀ k, tcn (n ||| 2 ^ m) k = tcn n k + (if m < k then 1 else 0) := by
  intro k
  induction k with
  | zero => rw [if_neg (by omega)]; rfl
  | succ k ih =>
    rw [tcn, tcn, ih, Nat.testBit_or, Nat.testBit_two_pow]
    by_cases g : m = k
    · subst g
      simp [h]
    · have e : (m < k + 1) ↔ (m < k) := by omega
      rw [decide_eq_false g, Bool.or_false]
      simp only [e]
      omega
theorem or_4096 {n m : Nat} (hn : n < 4096) (hm : m < 12) : n ||| 2 ^ m < 4096 := Nat.or_lt_two_pow (n := 12) hn (Nat.pow_lt_pow_right (by omega) hm)
section
variable {w : Nat} {t : Nat → Nat} {n : Nat}
/-- the reference's loop, once at fault -/
theorem bl_right {N : z_Mem} (h : Bn N) (c : Nat) (m s kd z u x : Int32) : L_X12_readRight w (c + 1) N m s kd z u x = some ((), N) := by
  rw [L_X12_readRight, if_neg h.2, if_neg h.2]
theorem lw_m1 (hw : 10000 ≤ w) (m s kd z u : Int32) (X c c' : Nat) (A N : z_Mem) (j e : Nat) (cc : Int32) (hX : X < 4096) (hc : 2 ≤ c) (hc' : 2 ≤ c') (h : Gd A N t n j e cc)
    (ih : ∀ (A' N' : z_Mem) (j' e' : Nat) (cc' : Int32) (v : Nat), v < 12 → X.testBit v = false → Gd A' N' t n j' e' cc' → ∃ A'' N1, Kt A' A'' N' N1 ∧
      ((∃ Y, Y < 4096 ∧ L_X4_takeMonths w (c - 1) A' (nI (X ||| 2 ^ v)) (nI (tcn X 12 + 1)) = some (nI Y, A'') ∧ L_X12_readRight w (c' - 1) N' m s kd z u (nI (X ||| 2 ^ v)) = ((F_X12_grants w N1 4 m s kd z u (nI Y)).bind fun q => some ((), q.2)) ∧ ∃ j'' e'' c'', Gd A'' N1 t n j'' e'' c'' ∧ j' ≤ j'') ∨
       (L_X4_takeMonths w (c - 1) A' (nI (X ||| 2 ^ v)) (nI (tcn X 12 + 1)) = some (-1, A'') ∧ L_X12_readRight w (c' - 1) N' m s kd z u (nI (X ||| 2 ^ v)) = some ((), N1) ∧ Bd A'' N1))) :
    ∃ A' N1, Kt A A' N N1 ∧
    ((∃ Y, Y < 4096 ∧ L_X4_takeMonths w c A (nI X) (nI (tcn X 12)) = some (nI Y, A') ∧ L_X12_readRight w c' N m s kd z u (nI X) = ((F_X12_grants w N1 4 m s kd z u (nI Y)).bind fun q => some ((), q.2)) ∧ ∃ j' e' c'', Gd A' N1 t n j' e' c'' ∧ j ≤ j') ∨
     (L_X4_takeMonths w c A (nI X) (nI (tcn X 12)) = some (-1, A') ∧ L_X12_readRight w c' N m s kd z u (nI X) = some ((), N1) ∧ Bd A' N1)) := by
  obtain ⟨c0, rfl⟩ : ∃ c0, c = c0 + 1 := ⟨c - 1, by omega⟩
  obtain ⟨c1, rfl⟩ : ∃ c1, c' = c1 + 1 + 1 := ⟨c' - 2, by omega⟩
  rw [show c0 + 1 - 1 = c0 by omega, show c1 + 1 + 1 - 1 = c1 + 1 by omega] at ih
  have h3 : A.1 5 3 = cc := h.2.2.1.2.2.2.1
  have h0 := h.2.2.2.2.2.2
  have je := h.2.2.1.2.1
  have tl := tcn_le X 12
  rw [L_X4_takeMonths, L_X12_readRight, if_neg (show ¬ (12 : Int32) < nI (tcn X 12) from Int32.not_lt.mpr (nI_le (b := 12) (by omega) (by omega))), h3, h0, if_pos rfl, if_pos rfl]
  by_cases g : cc = 32
  · have h14 := (TR_n h.2.2.1).mpr g
    obtain ⟨v, hv, v1, v2⟩ : ∃ v, v ≤ 9999 ∧ A.1 5 6 = nI v ∧ N.1 137 17 = nI v := by
      rcases h.2.2.1.2.2.2.2 with ⟨x, h2, _⟩ | ⟨x, h2, _⟩ | ⟨x, h2, _, y⟩ | ⟨h2, _, x⟩ | ⟨x, h2, _⟩
      · rw [h2] at h14; exact absurd h14 (by decide)
      · rw [h2] at h14; exact absurd h14 (by decide)
      · exact y
      · rw [h2] at h14; exact absurd h14 (by decide)
      · rw [h2] at h14; exact absurd h14 (by decide)
    rw [if_pos g, h14, if_pos rfl, v1, v2]
    obtain ⟨A2, N2, q1, q2⟩ := g_num hw h 0 11 (by omega) 0 11 rfl rfl (by omega)
    by_cases gv : v < 12
    · rw [if_neg (show ¬ (12 : Int32) ≤ nI v from nI_ge (b := 12) gv (by omega)), in_t (w := w) (M := N) (a := nI v) (B := 0) (C := 11) 0 11 rfl rfl ⟨nI_pos' (by omega), nI_le (b := 11) (by omega) (by omega)⟩, bindS, if_pos rfl]
      dsimp only
      rw [v2, f_has12, bindS]
      dsimp only
      by_cases gb : X.testBit v = true
      · obtain ⟨A', N', a1, a2, a3, a4⟩ := g_fail (w := w) h 5 (by omega) (by rw [g]; decide)
        refine ⟨A', N', a4, Or.inr ⟨?_, ?_, a3⟩⟩
        · rw [if_pos ((bit_n (by omega)).mpr gb), show F_X7_fail w A 5 = some (false, A') from a1, bindS]
        · rw [if_pos (decide_eq_true ((bit_n (by omega)).mpr gb)), show F_X12_fail w N 5 (N.1 137 15) = some ((), N') from a2, bindS]
          dsimp only
          rw [b_count (Bd_n a3), bindS]
          dsimp only
          rw [if_neg (Bd_n a3).2, bl_right (Bd_n a3)]
      · rw [if_neg (fun x => gb ((bit_n (by omega)).mp x)), if_neg (by rw [decide_eq_true_iff]; exact fun x => gb ((bit_n (by omega)).mp x))]
        rcases q2 with ⟨v', _, _, _, q0, q3, q4, j2, e2, c2, q5, q6⟩ | ⟨q3, q4, q5⟩
        · have vv : v' = v := by
            rw [v1] at q0
            exact ((nI_eq (by omega) (by omega)).mp q0).symm
          subst vv
          have eo : nI X ||| ((1 : Int32) <<< (nI v' &&& 31)) = nI (X ||| 2 ^ v') := by rw [n_pow2 (by omega), n_or]
          rw [q3, bindS, q4, bindS]
          dsimp only
          rw [if_neg (nI_nm1 (by omega)), q5.2.2.2.2.2.2, if_pos rfl, eo, nI_1]
          obtain ⟨A3, N3, r1, r2⟩ := ih A2 N2 j2 e2 c2 v' gv (by simpa using gb) q5
          refine ⟨A3, N3, Kt_t q1 r1, ?_⟩
          rcases r2 with ⟨Y, y1, y2, y3, j3, e3, c3, y4, y5⟩ | r2
          · exact Or.inl ⟨Y, y1, y2, y3, j3, e3, c3, y4, by omega⟩
          · exact Or.inr r2
        · refine ⟨A2, N2, q1, Or.inr ⟨?_, ?_, q5⟩⟩
          · rw [q3, bindS, if_pos rfl]
          · rw [q4, bindS]
            dsimp only
            rw [if_neg (Bd_n q5).2, bl_right (Bd_n q5)]
    · rw [if_pos (show (12 : Int32) ≤ nI v from nI_le (a := 12) (by omega) (by omega)), in_f (w := w) (M := N) (a := nI v) (B := 0) (C := 11) 0 11 rfl rfl (fun x => nI_ge (a := 11) (b := v) (by omega) (by omega) x.2), bindS, if_neg (by simp)]
      dsimp only
      rcases q2 with ⟨v', _, x2, _, q0, _⟩ | ⟨q3, q4, q5⟩
      · exfalso
        rw [v1] at q0
        have := (nI_eq (by omega) (by omega)).mp q0
        omega
      · refine ⟨A2, N2, q1, Or.inr ⟨?_, ?_, q5⟩⟩
        · rw [q3, bindS, if_pos rfl]
        · rw [q4, bindS]
          dsimp only
          rw [if_neg (Bd_n q5).2, bl_right (Bd_n q5)]
  · refine ⟨A, N, Kt_r, Or.inl ⟨X, hX, ?_, ?_, j, e, cc, h, Nat.le_refl _⟩⟩
    · rw [if_neg g]
    · rw [if_neg (fun x => g ((TR_n h.2.2.1).mp x))]
theorem lw_months (hw : 10000 ≤ w) (m s kd z u : Int32) : ∀ (d X c c' : Nat) (A N : z_Mem) (j e : Nat) (cc : Int32), d + tcn X 12 = 12 → X < 4096 → d + 2 ≤ c → d + 2 ≤ c' → Gd A N t n j e cc → ∃ A' N1, Kt A A' N N1 ∧
    ((∃ Y, Y < 4096 ∧ L_X4_takeMonths w c A (nI X) (nI (tcn X 12)) = some (nI Y, A') ∧ L_X12_readRight w c' N m s kd z u (nI X) = ((F_X12_grants w N1 4 m s kd z u (nI Y)).bind fun q => some ((), q.2)) ∧ ∃ j' e' c'', Gd A' N1 t n j' e' c'' ∧ j ≤ j') ∨
     (L_X4_takeMonths w c A (nI X) (nI (tcn X 12)) = some (-1, A') ∧ L_X12_readRight w c' N m s kd z u (nI X) = some ((), N1) ∧ Bd A' N1)) := by
  intro d
  induction d with
  | zero =>
    intro X c c' A N j e cc hd hX hc hc' h
    exact lw_m1 hw m s kd z u X c c' A N j e cc hX hc hc' h (fun A' N' j' e' cc' v hv hb h' => by
      have := tcn_or hb 12
      rw [if_pos hv] at this
      have := tcn_le (X ||| 2 ^ v) 12
      omega)
  | succ d ih =>
    intro X c c' A N j e cc hd hX hc hc' h
    exact lw_m1 hw m s kd z u X c c' A N j e cc hX (by omega) (by omega) h (fun A' N' j' e' cc' v hv hb h' => by
      have q := tcn_or hb 12
      rw [if_pos hv] at q
      have := ih (X ||| 2 ^ v) (c - 1) (c' - 1) A' N' j' e' cc' (by omega) (or_4096 hX hv) (by omega) (by omega) h'
      rw [q] at this
      exact this)
end
