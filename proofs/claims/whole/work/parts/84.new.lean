/-! ===== a new parish ===== -/
def s_0 : Nat → Int32 := fun i => if i = 5 then 8 else if i = 6 then 2 else if i = 7 then 5 else 0
def P_0 : t_P := (s_0, (0, fun _ _ => 0), (0, []), (0, (0, fun _ _ => 0), (0, fun _ _ => 0)), (false, []))
theorem VP_0 : VP P_0 := by
  refine ⟨⟨Or.inl rfl, fun k hk => Or.inl ?_, ⟨by decide, by decide⟩, ⟨by decide, by decide⟩, ⟨by decide, by decide⟩, ⟨by decide, by decide⟩, ⟨by decide, by decide⟩⟩, ⟨by decide, fun i hi => absurd hi (Nat.not_lt_zero i)⟩, ⟨by decide, fun x hx => by cases hx⟩, ⟨by decide, by decide, by decide, fun i hi => absurd hi (Nat.not_lt_zero i), fun i hi => absurd hi (Nat.not_lt_zero i)⟩, ⟨by decide, by decide, fun x => Bool.noConfusion x⟩⟩
  show s_0 (14 + k) = 0
  unfold s_0
  rw [if_neg (by omega), if_neg (by omega), if_neg (by omega)]
section
variable {w : Nat}
theorem c_new (A : z_Mem) : ∃ A', F_X3_beginAnew w A 30 = some ((), A') ∧ CP A' 30 P_0 ∧ Kc 30 A A' := by
  unfold F_X3_beginAnew F_X0_beginAnew F_X9_beginAnew F_X3_lieEver
  rw [bindS]
  dsimp only
  rw [bindS]
  dsimp only
  rw [if_neg (show ¬ (0 : Int32) = 1 by decide), bindS]
  refine ⟨_, rfl, ⟨⟨?_, ?_, ?_, ?_, ?_, ?_, ?_, ?_, ?_⟩, ⟨?_, fun i hi => absurd hi (Nat.not_lt_zero i)⟩, ⟨?_, ?_, fun i x hx => ?_⟩, ⟨?_, ?_, ?_, fun i hi => absurd hi (Nat.not_lt_zero i), fun i hi => absurd hi (Nat.not_lt_zero i)⟩, ⟨?_, ?_, ?_, fun i x hx => ?_⟩⟩, ⟨fun a ha => ?_, rfl⟩⟩
  all_goals try rfl
  · exact absurd hx (by simp [P_0])
  · exact absurd hx (by simp [P_0])
  · dsimp only
    simp (disch := omega) only [wI_row]
theorem l_emp {B : Nat} (hB : B + 375 ≤ 1875) : ∀ (m k c : Nat) (M : z_Mem), k + m = 375 → m < c → ∃ M', L_X12_empties w c M (nI B) (nI k) = some ((), M') ∧ (∀ a, a ≠ 142 → M'.1 a = M.1 a) ∧ M'.2 = M.2 ∧ ∀ i, M'.1 142 i = if i = B + 5 then 8 else if i = B + 6 then 2 else if i = B + 7 then 5 else if B + k ≤ i ∧ i < B + 375 then 0 else M.1 142 i := by
  intro m
  induction m with
  | zero =>
    intro k c M h hc
    obtain ⟨c', rfl⟩ : ∃ c', c = c' + 1 := ⟨c - 1, by omega⟩
    have hk : k = 375 := by omega
    subst hk
    refine ⟨z_wI (z_wI (z_wI M 142 (B + 5) 8) 142 (B + 6) 2) 142 (B + 7) 5, ?_, fun a ha => by rw [wI_row ha, wI_row ha, wI_row ha], rfl, fun i => ?_⟩
    · rw [L_X12_empties, if_pos (show (375 : Int32) ≤ nI 375 by decide), show nI B + (5 : Int32) = nI (B + 5) from n_adl 5 B, show nI B + (6 : Int32) = nI (B + 6) from n_adl 6 B, show nI B + (7 : Int32) = nI (B + 7) from n_adl 7 B, if_neg (nI_in (by omega) (by omega)), if_neg (nI_in (by omega) (by omega)), if_neg (nI_in (by omega) (by omega)), nI_cl (by omega), nI_cl (by omega), nI_cl (by omega)]
    · rw [wI_rd, wI_rd, wI_rd]
      simp only [true_and]
      by_cases g5 : i = B + 5
      · rw [if_neg (by omega), if_neg (by omega), if_pos g5, if_pos g5]
      · by_cases g6 : i = B + 6
        · rw [if_neg (by omega), if_pos g6, if_neg g5, if_pos g6]
        · by_cases g7 : i = B + 7
          · rw [if_pos g7, if_neg g5, if_neg g6, if_pos g7]
          · rw [if_neg g7, if_neg g6, if_neg g5, if_neg g5, if_neg g6, if_neg g7, if_neg (by omega)]
  | succ m ih =>
    intro k c M h hc
    obtain ⟨c', rfl⟩ : ∃ c', c = c' + 1 := ⟨c - 1, by omega⟩
    obtain ⟨M', h1, h2, h3, h4⟩ := ih (k + 1) c' (z_wI M 142 (B + k) 0) (by omega) (by omega)
    refine ⟨M', ?_, fun a ha => by rw [h2 a ha, wI_row ha], h3, fun i => ?_⟩
    · rw [L_X12_empties, if_neg (show ¬ (375 : Int32) ≤ nI k from nI_ge (b := 375) (by omega) (by omega)), nI_add, if_neg (nI_in (by omega) (by omega)), nI_cl (by omega), nI_1]
      exact h1
    · rw [h4, wI_rd]
      simp only [true_and]
      by_cases g : i = B + k
      · rw [if_neg (show ¬ (B + (k + 1) ≤ i ∧ i < B + 375) by omega), if_pos g, if_pos (show B + k ≤ i ∧ i < B + 375 by omega)]
      · rw [if_neg g]
        by_cases g2 : B + k ≤ i ∧ i < B + 375
        · rw [if_pos g2, if_pos (show B + (k + 1) ≤ i ∧ i < B + 375 by omega)]
        · rw [if_neg g2, if_neg (show ¬ (B + (k + 1) ≤ i ∧ i < B + 375) by omega)]
theorem m_new (hw : 10000 ≤ w) (M : z_Mem) : ∃ M', F_X12_empties w M 4 = some ((), M') ∧ BP (fun k => M'.1 142 (1500 + k)) P_0 ∧ (∀ a, a ≠ 142 → M'.1 a = M.1 a) ∧ M'.2 = M.2 ∧ ∀ i, i < 1500 → M'.1 142 i = M.1 142 i := by
  obtain ⟨M', h1, h2, h3, h4⟩ := l_emp (w := w) (B := 1500) (by omega) 375 0 w M (by omega) (by omega)
  have F : ∀ i, i < 375 → M'.1 142 (1500 + i) = s_0 i := by
    intro i hi
    rw [h4]
    unfold s_0
    by_cases g5 : i = 5
    · rw [if_pos (by omega), if_pos g5]
    · rw [if_neg (by omega), if_neg g5]
      by_cases g6 : i = 6
      · rw [if_pos (by omega), if_pos g6]
      · rw [if_neg (by omega), if_neg g6]
        by_cases g7 : i = 7
        · rw [if_pos (by omega), if_pos g7]
        · rw [if_neg (by omega), if_neg g7, if_pos (by omega)]
  refine ⟨M', h1, ⟨⟨?_, ?_, ?_, ?_, ?_, ?_, ?_, ?_, ?_, ?_, ?_, ?_, ?_, ?_⟩, ⟨?_, fun i hi => absurd hi (Nat.not_lt_zero i)⟩, ⟨?_, ?_, fun i x hx => ?_⟩, ⟨?_, ?_, ?_, fun i hi => absurd hi (Nat.not_lt_zero i), fun i hi => absurd hi (Nat.not_lt_zero i)⟩, ⟨?_, fun x => Bool.noConfusion x⟩⟩, h2, h3, fun i hi => ?_⟩
  all_goals try (exact F _ (by omega))
  · simp only [P_0] at hx; cases hx
  · rw [h4, if_neg (by omega), if_neg (by omega), if_neg (by omega), if_neg (by omega)]
end
