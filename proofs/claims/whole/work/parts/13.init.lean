/-! ===== to a place within a method ===== -/
def z_to (stop : Nat) : Nat → z_S → Nat → z_M → Nat → z_L → List Value → z_H → Option (z_L × z_H)
  | 0, _, _, _, _, _, _, _ => none
  | n + 1, X, d, m, pc, ls, st, h => if pc = stop ∧ st = [] then some (ls, h) else match z_step X m pc ls st h with
    | none => none
    | some (.inl _) => none
    | some (.inr (.inl q)) => z_to stop n X d m q.1 q.2.1 q.2.2.1 q.2.2.2
    | some (.inr (.inr q)) => match d with
      | 0 => none
      | d + 1 => match z_ev n none d (z_ms q.1) 0 (z_ent (z_ms q.1) q.2.1) [] h with
        | none => none
        | some (v, h1) => z_to stop n X (d + 1) m (pc + 3) ls (v.toList ++ q.2.2) h1
theorem z_to_ok {stop : Nat} : ∀ (n : Nat) (X : z_S) (d : Nat) (m : z_M) (pc : Nat) (ls : z_L) (st : List Value) (h : z_H) (q : z_L × z_H), z_to stop n X d m pc ls st h = some q → ∀ (k : Nat) (r : Option Value × z_H), z_ev k X d m stop q.1 [] q.2 = some r → z_ev (n + k) X d m pc ls st h = some r := by
  intro n
  induction n with
  | zero => intro X d m pc ls st h q hq; cases hq
  | succ n ih =>
    intro X d m pc ls st h q hq k r hr
    rw [z_to] at hq
    split at hq
    · rename_i hc
      cases hq
      rw [hc.1, hc.2]
      exact z_ev_le (by omega) hr
    · rw [show n + 1 + k = (n + k) + 1 by omega, z_ev]
      cases hs : z_step X m pc ls st h with
      | none => rw [hs] at hq; cases hq
      | some a =>
        rw [hs] at hq
        rcases a with a | a | a
        · cases hq
        · exact ih _ _ _ _ _ _ _ _ hq k r hr
        · cases d with
          | zero => cases hq
          | succ d =>
            dsimp only at hq ⊢
            cases hc : z_ev n none d (z_ms a.1) 0 (z_ent (z_ms a.1) a.2.1) [] h with
            | none => rw [hc] at hq; cases hq
            | some q1 =>
              rw [hc] at hq
              rw [z_ev_le (show n ≤ n + k by omega) hc]
              exact ih _ _ _ _ _ _ _ _ hq k r hr
