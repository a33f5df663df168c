/-! ===== years: rows as they are read ===== -/
def nf (R : Nat → t_Y) : Nat → Nat
  | 0 => 0
  | i + 1 => if (R i).1 = 28 then nf R i else nf R i + 1
def df (R : Nat → t_Y) : Nat → Nat
  | 0 => 0
  | i + 1 => if (R i).1 = 25 ∨ (R i).1 = 27 then df R i + 1 else if (R i).1 = 28 then df R i - 1 else df R i
theorem nf_s (R : Nat → t_Y) (i : Nat) : nf R (i + 1) = if (R i).1 = 28 then nf R i else nf R i + 1 := rfl
theorem df_s (R : Nat → t_Y) (i : Nat) : df R (i + 1) = if (R i).1 = 25 ∨ (R i).1 = 27 then df R i + 1 else if (R i).1 = 28 then df R i - 1 else df R i := rfl
theorem nf_of {R R' : Nat → t_Y} {b : Nat} (h : ∀ i, i < b → (R' i).1 = (R i).1) : ∀ i, i ≤ b → nf R' i = nf R i := by
  intro i
  induction i with
  | zero => intro _; rfl
  | succ i ih => intro hi; rw [nf_s, nf_s, h i (by omega), ih (by omega)]
theorem df_of {R R' : Nat → t_Y} {b : Nat} (h : ∀ i, i < b → (R' i).1 = (R i).1) : ∀ i, i ≤ b → df R' i = df R i := by
  intro i
  induction i with
  | zero => intro _; rfl
  | succ i ih => intro hi; rw [df_s, df_s, h i (by omega), ih (by omega)]
theorem nf_le (R : Nat → t_Y) : ∀ d a, nf R a ≤ nf R (a + d) := by
  intro d
  induction d with
  | zero => intro a; exact Nat.le_refl _
  | succ d ih =>
    intro a
    have := ih a
    rw [show a + (d + 1) = (a + d) + 1 by omega, nf_s]
    split <;> omega
theorem nf_mo (R : Nat → t_Y) {a b : Nat} (h : a ≤ b) : nf R a ≤ nf R b := by
  have := nf_le R (b - a) a
  rw [show a + (b - a) = b by omega] at this
  exact this
def wfr (R : Nat → t_Y) : Nat → Nat → Nat → Prop
  | 0, a, b => a = b
  | n + 1, a, b => a = b ∨ (a < b ∧ y_arg (R a) ∧ ¬ (R a).1 = 28 ∧
      (if (R a).1 = 25 ∨ (R a).1 = 27 then (R (R a).2.2.2.2).1 = 28 ∧ (R (R a).2.2.2.2).2.2.2.2 = a ∧ a < (R a).2.2.2.2 ∧ (R a).2.2.2.2 < b ∧ wfr R n (a + 1) (R a).2.2.2.2 ∧ wfr R n ((R a).2.2.2.2 + 1) b
       else wfr R n (a + 1) b))
theorem wfr_ab {R : Nat → t_Y} {n a b : Nat} (h : wfr R n a b) : a ≤ b := by
  cases n with
  | zero => exact Nat.le_of_eq h
  | succ n =>
    rcases h with h | h
    · omega
    · exact Nat.le_of_lt h.1
theorem wfr_1 {R : Nat → t_Y} : ∀ (n a b : Nat), wfr R n a b → wfr R (n + 1) a b := by
  intro n
  induction n with
  | zero => intro a b h; exact Or.inl h
  | succ n ih =>
    intro a b h
    rcases h with h | ⟨h1, h2, h3, h4⟩
    · exact Or.inl h
    · refine Or.inr ⟨h1, h2, h3, ?_⟩
      by_cases g : (R a).1 = 25 ∨ (R a).1 = 27
      · rw [if_pos g] at h4 ⊢
        obtain ⟨k1, k2, k3, k4, k5, k6⟩ := h4
        exact ⟨k1, k2, k3, k4, ih _ _ k5, ih _ _ k6⟩
      · rw [if_neg g] at h4 ⊢
        exact ih _ _ h4
theorem wfr_le {R : Nat → t_Y} {n a b : Nat} (h : wfr R n a b) : ∀ m, wfr R (n + m) a b := by
  intro m
  induction m with
  | zero => exact h
  | succ m ih => exact wfr_1 _ _ _ ih
theorem wfr_app {R : Nat → t_Y} {m b c : Nat} (k : wfr R m b c) : ∀ (n a : Nat), wfr R n a b → wfr R (n + m) a c := by
  have bc := wfr_ab k
  intro n
  induction n with
  | zero =>
    intro a h
    have h : a = b := h
    subst h
    rw [Nat.zero_add]; exact k
  | succ n ih =>
    intro a h
    rw [show n + 1 + m = (n + m) + 1 by omega]
    rcases h with h | ⟨h1, h2, h3, h4⟩
    · subst h
      have := wfr_le k (n + 1)
      rw [show m + (n + 1) = n + m + 1 by omega] at this
      exact this
    · refine Or.inr ⟨by omega, h2, h3, ?_⟩
      by_cases g : (R a).1 = 25 ∨ (R a).1 = 27
      · rw [if_pos g] at h4 ⊢
        obtain ⟨k1, k2, k3, k4, k5, k6⟩ := h4
        exact ⟨k1, k2, k3, by omega, wfr_le k5 m, ih _ k6⟩
      · rw [if_neg g] at h4 ⊢
        exact ih _ h4
theorem wfr_of {R R' : Nat → t_Y} : ∀ (n a b : Nat), (∀ i, a ≤ i → i < b → R' i = R i) → wfr R n a b → wfr R' n a b := by
  intro n
  induction n with
  | zero => intro a b _ h; exact h
  | succ n ih =>
    intro a b e h
    rcases h with h | ⟨h1, h2, h3, h4⟩
    · exact Or.inl h
    · have ea := e a (Nat.le_refl a) h1
      refine Or.inr ⟨h1, by rw [ea]; exact h2, by rw [ea]; exact h3, ?_⟩
      rw [ea]
      by_cases g : (R a).1 = 25 ∨ (R a).1 = 27
      · rw [if_pos g] at h4 ⊢
        obtain ⟨k1, k2, k3, k4, k5, k6⟩ := h4
        have ep := e (R a).2.2.2.2 (by omega) k4
        exact ⟨by rw [ep]; exact k1, by rw [ep]; exact k2, k3, k4, ih _ _ (fun i x y => e i (by omega) (by omega)) k5, ih _ _ (fun i x y => e i (by omega) (by omega)) k6⟩
      · rw [if_neg g] at h4 ⊢
        exact ih _ _ (fun i x y => e i (by omega) y) h4
/-! as a list -/
def yl (R : Nat → t_Y) (L : Nat) : List t_Y := (List.range L).map R
theorem yl_at {R : Nat → t_Y} {L i : Nat} (h : i < L) : (yl R L)[i]? = some (R i) := by
  unfold yl; rw [List.getElem?_map, List.getElem?_range h]; rfl
theorem yl_n {R : Nat → t_Y} {L i : Nat} (h : L ≤ i) : (yl R L)[i]? = none := by
  unfold yl; rw [List.getElem?_eq_none]; simpa using h
theorem yl_len {R : Nat → t_Y} {L : Nat} : (yl R L).length = L := by unfold yl; simp
theorem yl_some {R : Nat → t_Y} {L i : Nat} {r : t_Y} (h : (yl R L)[i]? = some r) : i < L ∧ r = R i := by
  rcases Nat.lt_or_ge i L with g | g
  · rw [yl_at g] at h
    exact ⟨g, (Option.some.inj h).symm⟩
  · rw [yl_n g] at h; cases h
theorem yl_no {R : Nat → t_Y} {L : Nat} : ∀ i, i ≤ L → y_no (yl R L) i = nf R i := by
  intro i
  induction i with
  | zero => intro _; exact no_0 _
  | succ i ih => intro h; rw [no_s (yl_at (R := R) (L := L) (by omega)), ih (by omega), nf_s]
theorem yl_steps {R : Nat → t_Y} {L : Nat} : y_steps (yl R L) = nf R L := by
  rw [← no_l, yl_len, yl_no L (Nat.le_refl L)]
theorem yl_dep {R : Nat → t_Y} {L : Nat} (h : ∀ i, i ≤ L → df R i ≤ 3) : ∀ i, y_dep (yl R L) i ≤ 3 := by
  have k1 : ∀ i, i ≤ L → y_dep (yl R L) i = df R i := by
    intro i
    induction i with
    | zero => intro _; rfl
    | succ i ih =>
      intro g
      rw [y_dep, yl_at (R := R) (L := L) (by omega), df_s, ← ih (by omega)]
  have k2 : ∀ d, y_dep (yl R L) (L + d) ≤ 3 := by
    intro d
    induction d with
    | zero => rw [Nat.add_zero, k1 L (Nat.le_refl L)]; exact h L (Nat.le_refl L)
    | succ d ih => rw [show L + (d + 1) = (L + d) + 1 by omega, y_dep, yl_n (by omega)]; exact ih
  intro i
  rcases Nat.lt_or_ge i L with g | g
  · rw [k1 i (by omega)]; exact h i (by omega)
  · have := k2 (i - L)
    rw [show L + (i - L) = i by omega] at this
    exact this
theorem yl_wf {R : Nat → t_Y} {L : Nat} : ∀ (n a b : Nat), b ≤ L → wfr R n a b → y_wf (yl R L) n a b := by
  intro n
  induction n with
  | zero => intro a b _ h; exact h
  | succ n ih =>
    intro a b hb h
    rcases h with h | ⟨h1, h2, h3, h4⟩
    · exact Or.inl h
    · refine Or.inr ⟨h1, R a, yl_at (by omega), h2, h3, ?_⟩
      by_cases g : (R a).1 = 25 ∨ (R a).1 = 27
      · rw [if_pos g] at h4 ⊢
        obtain ⟨k1, k2, k3, k4, k5, k6⟩ := h4
        exact ⟨R (R a).2.2.2.2, yl_at (by omega), k1, k2, k3, k4, ih _ _ (by omega) k5, ih _ _ hb k6⟩
      · rw [if_neg g] at h4 ⊢
        exact ih _ _ hb h4
/-! a row in the reference -/
def BF (f : Nat → Int32) (R : Nat → t_Y) (i : Nat) : Prop :=
  f (105 + 9 * nf R i) = y_kind (R i).1 ∧ f (113 + 9 * nf R i) = nI (nf R (y_next i (R i))) ∧
  ((R i).1 = 25 → f (110 + 9 * nf R i) = y_test (R i).2.1 ∧ f (106 + 9 * nf R i) = (R i).2.2.1 ∧ (y_test (R i).2.1 = 1 → f (111 + 9 * nf R i) = (R i).2.2.2.1 ∧ f (112 + 9 * nf R i) = y_sign (R i).2.1)) ∧
  (¬ (R i).1 = 25 → f (106 + 9 * nf R i) = (R i).2.1 ∨ (R i).1 = 24 ∨ (R i).1 = 29) ∧ ((R i).1 = 21 ∨ (R i).1 = 22 → f (107 + 9 * nf R i) = (R i).2.2.1) ∧ ((R i).1 = 22 → f (108 + 9 * nf R i) = (R i).2.2.2.1)
theorem BF_of {f f' : Nat → Int32} {R R' : Nat → t_Y} {i : Nat} (h : BF f R i) (e1 : R' i = R i) (e2 : nf R' i = nf R i) (e3 : nf R' (y_next i (R i)) = nf R (y_next i (R i))) (e4 : ∀ k, k < 9 → f' (105 + 9 * nf R i + k) = f (105 + 9 * nf R i + k)) : BF f' R' i := by
  have g : ∀ k, k < 9 → f' (105 + k + 9 * nf R i) = f (105 + k + 9 * nf R i) := fun k hk => by
    have := e4 k hk
    rw [show 105 + 9 * nf R i + k = 105 + k + 9 * nf R i by omega] at this
    exact this
  unfold BF at h ⊢
  rw [e1, e2, e3, show f' (105 + 9 * nf R i) = f (105 + 9 * nf R i) from g 0 (by omega), show f' (106 + 9 * nf R i) = f (106 + 9 * nf R i) from g 1 (by omega), show f' (107 + 9 * nf R i) = f (107 + 9 * nf R i) from g 2 (by omega), show f' (108 + 9 * nf R i) = f (108 + 9 * nf R i) from g 3 (by omega), show f' (110 + 9 * nf R i) = f (110 + 9 * nf R i) from g 5 (by omega), show f' (111 + 9 * nf R i) = f (111 + 9 * nf R i) from g 6 (by omega), show f' (112 + 9 * nf R i) = f (112 + 9 * nf R i) from g 7 (by omega), show f' (113 + 9 * nf R i) = f (113 + 9 * nf R i) from g 8 (by omega)]
  exact h
theorem BF_y {f : Nat → Int32} {R : Nat → t_Y} {L i : Nat} (hi : i < L) (h : BF f R i) (hn : y_next i (R i) ≤ L) : BYr f (yl R L) i (R i) := by
  unfold BYr
  rw [yl_no i (by omega), yl_no _ hn]
  exact h
/-! the class's rows -/
def Rw (A : z_Mem) : Nat → t_Y := fun i => (A.1 48 i, A.1 49 i, A.1 50 i, A.1 51 i, (A.1 52 i).toNatClampNeg)
theorem Rw_of {A A' : z_Mem} (h : ∀ x, 48 ≤ x → x < 53 → A'.1 x = A.1 x) : Rw A' = Rw A := by
  unfold Rw
  rw [h 48 (by omega) (by omega), h 49 (by omega) (by omega), h 50 (by omega) (by omega), h 51 (by omega) (by omega), h 52 (by omega) (by omega)]
/-- rows a to b are whole steps, and the reference has them -/
def Sg (A N : z_Mem) (a b : Nat) : Prop := wfr (Rw A) (b - a) a b ∧ (∀ i, a ≤ i → i < b → ¬ (Rw A i).1 = 28 → BF (fun k => N.1 142 (1500 + k)) (Rw A) i ∧ y_next i (Rw A i) ≤ b) ∧ ∀ i, a ≤ i → i ≤ b → df (Rw A) i ≤ 3
section
variable {w : Nat} {A N A' N' : z_Mem} {a b c L S d : Nat}
theorem Sg_0 (h : df (Rw A) a ≤ 3) : Sg A N a a := by
  refine ⟨?_, fun i h1 h2 => by omega, fun i h1 h2 => ?_⟩
  · rw [Nat.sub_self]; rfl
  · rw [show i = a by omega]; exact h
theorem Sg_app (h : Sg A N a b) (g : Sg A N b c) : Sg A N a c := by
  have ab := wfr_ab h.1
  have bc := wfr_ab g.1
  refine ⟨?_, fun i h1 h2 h3 => ?_, fun i h1 h2 => ?_⟩
  · have := wfr_app g.1 _ _ h.1
    rw [show b - a + (c - b) = c - a by omega] at this
    exact this
  · rcases Nat.lt_or_ge i b with x | x
    · have := h.2.1 i h1 x h3
      exact ⟨this.1, by omega⟩
    · exact g.2.1 i x h2 h3
  · rcases Nat.lt_or_ge i b with x | x
    · exact h.2.2 i h1 (by omega)
    · exact g.2.2 i x h2
theorem Sg_of (h : Sg A N a b) (k1 : ∀ i, i < b → (Rw A' i).1 = (Rw A i).1) (k2 : ∀ i, a ≤ i → i < b → Rw A' i = Rw A i) (k3 : ∀ k, 1605 + 9 * nf (Rw A) a ≤ k → k < 1605 + 9 * nf (Rw A) b → N'.1 142 k = N.1 142 k) : Sg A' N' a b := by
  refine ⟨wfr_of _ _ _ k2 h.1, fun i h1 h2 h3 => ?_, fun i h1 h2 => ?_⟩
  · have e := k2 i h1 h2
    rw [e] at h3
    obtain ⟨g1, g2⟩ := h.2.1 i h1 h2 h3
    have m1 := nf_mo (Rw A) h1
    have m2 := nf_mo (Rw A) (show i + 1 ≤ b by omega)
    rw [nf_s, if_neg h3] at m2
    refine ⟨BF_of g1 e (nf_of k1 i (by omega)) (nf_of k1 _ g2) (fun k hk => k3 _ (by omega) (by omega)), by rw [e]; exact g2⟩
  · rw [df_of k1 i h2]; exact h.2.2 i h1 h2
/-- one step that holds no others -/
theorem Sg_1 (h1 : y_arg (Rw A L)) (h2 : ¬ (Rw A L).1 = 28) (h3 : ¬ ((Rw A L).1 = 25 ∨ (Rw A L).1 = 27)) (h4 : BF (fun k => N.1 142 (1500 + k)) (Rw A) L) (h5 : df (Rw A) L ≤ 3) : Sg A N L (L + 1) := by
  refine ⟨?_, fun i x y z => ?_, fun i x y => ?_⟩
  · rw [show L + 1 - L = 0 + 1 by omega]
    refine Or.inr ⟨by omega, h1, h2, ?_⟩
    rw [if_neg h3]; rfl
  · rw [show i = L by omega]
    refine ⟨h4, ?_⟩
    unfold y_next
    rw [if_neg h3]; omega
  · rcases (show i = L ∨ i = L + 1 by omega) with e | e
    · rw [e]; exact h5
    · rw [e, df_s, if_neg h3, if_neg h2]; exact h5
/-- a step that holds others -/
theorem Sg_b {p : Nat} (h1 : y_arg (Rw A L)) (h3 : (Rw A L).1 = 25 ∨ (Rw A L).1 = 27) (hp : (Rw A L).2.2.2.2 = p) (hp1 : (Rw A p).1 = 28) (hp2 : (Rw A p).2.2.2.2 = L) (h4 : BF (fun k => N.1 142 (1500 + k)) (Rw A) L) (h5 : df (Rw A) L ≤ 3) (g : Sg A N (L + 1) p) : Sg A N L (p + 1) := by
  have lp := wfr_ab g.1
  have h2 : ¬ (Rw A L).1 = 28 := by rcases h3 with e | e <;> rw [e] <;> decide
  have dp := g.2.2 p lp (Nat.le_refl p)
  refine ⟨?_, fun i x y z => ?_, fun i x y => ?_⟩
  · rw [show p + 1 - L = (p - (L + 1) + 1) + 1 by omega]
    refine Or.inr ⟨by omega, h1, h2, ?_⟩
    rw [if_pos h3, hp]
    exact ⟨hp1, hp2, by omega, by omega, wfr_1 _ _ _ g.1, Or.inl rfl⟩
  · rcases (show i = L ∨ (L + 1 ≤ i ∧ i < p) ∨ i = p by omega) with e | e | e
    · rw [e]
      refine ⟨h4, ?_⟩
      unfold y_next
      rw [if_pos h3, hp]; omega
    · have := g.2.1 i e.1 e.2 z
      exact ⟨this.1, by omega⟩
    · rw [e] at z; exact absurd hp1 z
  · rcases (show i = L ∨ (L + 1 ≤ i ∧ i ≤ p) ∨ i = p + 1 by omega) with e | e | e
    · rw [e]; exact h5
    · exact g.2.2 i e.1 e.2
    · rw [e, df_s, if_neg (by rw [hp1]; decide), if_pos hp1]; omega
theorem c_add (hL : A.1 47 5 = nI L) (h60 : L < 60) (x f1 f2 f3 : Int32) : ∃ A', F_X9_add w A 30 x f1 f2 f3 = some (true, A') ∧ (∀ i, i ≠ L → Rw A' i = Rw A i) ∧ Rw A' L = (x, f1, f2, f3, L) ∧ A'.1 47 5 = nI (L + 1) ∧ A'.1 47 6 = (if x = 28 then A.1 47 6 else A.1 47 6 + 1) ∧ (∀ y, y < 47 ∨ 53 ≤ y → A'.1 y = A.1 y) ∧ A'.2 = A.2 ∧ (∀ i, i ≠ L → A'.1 52 i = A.1 52 i) ∧ A'.1 52 L = nI L := by
  have lt : nI L < 60 := nI_lt (b := 60) h60 (by omega)
  have hin : ¬ (nI L < 0 ∨ 60 ≤ (nI L).toNatClampNeg) := nI_in (by omega) (by omega)
  have hcl : (nI L).toNatClampNeg = L := nI_cl (by omega)
  unfold F_X9_add
  rw [show 30 + 17 = 47 from rfl, show 30 + 18 = 48 from rfl, show 30 + 19 = 49 from rfl, show 30 + 20 = 50 from rfl, show 30 + 21 = 51 from rfl, show 30 + 22 = 52 from rfl, hL, if_pos lt, if_neg hin, if_neg hin, if_neg hin, if_neg hin, if_neg hin, hcl, nI_1]
  have key : ∀ (B : z_Mem), (∀ y, 48 ≤ y → y < 53 → B.1 y = (z_wI (z_wI (z_wI (z_wI (z_wI A 48 L x) 49 L f1) 50 L f2) 51 L f3) 52 L (nI L)).1 y) → (∀ i, i ≠ L → Rw B i = Rw A i) ∧ Rw B L = (x, f1, f2, f3, L) ∧ (∀ i, i ≠ L → B.1 52 i = A.1 52 i) ∧ B.1 52 L = nI L := by
    intro B hB
    have r48 : ∀ i, B.1 48 i = if i = L then x else A.1 48 i := fun i => by
      rw [hB 48 (by omega) (by omega), wI_row (by omega), wI_row (by omega), wI_row (by omega), wI_row (by omega), wI_rd]; simp
    have r49 : ∀ i, B.1 49 i = if i = L then f1 else A.1 49 i := fun i => by
      rw [hB 49 (by omega) (by omega), wI_row (by omega), wI_row (by omega), wI_row (by omega), wI_rd, wI_row (by omega)]; simp
    have r50 : ∀ i, B.1 50 i = if i = L then f2 else A.1 50 i := fun i => by
      rw [hB 50 (by omega) (by omega), wI_row (by omega), wI_row (by omega), wI_rd, wI_row (by omega), wI_row (by omega)]; simp
    have r51 : ∀ i, B.1 51 i = if i = L then f3 else A.1 51 i := fun i => by
      rw [hB 51 (by omega) (by omega), wI_row (by omega), wI_rd, wI_row (by omega), wI_row (by omega), wI_row (by omega)]; simp
    have r52 : ∀ i, B.1 52 i = if i = L then nI L else A.1 52 i := fun i => by
      rw [hB 52 (by omega) (by omega), wI_rd, wI_row (by omega), wI_row (by omega), wI_row (by omega), wI_row (by omega)]; simp
    refine ⟨fun i hi => ?_, ?_, fun i hi => ?_, ?_⟩
    · unfold Rw
      rw [r48, r49, r50, r51, r52, if_neg hi, if_neg hi, if_neg hi, if_neg hi, if_neg hi]
    · unfold Rw
      rw [r48, r49, r50, r51, r52, if_pos rfl, if_pos rfl, if_pos rfl, if_pos rfl, if_pos rfl, hcl]
    · rw [r52, if_neg hi]
    · rw [r52, if_pos rfl]
  by_cases g : x = 28
  · rw [if_pos g]
    obtain ⟨k1, k2, k3, k4⟩ := key (z_wI (z_wI (z_wI (z_wI (z_wI (z_wI A 48 L x) 49 L f1) 50 L f2) 51 L f3) 52 L (nI L)) 47 5 (nI (L + 1))) (fun y h1 h2 => wI_row (by omega))
    refine ⟨_, rfl, k1, k2, wI_same, ?_, fun y hy => ?_, rfl, k3, k4⟩
    · rw [if_pos g, wI_slot (by omega), wI_row (by omega), wI_row (by omega), wI_row (by omega), wI_row (by omega), wI_row (by omega)]
    · rw [wI_row (by omega), wI_row (by omega), wI_row (by omega), wI_row (by omega), wI_row (by omega), wI_row (by omega)]
  · rw [if_neg g]
    obtain ⟨k1, k2, k3, k4⟩ := key (z_wI (z_wI (z_wI (z_wI (z_wI (z_wI (z_wI A 48 L x) 49 L f1) 50 L f2) 51 L f3) 52 L (nI L)) 47 5 (nI (L + 1))) 47 6 (A.1 47 6 + 1)) (fun y h1 h2 => by rw [wI_row (by omega), wI_row (by omega)])
    refine ⟨_, rfl, k1, k2, ?_, ?_, fun y hy => ?_, rfl, k3, k4⟩
    · rw [wI_slot (by omega), wI_same]
    · rw [if_neg g, wI_same]
    · rw [wI_row (by omega), wI_row (by omega), wI_row (by omega), wI_row (by omega), wI_row (by omega), wI_row (by omega), wI_row (by omega)]
theorem c_join {o p : Nat} (ho : o < 60) (hp : p < 60) (hop : o ≠ p) : ∃ A', F_X9_join w A 30 (nI o) (nI p) = some ((), A') ∧ (∀ i, i ≠ o → i ≠ p → Rw A' i = Rw A i) ∧ Rw A' o = ((Rw A o).1, (Rw A o).2.1, (Rw A o).2.2.1, (Rw A o).2.2.2.1, p) ∧ Rw A' p = ((Rw A p).1, (Rw A p).2.1, (Rw A p).2.2.1, (Rw A p).2.2.2.1, o) ∧ (∀ y, y ≠ 52 → A'.1 y = A.1 y) ∧ A'.2 = A.2 ∧ (∀ i, i ≠ o → i ≠ p → A'.1 52 i = A.1 52 i) ∧ A'.1 52 o = nI p ∧ A'.1 52 p = nI o := by
  have co : (nI o).toNatClampNeg = o := nI_cl (by omega)
  have cp : (nI p).toNatClampNeg = p := nI_cl (by omega)
  have R : ∀ y, y ≠ 52 → (z_wI (z_wI A 52 o (nI p)) 52 p (nI o)).1 y = A.1 y := fun y hy => by rw [wI_row hy, wI_row hy]
  have R2 : ∀ i, i ≠ o → i ≠ p → (z_wI (z_wI A 52 o (nI p)) 52 p (nI o)).1 52 i = A.1 52 i := fun i h1 h2 => by rw [wI_slot h2, wI_slot h1]
  have Ro : (z_wI (z_wI A 52 o (nI p)) 52 p (nI o)).1 52 o = nI p := by rw [wI_slot hop, wI_same]
  have Rp : (z_wI (z_wI A 52 o (nI p)) 52 p (nI o)).1 52 p = nI o := wI_same
  refine ⟨z_wI (z_wI A 52 o (nI p)) 52 p (nI o), ?_, fun i h1 h2 => ?_, ?_, ?_, R, rfl, R2, Ro, Rp⟩
  · unfold F_X9_join
    rw [if_neg (nI_in (by omega) (by omega)), if_neg (nI_in (by omega) (by omega)), co, cp]
  · unfold Rw
    rw [R 48 (by omega), R 49 (by omega), R 50 (by omega), R 51 (by omega), R2 i h1 h2]
  · unfold Rw
    rw [R 48 (by omega), R 49 (by omega), R 50 (by omega), R 51 (by omega), Ro, cp]
  · unfold Rw
    rw [R 48 (by omega), R 49 (by omega), R 50 (by omega), R 51 (by omega), Rp, co]
end
