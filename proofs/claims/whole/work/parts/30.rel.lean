/-! ===== WHAT CLASS AND REFERENCE HAVE IN COMMON: a picture of a parish, held by the class's cells and by the reference's row ===== -/
theorem wI_rd (M : z_Mem) (a k : Nat) (v : Int32) (b j : Nat) : (z_wI M a k v).1 b j = if b = a ∧ j = k then v else M.1 b j := by
  unfold z_wI
  by_cases h : b = a
  · subst h
    by_cases g : j = k
    · subst g; simp [upd]
    · simp [upd, g]
  · simp [h]
theorem wI_row {M : z_Mem} {a k : Nat} {v : Int32} {b : Nat} (h : b ≠ a) : (z_wI M a k v).1 b = M.1 b := by
  unfold z_wI; simp [h]
theorem wI_2 {M : z_Mem} {a k : Nat} {v : Int32} : (z_wI M a k v).2 = M.2 := rfl
theorem wL_rd (M : z_Mem) (a k : Nat) (v : Int64) (b j : Nat) : (z_wL M a k v).2 b j = if b = a ∧ j = k then v else M.2 b j := by
  unfold z_wL
  by_cases h : b = a
  · subst h
    by_cases g : j = k
    · subst g; simp [vp_updL]
    · simp [vp_updL, g]
  · simp [h]
theorem wL_row {M : z_Mem} {a k : Nat} {v : Int64} {b : Nat} (h : b ≠ a) : (z_wL M a k v).2 b = M.2 b := by
  unfold z_wL; simp [h]
theorem wL_1 {M : z_Mem} {a k : Nat} {v : Int64} : (z_wL M a k v).1 = M.1 := rfl
/-! a parish: scalars (by the reference's places 5 .. 9, 11 .. 19), rights (how many, five rows), debts (lapsed, the list), court (questions; clauses; witnesses), years -/
abbrev t_D : Type := Int32 × Int32 × Int32
abbrev t_Y : Type := Int32 × Int32 × Int32 × Int32 × Nat
abbrev t_R : Type := Nat × (Nat → Nat → Int32)
abbrev t_C : Type := Nat × t_R × t_R
abbrev t_Ys : Type := Bool × List t_Y
abbrev t_P : Type := (Nat → Int32) × t_R × (Int32 × List t_D) × t_C × t_Ys
def z_lay (s : Nat → Int32) : Int32 := s 14 + 2 * s 15 + 4 * s 16 + 8 * s 17 + 16 * s 18 + 32 * s 19
def CS (r c : Nat → Int32) (s : Nat → Int32) : Prop := r 5 = s 5 ∧ r 6 = s 6 ∧ r 7 = s 7 ∧ r 8 = s 8 ∧ r 9 = z_lay s ∧ r 10 = s 9 ∧ r 11 = s 11 ∧ c 0 = s 12 ∧ c 1 = s 13
def CR (c a0 a1 a2 a3 a4 : Nat → Int32) (r : t_R) : Prop := c 5 = nI r.1 ∧ ∀ i, i < r.1 → a0 i = r.2 0 i ∧ a1 i = r.2 1 i ∧ a2 i = r.2 2 i ∧ a3 i = r.2 3 i ∧ a4 i = r.2 4 i
def CD (c a0 a1 a2 : Nat → Int32) (d : Int32 × List t_D) : Prop := c 3 = nI d.2.length ∧ c 4 = d.1 ∧ ∀ i x, d.2[i]? = some x → a0 i = x.1 ∧ a1 i = x.2.1 ∧ a2 i = x.2.2
def CC (c a0 a1 b0 b1 : Nat → Int32) (q : t_C) : Prop := c 4 = nI q.1 ∧ c 5 = nI q.2.1.1 ∧ c 6 = nI q.2.2.1 ∧ (∀ i, i < q.2.1.1 → a0 i = q.2.1.2 0 i ∧ a1 i = q.2.1.2 1 i) ∧ ∀ i, i < q.2.2.1 → b0 i = q.2.2.2 0 i ∧ b1 i = q.2.2.2 1 i
/-- how many rows are steps (28 is an end) -/
def y_steps (y : List t_Y) : Nat := (y.filter fun r => !(r.1 == 28)).length
def CY (c a0 a1 a2 a3 a4 : Nat → Int32) (y : t_Ys) : Prop := c 5 = nI y.2.length ∧ c 6 = nI (y_steps y.2) ∧ c 7 = z_tb y.1 ∧ ∀ i r, y.2[i]? = some r → a0 i = r.1 ∧ a1 i = r.2.1 ∧ a2 i = r.2.2.1 ∧ a3 i = r.2.2.2.1 ∧ a4 i = nI r.2.2.2.2
def CP (M : z_Mem) (p : Nat) (P : t_P) : Prop :=
  CS (M.1 p) (M.1 (p + 1)) P.1 ∧
  CR (M.1 (p + 2)) (M.1 (p + 3)) (M.1 (p + 4)) (M.1 (p + 5)) (M.1 (p + 6)) (M.1 (p + 7)) P.2.1 ∧
  CD (M.1 (p + 8)) (M.1 (p + 9)) (M.1 (p + 10)) (M.1 (p + 11)) P.2.2.1 ∧
  CC (M.1 (p + 12)) (M.1 (p + 13)) (M.1 (p + 14)) (M.1 (p + 15)) (M.1 (p + 16)) P.2.2.2.1 ∧
  CY (M.1 (p + 17)) (M.1 (p + 18)) (M.1 (p + 19)) (M.1 (p + 20)) (M.1 (p + 21)) (M.1 (p + 22)) P.2.2.2.2
theorem CP_of {M M' : z_Mem} {p : Nat} {P : t_P} (h : CP M p P) (k : ∀ a, p ≤ a → a < p + 23 → M'.1 a = M.1 a) : CP M' p P := by
  unfold CP at h ⊢
  rw [k p (by omega) (by omega), k (p + 1) (by omega) (by omega), k (p + 2) (by omega) (by omega), k (p + 3) (by omega) (by omega), k (p + 4) (by omega) (by omega), k (p + 5) (by omega) (by omega), k (p + 6) (by omega) (by omega), k (p + 7) (by omega) (by omega), k (p + 8) (by omega) (by omega), k (p + 9) (by omega) (by omega), k (p + 10) (by omega) (by omega), k (p + 11) (by omega) (by omega), k (p + 12) (by omega) (by omega), k (p + 13) (by omega) (by omega), k (p + 14) (by omega) (by omega), k (p + 15) (by omega) (by omega), k (p + 16) (by omega) (by omega), k (p + 17) (by omega) (by omega), k (p + 18) (by omega) (by omega), k (p + 19) (by omega) (by omega), k (p + 20) (by omega) (by omega), k (p + 21) (by omega) (by omega), k (p + 22) (by omega) (by omega)]
  exact h
/-! the reference's row of a parish -/
def BS (f : Nat → Int32) (s : Nat → Int32) : Prop := f 5 = s 5 ∧ f 6 = s 6 ∧ f 7 = s 7 ∧ f 8 = s 8 ∧ f 9 = s 9 ∧ f 11 = s 11 ∧ f 12 = s 12 ∧ f 13 = s 13 ∧ f 14 = s 14 ∧ f 15 = s 15 ∧ f 16 = s 16 ∧ f 17 = s 17 ∧ f 18 = s 18 ∧ f 19 = s 19
def BR (f : Nat → Int32) (r : t_R) : Prop := f 0 = nI r.1 ∧ ∀ i, i < r.1 → f (20 + i) = r.2 0 i ∧ f (28 + i) = r.2 1 i ∧ f (36 + i) = r.2 2 i ∧ f (44 + i) = r.2 3 i ∧ f (52 + i) = r.2 4 i
def BD (f : Nat → Int32) (d : Int32 × List t_D) : Prop := f 1 = nI d.2.length ∧ f 10 = d.1 ∧ ∀ i x, d.2[i]? = some x → f (60 + i) = x.1 ∧ f (65 + i) = x.2.1 ∧ f (70 + i) = x.2.2
def BC (f : Nat → Int32) (q : t_C) : Prop := f 2 = nI q.1 ∧ f 3 = nI q.2.1.1 ∧ f 4 = nI q.2.2.1 ∧ (∀ i, i < q.2.1.1 → f (75 + i) = q.2.1.2 0 i ∧ f (83 + i) = q.2.1.2 1 i) ∧ ∀ i, i < q.2.2.1 → f (91 + i) = q.2.2.2 0 i ∧ f (97 + i) = q.2.2.2 1 i
/-- which of the steps a row is -/
def y_no (y : List t_Y) (i : Nat) : Nat := y_steps (y.take i)
/-- kind of a step in the reference, by the word's number: month 20, carry 21, swear 22, pay 23, any 24, when 25, loop 27, stop 29 -/
def y_kind (x : Int32) : Int32 := if x = 20 then 0 else if x = 21 then 1 else if x = 22 then 2 else if x = 23 then 3 else if x = 24 then 4 else if x = 25 then 5 else if x = 27 then 6 else 7
/-- a when's test in the reference: lies 3, owes 26; of a chest < 34, > 35, = 36 -/
def y_test (x : Int32) : Int32 := if x = 3 then 0 else if x = 26 then 2 else 1
def y_sign (x : Int32) : Int32 := if x = 34 then 60 else if x = 35 then 62 else 61
/-- the row behind a step, all that is in it gone by -/
def y_next (i : Nat) (r : t_Y) : Nat := if r.1 = 25 ∨ r.1 = 27 then r.2.2.2.2 + 1 else i + 1
def BYr (f : Nat → Int32) (y : List t_Y) (i : Nat) (r : t_Y) : Prop :=
  f (105 + 9 * y_no y i) = y_kind r.1 ∧ f (113 + 9 * y_no y i) = nI (y_no y (y_next i r)) ∧
  (r.1 = 25 → f (110 + 9 * y_no y i) = y_test r.2.1 ∧ f (106 + 9 * y_no y i) = r.2.2.1 ∧ (y_test r.2.1 = 1 → f (111 + 9 * y_no y i) = r.2.2.2.1 ∧ f (112 + 9 * y_no y i) = y_sign r.2.1)) ∧
  (¬ r.1 = 25 → f (106 + 9 * y_no y i) = r.2.1 ∨ r.1 = 24 ∨ r.1 = 29) ∧ (r.1 = 21 ∨ r.1 = 22 → f (107 + 9 * y_no y i) = r.2.2.1) ∧ (r.1 = 22 → f (108 + 9 * y_no y i) = r.2.2.2.1)
def BY (f : Nat → Int32) (y : t_Ys) : Prop := f 103 = z_tb y.1 ∧ (y.1 = true → f 104 = nI (y_steps y.2) ∧ ∀ i r, y.2[i]? = some r → ¬ r.1 = 28 → BYr f y.2 i r)
def BP (f : Nat → Int32) (P : t_P) : Prop := BS f P.1 ∧ BR f P.2.1 ∧ BD f P.2.2.1 ∧ BC f P.2.2.2.1 ∧ BY f P.2.2.2.2
/-! what is ever so -/
def VS (s : Nat → Int32) : Prop := (s 8 = 0 ∨ s 8 = 1) ∧ (∀ k, k < 6 → s (14 + k) = 0 ∨ s (14 + k) = 1) ∧ (0 ≤ s 12 ∧ s 12 ≤ 9999) ∧ (0 ≤ s 13 ∧ s 13 ≤ 9999) ∧ (0 ≤ s 5 ∧ s 5 ≤ 16) ∧ (0 ≤ s 6 ∧ s 6 ≤ 99) ∧ (0 ≤ s 7 ∧ s 7 ≤ 99)
def VR (r : t_R) : Prop := r.1 ≤ 8 ∧ ∀ i, i < r.1 → (r.2 0 i = 0 ∨ r.2 0 i = 1) ∧ ((r.2 1 i = 0 ∧ r.2 2 i = 0) ∨ (r.2 1 i = 1 ∧ r.2 2 i = 0) ∨ (r.2 1 i = 2 ∧ 1 ≤ r.2 2 i ∧ r.2 2 i ≤ 6)) ∧ (1 ≤ r.2 3 i ∧ r.2 3 i ≤ 50) ∧ (0 ≤ r.2 4 i ∧ r.2 4 i ≤ 4095)
def VD (d : List t_D) : Prop := d.length ≤ 5 ∧ ∀ x, x ∈ d → (x.1 = 0 ∨ x.1 = 1) ∧ (1 ≤ x.2.1 ∧ x.2.1 ≤ 99) ∧ (1 ≤ x.2.2 ∧ x.2.2 ≤ 24)
def VC (q : t_C) : Prop := q.1 ≤ 6 ∧ q.2.1.1 ≤ 8 ∧ q.2.2.1 ≤ 6 ∧ (∀ i, i < q.2.1.1 → (0 ≤ q.2.1.2 0 i ∧ q.2.1.2 0 i ≤ 63) ∧ (0 ≤ q.2.1.2 1 i ∧ q.2.1.2 1 i ≤ 63)) ∧ ∀ i, i < q.2.2.1 → (0 ≤ q.2.2.2 0 i ∧ q.2.2.2 0 i ≤ 16) ∧ (0 ≤ q.2.2.2 1 i ∧ q.2.2.2 1 i ≤ 16)
/-- a step's numbers -/
def y_arg (r : t_Y) : Prop :=
  (r.1 = 20 ∧ 1 ≤ r.2.1 ∧ r.2.1 ≤ 24) ∨ r.1 = 21 ∨ (r.1 = 22 ∧ (r.2.1 = 0 ∨ r.2.1 = 1) ∧ (1 ≤ r.2.2.1 ∧ r.2.2.1 ≤ 99) ∧ (1 ≤ r.2.2.2.1 ∧ r.2.2.2.1 ≤ 24)) ∨
  (r.1 = 23 ∧ 0 ≤ r.2.1 ∧ r.2.1 ≤ 4) ∨ r.1 = 24 ∨ r.1 = 29 ∨ r.1 = 28 ∨
  (r.1 = 25 ∧ (r.2.2.1 = 0 ∨ r.2.2.1 = 1) ∧ (r.2.1 = 3 ∨ r.2.1 = 26 ∨ r.2.1 = 34 ∨ r.2.1 = 35 ∨ r.2.1 = 36)) ∨ (r.1 = 27 ∧ 1 ≤ r.2.1 ∧ r.2.1 ≤ 99)
/-- rows a .. b (b not one of them) stand for whole steps, at most n deep -/
def y_wf (y : List t_Y) : Nat → Nat → Nat → Prop
  | 0, a, b => a = b
  | n + 1, a, b => a = b ∨ (a < b ∧ ∃ r, y[a]? = some r ∧ y_arg r ∧ ¬ r.1 = 28 ∧
      (if r.1 = 25 ∨ r.1 = 27 then ∃ e, y[r.2.2.2.2]? = some e ∧ e.1 = 28 ∧ e.2.2.2.2 = a ∧ a < r.2.2.2.2 ∧ r.2.2.2.2 < b ∧ y_wf y n (a + 1) r.2.2.2.2 ∧ y_wf y n (r.2.2.2.2 + 1) b
       else y_wf y n (a + 1) b))
/-- how deep the rows ahead of i stand open -/
def y_dep (y : List t_Y) : Nat → Nat
  | 0 => 0
  | i + 1 => match y[i]? with
    | none => y_dep y i
    | some r => if r.1 = 25 ∨ r.1 = 27 then y_dep y i + 1 else if r.1 = 28 then y_dep y i - 1 else y_dep y i
def VY (y : t_Ys) : Prop := y.2.length ≤ 60 ∧ y_steps y.2 ≤ 30 ∧ (y.1 = true → y_wf y.2 60 0 y.2.length ∧ ∀ i, y_dep y.2 i ≤ 3)
def VP (P : t_P) : Prop := VS P.1 ∧ VR P.2.1 ∧ VD P.2.2.1.2 ∧ VC P.2.2.2.1 ∧ VY P.2.2.2.2
/-! the relation -/
def r_Tr (M : z_Mem) : Prop := (∀ t, t < 4 → M.1 3 t = M.1 139 t ∧ M.1 4 t = M.1 138 t ∧ (M.1 3 t = -1 ∨ ∃ n, n ≤ 60 ∧ M.1 3 t = nI n)) ∧ ∀ k, k < 240 → M.2 2 k = M.2 140 k
def r_Fr (M : z_Mem) : Prop := M.2 0 12 = M.2 137 2 ∧ M.2 0 13 = M.2 137 3
def r_Ta (M : z_Mem) : Prop := ∃ f, f ≤ 900 ∧ M.1 5 1 = nI f ∧ M.1 137 8 = nI f ∧ ∀ k, k < 900 → M.1 6 k = M.1 141 k ∧ (M.1 6 k).toInt8.toInt32 = M.1 6 k
def r_Fa (M : z_Mem) : Prop := (M.1 0 16 = 0 ∧ M.1 137 10 = -1 ∧ M.1 137 11 = -1) ∨ (M.1 0 16 = 1 ∧ M.1 0 14 = M.1 137 10 ∧ M.1 0 15 = M.1 137 11)
def r_Li (M : z_Mem) : Prop := (M.1 64 8 = 0 ∧ M.1 137 30 = 0) ∨ (M.1 64 8 = 1 ∧ M.1 137 30 = 1 ∧ M.1 64 3 = M.1 147 0 ∧ M.1 64 4 = M.1 147 1 ∧ M.1 64 5 = M.1 147 2 ∧ M.1 64 6 = M.1 147 3 ∧ M.1 64 7 = M.1 147 4)
def r_Pa (M : z_Mem) : Prop := ∃ P, CP M 7 P ∧ BP (M.1 142) P ∧ VP P
def r_Ma (M : z_Mem) : Prop := ∃ n, n ≤ 3 ∧ M.1 0 10 = nI n ∧ M.1 137 23 = nI n ∧ ∀ i, i < n → ∃ P, CP M (68 + 23 * i) P ∧ BP (fun k => M.1 142 (375 * (i + 1) + k)) P ∧ VP P
def r_Rel (M : z_Mem) : Prop := M.1 0 11 = M.1 137 0 ∧ r_Tr M ∧ r_Fr M ∧ r_Ta M ∧ r_Fa M ∧ r_Li M ∧ r_Pa M ∧ r_Ma M
/-- a call is well: class and reference answer alike, and what they have in common stays -/
def r_ok {α : Type} (o : Option (α × z_Mem)) (g : z_Mem → Option (α × z_Mem)) : Prop := ∃ r M1 M2, o = some (r, M1) ∧ g M1 = some (r, M2) ∧ r_Rel M2
/-- cells of the relation that a call of mere asking leaves -/
def r_core (a : Nat) : Prop := a = 3 ∨ a = 4 ∨ a = 6 ∨ (7 ≤ a ∧ a < 30) ∨ a = 64 ∨ (68 ≤ a ∧ a < 137) ∨ a = 138 ∨ a = 139 ∨ a = 141 ∨ a = 142 ∨ a = 147
theorem r_q {M M' : z_Mem} (h : r_Rel M) (hs : M'.1 0 11 = M'.1 137 0) (k0 : ∀ k, k = 10 ∨ k = 14 ∨ k = 15 ∨ k = 16 → M'.1 0 k = M.1 0 k) (k1 : ∀ k, k = 8 ∨ k = 10 ∨ k = 11 ∨ k = 23 ∨ k = 30 → M'.1 137 k = M.1 137 k) (k5 : M'.1 5 1 = M.1 5 1) (ka : ∀ a, r_core a → M'.1 a = M.1 a) (kl : ∀ a k, a = 2 ∨ a = 140 ∨ (a = 0 ∧ (k = 12 ∨ k = 13)) ∨ (a = 137 ∧ (k = 2 ∨ k = 3)) → M'.2 a k = M.2 a k) : r_Rel M' := by
  obtain ⟨h1, h2, h3, h4, h5, h6, h7, h8⟩ := h
  refine ⟨hs, ?_, ?_, ?_, ?_, ?_, ?_, ?_⟩
  · unfold r_Tr at h2 ⊢
    rw [ka 3 (by simp [r_core]), ka 4 (by simp [r_core]), ka 138 (by simp [r_core]), ka 139 (by simp [r_core])]
    exact ⟨h2.1, fun k hk => by rw [kl 2 k (by simp), kl 140 k (by simp)]; exact h2.2 k hk⟩
  · unfold r_Fr at h3 ⊢
    rw [kl 0 12 (by simp), kl 0 13 (by simp), kl 137 2 (by simp), kl 137 3 (by simp)]
    exact h3
  · unfold r_Ta at h4 ⊢
    rw [k5, k1 8 (by simp), ka 6 (by simp [r_core]), ka 141 (by simp [r_core])]
    exact h4
  · unfold r_Fa at h5 ⊢
    rw [k0 14 (by simp), k0 15 (by simp), k0 16 (by simp), k1 10 (by simp), k1 11 (by simp)]
    exact h5
  · unfold r_Li at h6 ⊢
    rw [ka 64 (by simp [r_core]), ka 147 (by simp [r_core]), k1 30 (by simp)]
    exact h6
  · obtain ⟨P, a, b, c⟩ := h7
    refine ⟨P, CP_of a (fun x h1 h2 => ka x (by unfold r_core; omega)), ?_, c⟩
    rw [ka 142 (by simp [r_core])]
    exact b
  · obtain ⟨n, hn, a, b, c⟩ := h8
    refine ⟨n, hn, by rw [k0 10 (by simp)]; exact a, by rw [k1 23 (by simp)]; exact b, fun i hi => ?_⟩
    obtain ⟨P, c1, c2, c3⟩ := c i hi
    refine ⟨P, CP_of c1 (fun x h1 h2 => ka x (by unfold r_core; omega)), ?_, c3⟩
    rw [ka 142 (by simp [r_core])]
    exact c2
