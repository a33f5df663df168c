/-! ===== court: rulings, strikes, what is sure ===== -/
/-- not by rfl: simp leaves a proof then, the kernel need not find it -/
theorem bindS {α β : Type} (x : α) (f : α → Option β) : (some x).bind f = f x := (Option.bind_some x f).trans (Eq.trans rfl rfl)
def bs_all (f : Nat → Bool) : Nat → Nat → Bool
  | 0, b => f b
  | d + 1, b => bs_all f d (2 * b) && bs_all f d (2 * b + 1)
theorem bs_ok {f : Nat → Bool} : ∀ (d b : Nat), bs_all f d b = true → ∀ n, n / 2 ^ d = b → f n = true := by
  intro d
  induction d with
  | zero =>
    intro b h n hn
    rw [Nat.pow_zero, Nat.div_one] at hn
    rw [hn]; exact h
  | succ d ih =>
    intro b h n hn
    rw [bs_all, Bool.and_eq_true] at h
    rw [Nat.pow_succ, ← Nat.div_div_eq_div_mul] at hn
    have h2 := Nat.div_add_mod (n / 2 ^ d) 2
    have h3 := Nat.mod_lt (n / 2 ^ d) (show 0 < 2 by omega)
    rw [hn] at h2
    by_cases g : n / 2 ^ d % 2 = 0
    · exact ih (2 * b) h.1 n (by omega)
    · exact ih (2 * b + 1) h.2 n (by omega)
def z_bc (x : Int32) : Int32 := match F_J6_bitCount_0f7a4 0 ((fun _ _ => 0), (fun _ _ => 0)) x with
  | some (r, _) => r
  | none => 0
theorem f_bc (w : Nat) (M : z_Mem) (x : Int32) : F_J6_bitCount_0f7a4 w M x = some (z_bc x, M) := rfl
def n_cnt (n : Nat) : Nat → Nat
  | 0 => 0
  | k + 1 => n_cnt n k + n / 2 ^ k % 2
theorem n_cnt_le (n : Nat) : ∀ k, n_cnt n k ≤ k := by
  intro k
  induction k with
  | zero => exact Nat.le_refl 0
  | succ k ih =>
    rw [n_cnt]
    have := Nat.mod_lt (n / 2 ^ k) (show 0 < 2 by omega)
    omega
def z_szl (x : Int32) : Nat → Int32
  | 0 => 0
  | k + 1 => if ((x >>> (nI k &&& 31)) &&& 1) = 1 then z_szl x k + 1 else z_szl x k
theorem bc_all : bs_all (fun n => z_bc (nI n) == nI (n_cnt n 12) && z_szl (nI n) 12 == nI (n_cnt n 12)) 12 0 = true := by decide +kernel
theorem bc_ok {n : Nat} (h : n < 4096) : z_bc (nI n) = nI (n_cnt n 12) ∧ z_szl (nI n) 12 = nI (n_cnt n 12) := by
  have := bs_ok 12 0 bc_all n (Nat.div_eq_of_lt h)
  simp only [Bool.and_eq_true, beq_iff_eq] at this
  exact this
theorem and_01 (x : Int32) : (x &&& 1) = 0 ∨ (x &&& 1) = 1 := by
  by_cases h : bt x 0 = true
  · right
    refine b_ext fun i hi => ?_
    rw [b_and, b_1]
    by_cases e : i = 0
    · subst e; simp [h]
    · simp [e]
  · left
    refine b_ext fun i hi => ?_
    rw [b_and, b_1, b_0]
    by_cases e : i = 0
    · subst e; simp [h]
    · simp [e]
