/-! ===== helpers of the printed functions ===== -/
theorem z_ift {α : Type} {c : Prop} [Decidable c] {a b r : α} (hc : c) (h : (if c then a else b) = r) : a = r := by rwa [if_pos hc] at h
theorem z_iff {α : Type} {c : Prop} [Decidable c] {a b r : α} (hc : ¬ c) (h : (if c then a else b) = r) : b = r := by rwa [if_neg hc] at h
theorem z_bd {α β : Type} {o : Option α} {f : α → Option β} {b : β} (h : o.bind f = some b) : ∃ a, o = some a ∧ f a = some b := Option.bind_eq_some_iff.mp h
def z_tb (b : Bool) : Int32 := if b = true then 1 else 0
theorem z_tb0 {b : Bool} : z_tb b = 0 ↔ ¬ b = true := by cases b <;> simp [z_tb]
theorem z_tbn {b : Bool} : ¬ z_tb b = 0 ↔ b = true := by cases b <;> simp [z_tb]
theorem nb_tb {b : Bool} : narrow .boolean (.int (z_tb b)) = .int (z_tb b) := by cases b <;> rfl
theorem z_tb01 {b : Bool} : z_tb b = 0 ∨ z_tb b = 1 := by cases b <;> simp [z_tb]
def z_bb (x : Int32) : Bool := !(x == 0)
theorem z_bz_tb {x : Int32} : z_bz x = z_tb (z_bb x) := by
  unfold z_bz z_tb z_bb
  by_cases h : x = 0 <;> simp [h]
theorem z_fvZ {M : z_Mem} {a k : Nat} : z_fv M a k 1 = .int (z_tb (z_bb (M.1 a k))) := by
  rw [← z_bz_tb]; rfl
theorem z_sub_nil : z_sub [] [] := trivial
theorem z_sub_n {a b : z_L} {x : Option Value} (h : z_sub a b) : z_sub (none :: a) (x :: b) := h
theorem z_sub_s {a b : z_L} {v : Value} (h : z_sub a b) : z_sub (some v :: a) (some v :: b) := ⟨rfl, h⟩
theorem z_neL {x y : Int32} {n : Int} (hy : y.toInt = n) (h : ¬ x = y) : x.toInt ≠ n := fun g => h (Int32.toInt_inj.mp (g.trans hy.symm))
/-- the place of a mark's parish -/
def z_mp (i : Int32) : Nat := 68 + 23 * i.toNatClampNeg
theorem z_mp_cases {i : Int32} (h : ¬ (i < 0 ∨ 3 ≤ i.toNatClampNeg)) : i.toNatClampNeg = 0 ∨ i.toNatClampNeg = 1 ∨ i.toNatClampNeg = 2 := by
  have h1 : ¬ 3 ≤ i.toNatClampNeg := fun g => h (Or.inr g)
  omega
theorem z_mp_mk {i : Int32} (h : ¬ (i < 0 ∨ 3 ≤ i.toNatClampNeg)) : z_marks i.toNatClampNeg = some (z_mp i + 2) := by
  unfold z_mp
  rcases z_mp_cases h with g | g | g <;> rw [g] <;> rfl
theorem z_mp_par {i : Int32} (h : ¬ (i < 0 ∨ 3 ≤ i.toNatClampNeg)) : z_par (z_mp i) := by
  unfold z_mp z_par
  rcases z_mp_cases h with g | g | g <;> rw [g] <;> simp
theorem z_par_7 : z_par 7 := Or.inl rfl
theorem z_par_30 : z_par 30 := Or.inr (Or.inl rfl)
def z_lif (l : Nat) : Prop := l = 64 ∨ l = 66
theorem z_lif_64 : z_lif 64 := Or.inl rfl
theorem z_lif_66 : z_lif 66 := Or.inr rfl
theorem shl_0 {l : Nat} (hl : z_lif l) : z_sh[l]? = some (.inr (2, [l + 6, 0, 0, 0, 0, 0, 0, 0, 1])) := by rcases hl with rfl | rfl <;> rfl
theorem shl_1 {l : Nat} (hl : z_lif l) : z_sh[l + 1]? = some (.inl (.int, 60)) := by rcases hl with rfl | rfl <;> rfl
def z_ars (s : Nat) : Prop := s = 61 ∨ s = 62
theorem z_ars_61 : z_ars 61 := Or.inl rfl
theorem z_ars_62 : z_ars 62 := Or.inr rfl
theorem shs_0 {s : Nat} (hs : z_ars s) : z_sh[s]? = some (.inl (.int, 128)) := by rcases hs with rfl | rfl <;> rfl
