/-! ===== MEMORY: behind the constructors the heap's shape stays; what changes are ints and longs, by place of the cell and slot ===== -/
abbrev z_Sh : Type := (FieldType × Nat) ⊕ (Nat × List Nat)
abbrev z_Mem : Type := (Nat → Nat → Int32) × (Nat → Nat → Int64)
/-- kinds of fields: 0 an int, 1 a boolean, 2 a long, r + 3 the reference .ref r -/
def z_sh : List z_Sh := [.inr (11, [6, 10, 12, 35, 58, 61, 63, 64, 69, 71, 0, 0, 2, 2, 0, 0, 1]),
  .inr (8, [7, 8, 9]),
  .inl (.long, 240),
  .inl (.int, 4),
  .inl (.int, 4),
  .inr (7, [11, 0, 0, 0, 0, 0, 0, 0, 0]),
  .inl (.byte, 900),
  .inr (3, [13, 14, 20, 24, 29, 0, 0, 0, 0, 0, 0, 0]),
  .inl (.int, 2),
  .inr (6, [15, 16, 17, 18, 19, 0]),
  .inl (.int, 8),
  .inl (.int, 8),
  .inl (.int, 8),
  .inl (.int, 8),
  .inl (.int, 8),
  .inr (1, [21, 22, 23, 0, 0]),
  .inl (.int, 5),
  .inl (.int, 5),
  .inl (.int, 5),
  .inr (0, [25, 26, 27, 28, 0, 0, 0]),
  .inl (.int, 8),
  .inl (.int, 8),
  .inl (.int, 6),
  .inl (.int, 6),
  .inr (9, [30, 31, 32, 33, 34, 0, 0, 1]),
  .inl (.int, 60),
  .inl (.int, 60),
  .inl (.int, 60),
  .inl (.int, 60),
  .inl (.int, 60),
  .inr (3, [36, 37, 43, 47, 52, 0, 0, 0, 0, 0, 0, 0]),
  .inl (.int, 2),
  .inr (6, [38, 39, 40, 41, 42, 0]),
  .inl (.int, 8),
  .inl (.int, 8),
  .inl (.int, 8),
  .inl (.int, 8),
  .inl (.int, 8),
  .inr (1, [44, 45, 46, 0, 0]),
  .inl (.int, 5),
  .inl (.int, 5),
  .inl (.int, 5),
  .inr (0, [48, 49, 50, 51, 0, 0, 0]),
  .inl (.int, 8),
  .inl (.int, 8),
  .inl (.int, 6),
  .inl (.int, 6),
  .inr (9, [53, 54, 55, 56, 57, 0, 0, 1]),
  .inl (.int, 60),
  .inl (.int, 60),
  .inl (.int, 60),
  .inl (.int, 60),
  .inl (.int, 60),
  .inr (4, [10, 35, 59, 60, 0]),
  .inl (.int, 6),
  .inl (.int, 6),
  .inr (10, [10, 52, 62, 0, 0, 0, 0]),
  .inl (.int, 3),
  .inl (.object "DitchSaint$Parish", 3),
  .inr (5, [65, 66, 67, 68, 0, 0]),
  .inl (.int, 48),
  .inl (.int, 128),
  .inl (.int, 128),
  .inl (.int, 2),
  .inr (2, [70, 0, 0, 0, 0, 0, 0, 0, 1]),
  .inl (.int, 60),
  .inr (2, [72, 0, 0, 0, 0, 0, 0, 0, 1]),
  .inl (.int, 60),
  .inr (3, [74, 75, 81, 85, 90, 0, 0, 0, 0, 0, 0, 0]),
  .inl (.int, 2),
  .inr (6, [76, 77, 78, 79, 80, 0]),
  .inl (.int, 8),
  .inl (.int, 8),
  .inl (.int, 8),
  .inl (.int, 8),
  .inl (.int, 8),
  .inr (1, [82, 83, 84, 0, 0]),
  .inl (.int, 5),
  .inl (.int, 5),
  .inl (.int, 5),
  .inr (0, [86, 87, 88, 89, 0, 0, 0]),
  .inl (.int, 8),
  .inl (.int, 8),
  .inl (.int, 6),
  .inl (.int, 6),
  .inr (9, [91, 92, 93, 94, 95, 0, 0, 1]),
  .inl (.int, 60),
  .inl (.int, 60),
  .inl (.int, 60),
  .inl (.int, 60),
  .inl (.int, 60),
  .inr (3, [97, 98, 104, 108, 113, 0, 0, 0, 0, 0, 0, 0]),
  .inl (.int, 2),
  .inr (6, [99, 100, 101, 102, 103, 0]),
  .inl (.int, 8),
  .inl (.int, 8),
  .inl (.int, 8),
  .inl (.int, 8),
  .inl (.int, 8),
  .inr (1, [105, 106, 107, 0, 0]),
  .inl (.int, 5),
  .inl (.int, 5),
  .inl (.int, 5),
  .inr (0, [109, 110, 111, 112, 0, 0, 0]),
  .inl (.int, 8),
  .inl (.int, 8),
  .inl (.int, 6),
  .inl (.int, 6),
  .inr (9, [114, 115, 116, 117, 118, 0, 0, 1]),
  .inl (.int, 60),
  .inl (.int, 60),
  .inl (.int, 60),
  .inl (.int, 60),
  .inl (.int, 60),
  .inr (3, [120, 121, 127, 131, 136, 0, 0, 0, 0, 0, 0, 0]),
  .inl (.int, 2),
  .inr (6, [122, 123, 124, 125, 126, 0]),
  .inl (.int, 8),
  .inl (.int, 8),
  .inl (.int, 8),
  .inl (.int, 8),
  .inl (.int, 8),
  .inr (1, [128, 129, 130, 0, 0]),
  .inl (.int, 5),
  .inl (.int, 5),
  .inl (.int, 5),
  .inr (0, [132, 133, 134, 135, 0, 0, 0]),
  .inl (.int, 8),
  .inl (.int, 8),
  .inl (.int, 6),
  .inl (.int, 6),
  .inr (9, [137, 138, 139, 140, 141, 0, 0, 1]),
  .inl (.int, 60),
  .inl (.int, 60),
  .inl (.int, 60),
  .inl (.int, 60),
  .inl (.int, 60),
  .inr (12, [0, 0, 2, 2, 143, 144, 145, 146, 0, 0, 0, 0, 0, 0, 0, 0, 0, 0, 0, 2, 147, 148, 149, 0, 0, 0, 150, 151, 0, 152, 1, 1, 0, 0, 0, 0, 0, 0, 0]),
  .inl (.int, 4),
  .inl (.int, 4),
  .inl (.long, 240),
  .inl (.byte, 900),
  .inl (.int, 1875),
  .inl (.int, 103),
  .inl (.long, 6),
  .inl (.int, 8192),
  .inl (.int, 4096),
  .inl (.int, 5)]
/-- the row of marks -/
def z_marks : Nat → Option Nat := fun i => if i = 0 then some 70 else if i = 1 then some 93 else if i = 2 then some 116 else none
def z_bz (x : Int32) : Int32 := if x = 0 then 0 else 1
def z_fv (M : z_Mem) (a k kd : Nat) : Value := match kd with
  | 0 => .int (M.1 a k)
  | 1 => .int (z_bz (M.1 a k))
  | 2 => .long (M.2 a k)
  | r + 3 => .ref r
def z_fvs (M : z_Mem) (a : Nat) : Nat → List Nat → List Value
  | _, [] => []
  | k, x :: r => z_fv M a k x :: z_fvs M a (k + 1) r
def z_cell (M : z_Mem) (a : Nat) (s : z_Sh) : z_C := match s with
  | .inl (.long, n) => .inl (.long, n, .inr (.inl (M.2 a)))
  | .inl (.object c, n) => .inl (.object c, n, .inr (.inr z_marks))
  | .inl (ty, n) => .inl (ty, n, .inl (M.1 a))
  | .inr (ci, ks) => .inr (ci, z_fvs M a 0 ks)
def z_cells (M : z_Mem) : Nat → List z_Sh → z_H
  | _, [] => []
  | a, s :: r => z_cell M a s :: z_cells M (a + 1) r
def z_heap (M : z_Mem) : z_H := z_cells M 0 z_sh
theorem z_cells_get (M : z_Mem) : ∀ (l : List z_Sh) (a k : Nat), (z_cells M a l)[k]? = (l[k]?).map (z_cell M (a + k)) := by
  intro l
  induction l with
  | nil => intro a k; rfl
  | cons s r ih =>
    intro a k
    cases k with
    | zero => rfl
    | succ k =>
      show (z_cells M (a + 1) r)[k]? = _
      rw [ih, List.getElem?_cons_succ, show a + 1 + k = a + (k + 1) by omega]
theorem z_heap_get (M : z_Mem) (a : Nat) : (z_heap M)[a]? = (z_sh[a]?).map (z_cell M a) := by
  unfold z_heap
  rw [z_cells_get, Nat.zero_add]
theorem z_heap_at {M : z_Mem} {a : Nat} {s : z_Sh} (h : z_sh[a]? = some s) : (z_heap M)[a]? = some (z_cell M a s) := by rw [z_heap_get, h]; rfl
theorem z_fvs_get (M : z_Mem) (a : Nat) : ∀ (ks : List Nat) (j k : Nat), (z_fvs M a j ks)[k]? = (ks[k]?).map (z_fv M a (j + k)) := by
  intro ks
  induction ks with
  | nil => intro j k; rfl
  | cons x r ih =>
    intro j k
    cases k with
    | zero => rfl
    | succ k =>
      show (z_fvs M a (j + 1) r)[k]? = _
      rw [ih, List.getElem?_cons_succ, show j + 1 + k = j + (k + 1) by omega]
theorem z_cells_len (M : z_Mem) : ∀ (l : List z_Sh) (a : Nat), (z_cells M a l).length = l.length := by
  intro l
  induction l with
  | nil => intro a; rfl
  | cons s r ih => intro a; show (z_cells M (a + 1) r).length + 1 = r.length + 1; rw [ih]
theorem z_fvs_len (M : z_Mem) (a : Nat) : ∀ (ks : List Nat) (j : Nat), (z_fvs M a j ks).length = ks.length := by
  intro l
  induction l with
  | nil => intro a; rfl
  | cons s r ih => intro a; show (z_fvs M _ (a + 1) r).length + 1 = r.length + 1; rw [ih]
/-- an int, a long is written -/
def z_wI (M : z_Mem) (a k : Nat) (x : Int32) : z_Mem := (fun b => if b = a then upd (M.1 a) k x else M.1 b, M.2)
def z_wL (M : z_Mem) (a k : Nat) (x : Int64) : z_Mem := (M.1, fun b => if b = a then vp_updL (M.2 a) k x else M.2 b)
def z_wLs (M : z_Mem) (a : Nat) (f : Nat → Int64) : z_Mem := (M.1, fun b => if b = a then f else M.2 b)
theorem z_cell_congr {M M' : z_Mem} {a : Nat} (h1 : M.1 a = M'.1 a) (h2 : M.2 a = M'.2 a) (s : z_Sh) : z_cell M a s = z_cell M' a s := by
  have hf : ∀ (ks : List Nat) (k : Nat), z_fvs M a k ks = z_fvs M' a k ks := by
    intro ks
    induction ks with
    | nil => intro k; rfl
    | cons x r ih =>
      intro k
      rw [z_fvs, z_fvs, ih]
      congr 1
      unfold z_fv
      split <;> first | rfl | rw [h1] | rw [h2]
  unfold z_cell
  split
  · rw [h2]
  · rfl
  · rw [h1]
  · rw [hf]
/-- a cell is written as the memory is -/
theorem z_heap_set {M M' : z_Mem} {a : Nat} {s : z_Sh} (hs : z_sh[a]? = some s) (h1 : ∀ b, b ≠ a → M'.1 b = M.1 b) (h2 : ∀ b, b ≠ a → M'.2 b = M.2 b) : (z_heap M).set a (z_cell M' a s) = z_heap M' := by
  apply List.ext_getElem?
  intro b
  rw [List.getElem?_set]
  by_cases hb : a = b
  · subst hb
    rw [if_pos rfl, z_heap_at hs]
    have hl : a < (z_heap M).length := by
      unfold z_heap
      rw [z_cells_len]
      exact (List.getElem?_eq_some_iff.mp hs).1
    rw [if_pos hl]
  · rw [if_neg hb, z_heap_get, z_heap_get]
    cases z_sh[b]? with
    | none => rfl
    | some s' => exact congrArg some (z_cell_congr (h1 b (fun g => hb g.symm)).symm (h2 b (fun g => hb g.symm)).symm s')
theorem z_wI_ne {M : z_Mem} {a k : Nat} {x : Int32} {b : Nat} (h : b ≠ a) : (z_wI M a k x).1 b = M.1 b := if_neg h
theorem z_wI_eq {M : z_Mem} {a k : Nat} {x : Int32} : (z_wI M a k x).1 a = upd (M.1 a) k x := if_pos rfl
theorem z_wL_ne {M : z_Mem} {a k : Nat} {x : Int64} {b : Nat} (h : b ≠ a) : (z_wL M a k x).2 b = M.2 b := if_neg h
theorem z_wL_eq {M : z_Mem} {a k : Nat} {x : Int64} : (z_wL M a k x).2 a = vp_updL (M.2 a) k x := if_pos rfl
theorem z_fvs_set {M M' : z_Mem} {a k kd : Nat} {v : Value} : ∀ (ks : List Nat) (j : Nat), ks[k]? = some kd → z_fv M' a (j + k) kd = v → (∀ i, i ≠ j + k → M'.1 a i = M.1 a i) → (∀ i, i ≠ j + k → M'.2 a i = M.2 a i) → (z_fvs M a j ks).set k v = z_fvs M' a j ks := by
  intro ks j hk hv h1 h2
  apply List.ext_getElem?
  intro i
  rw [List.getElem?_set, z_fvs_get, z_fvs_get, z_fvs_len]
  by_cases hi : k = i
  · subst hi
    rw [if_pos rfl, hk, if_pos (List.getElem?_eq_some_iff.mp hk).1, ← hv]
    rfl
  · rw [if_neg hi]
    cases ks[i]? with
    | none => rfl
    | some x =>
      show some _ = some _
      congr 1
      have hne : j + i ≠ j + k := by omega
      unfold z_fv
      split <;> first | rfl | rw [h1 _ hne] | rw [h2 _ hne]
