/-! ===== z_Pure out of a statement of functions alone ===== -/
def z_ssz (s : z_Sh) : Nat := match s with
  | .inl (_, n) => n
  | .inr (_, ks) => ks.length
theorem z_cell_sz (M : z_Mem) (a : Nat) (s : z_Sh) : z_sz (z_cell M a s) = z_ssz s := by
  unfold z_cell
  split
  · rfl
  · rfl
  · rfl
  · simp only [z_sz, z_ssz, z_fvs_len]
theorem z_cells_sl (M : z_Mem) : ∀ (l : List z_Sh) (a : Nat), z_sl (z_cells M a l) = (l.map z_ssz).sum := by
  intro l
  induction l with
  | nil => intro a; rfl
  | cons s r ih =>
    intro a
    have h := ih (a + 1)
    unfold z_sl at h ⊢
    rw [z_cells, List.map_cons, List.sum_cons, h, z_cell_sz]
    rfl
theorem z_heap_sl (M : z_Mem) : z_sl (z_heap M) ≤ 7302249 := by
  unfold z_heap
  rw [z_cells_sl]
  decide +kernel
theorem z_heap_len (M : z_Mem) : (z_heap M).length ≤ 600000 := by
  unfold z_heap
  rw [z_cells_len]
  decide +kernel
/-- what is left: the law's loop, as a function over memory, answers true on every script -/
def z_Left : Prop := ∀ (MC : z_Mem), (∀ f ∈ z_f0, MC.1 f.1 f.2.1 = f.2.2) → (∀ f ∈ z_f1, MC.2 f.1 f.2.1 = f.2.2) → z_Z MC → ∃ (w : Nat) (M0 : z_Mem), F_X12_empties w MC 0 = some ((), M0) ∧ ∀ (L : Nat) (xs : Nat → Int32), L ≤ 3072 → ∃ (c : Nat) (M' : z_Mem), L_L_law w L xs c M0 0 = some (true, M')
theorem z_pure_of (h : z_Left) : z_Pure := by
  intro L xs hL
  obtain ⟨MC, h0, h1, hz, hgo⟩ := z_begin
  obtain ⟨w, M0, hE, hl⟩ := h MC h0 h1 hz
  obtain ⟨c, M', hc⟩ := hl L xs hL
  obtain ⟨n, r, M1, e1, rfl, rfl⟩ := AL_L_law c M0 0 true M' (fun v M2 => v = some (.int 1) ∧ M2 = M') hc ⟨rfl, rfl⟩ 60 (by omega)
  obtain ⟨n2, e2⟩ := hgo M0 w hE (some (L, xs)) n _ e1
  exact ⟨n2, z_heap M1, e2, z_heap_len M1, z_heap_sl M1⟩
