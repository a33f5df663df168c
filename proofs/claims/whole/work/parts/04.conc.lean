/-! ===== WHAT THE SMALL MACHINE'S STATES ARE IN THE MACHINE ===== -/
/-- the address of a reference: of the script, of the text, of the cells from B.2.2 on -/
def z_ad (B : Nat × Nat × Nat) (k : Nat) : Nat := match k with
  | 0 => B.1
  | 1 => B.2.1
  | k + 2 => B.2.2 + k
def z_cv (B : Nat × Nat × Nat) (v : Value) : Value := match v with
  | .ref a => .ref (z_ad B a)
  | v => v
def z_ce (B : Nat × Nat × Nat) (ca : FieldType → ClassId) (c : z_C) : va_E := match c with
  | .inl (ty, n, .inl f) => .inl (ca ty, n, .inl f)
  | .inl (ty, n, .inr (.inl f)) => .inl (ca ty, n, .inr (.inl f))
  | .inl (ty, n, .inr (.inr f)) => .inl (ca ty, n, .inr (.inr (.inr (.inr (fun i => (f i).map (z_ad B))))))
  | .inr (ci, fs) => .inr (ci, fs.map (z_cv B))
def z_ws (B : Nat × Nat × Nat) (ca : FieldType → ClassId) (h : z_H) : va_W := h.mapIdx (fun k c => (B.2.2 + k, z_ce B ca c))
theorem z_ws_get (B : Nat × Nat × Nat) (ca : FieldType → ClassId) (h : z_H) (k : Nat) : (z_ws B ca h)[k]? = (h[k]?).map (fun c => (B.2.2 + k, z_ce B ca c)) := by
  unfold z_ws
  rw [List.getElem?_mapIdx]
theorem z_ws_at {B : Nat × Nat × Nat} {ca : FieldType → ClassId} {h : z_H} {k : Nat} {c : z_C} (hk : h[k]? = some c) : (z_ws B ca h)[k]? = some (B.2.2 + k, z_ce B ca c) := by
  rw [z_ws_get, hk]; rfl
theorem z_ws_len (B : Nat × Nat × Nat) (ca : FieldType → ClassId) (h : z_H) : (z_ws B ca h).length = h.length := by
  unfold z_ws
  rw [List.length_mapIdx]
theorem z_ws_set (B : Nat × Nat × Nat) (ca : FieldType → ClassId) (h : z_H) (k : Nat) (c : z_C) : z_ws B ca (h.set k c) = (z_ws B ca h).set k (B.2.2 + k, z_ce B ca c) := by
  apply List.ext_getElem?
  intro i
  rw [z_ws_get, List.getElem?_set, List.getElem?_set, z_ws_len, z_ws_get]
  by_cases hi : k = i
  · subst hi
    rw [if_pos rfl, if_pos rfl]
    by_cases hl : k < h.length
    · rw [if_pos hl, if_pos hl]; rfl
    · rw [if_neg hl, if_neg hl]; rfl
  · rw [if_neg hi, if_neg hi]
theorem z_ws_push (B : Nat × Nat × Nat) (ca : FieldType → ClassId) (h : z_H) (c : z_C) : z_ws B ca (h ++ [c]) = z_ws B ca h ++ [(B.2.2 + h.length, z_ce B ca c)] := by
  apply List.ext_getElem?
  intro i
  rw [z_ws_get]
  by_cases hi : i < h.length
  · rw [List.getElem?_append_left hi, List.getElem?_append_left (by rw [z_ws_len]; exact hi), z_ws_get]
  · by_cases he : i = h.length
    · subst he
      rw [List.getElem?_append_right (Nat.le_refl _), List.getElem?_append_right (by rw [z_ws_len]; exact Nat.le_refl _), z_ws_len, Nat.sub_self]
      rfl
    · rw [List.getElem?_eq_none (by simp; omega), List.getElem?_eq_none (by simp [z_ws_len]; omega)]
      rfl
theorem z_ws_D (B : Nat × Nat × Nat) (ca : FieldType → ClassId) (h : z_H) : va_D (fun q => B.2.2 ≤ q) (z_ws B ca h) := by
  have key : ∀ (k : Nat) (q : Nat × va_E), (z_ws B ca h)[k]? = some q → q.1 = B.2.2 + k := by
    intro k q hq
    rw [z_ws_get] at hq
    cases hk : h[k]? with
    | none => rw [hk] at hq; cases hq
    | some c => rw [hk] at hq; cases hq; rfl
  refine ⟨fun i j x y hx hy he => ?_, fun k q hq => ?_⟩
  · rw [key i x hx, key j y hy] at he
    omega
  · rw [key k q hq]
    omega
def z_sz (c : z_C) : Nat := match c with
  | .inl (_, n, _) => n
  | .inr (_, fs) => fs.length
def z_sl (h : z_H) : Nat := (h.map z_sz).sum
theorem z_sl_push (h : z_H) (c : z_C) : z_sl (h ++ [c]) = z_sl h + z_sz c := by
  simp [z_sl]
theorem z_sl_set {h : z_H} {k : Nat} {c0 c : z_C} (hk : h[k]? = some c0) (he : z_sz c = z_sz c0) : z_sl (h.set k c) = z_sl h := by
  unfold z_sl
  rw [List.map_set, he]
  congr 1
  apply List.ext_getElem?
  intro i
  rw [List.getElem?_set]
  by_cases hi : k = i
  · subst hi
    rw [if_pos rfl]
    have hl := (List.getElem?_eq_some_iff.mp hk).1
    rw [if_pos (by simpa using hl), List.getElem?_map, hk]
    rfl
  · rw [if_neg hi]
/-- locals -/
def z_asc (B : Nat × Nat × Nat) : Nat → z_L → List (Nat × Value)
  | _, [] => []
  | i, none :: r => z_asc B (i + 1) r
  | i, some v :: r => (i, z_cv B v) :: z_asc B (i + 1) r
theorem z_asc_mem (B : Nat × Nat × Nat) : ∀ (ls : z_L) (i : Nat) (q : Nat × Value), q ∈ z_asc B i ls ↔ ∃ (k : Nat) (v : Value), q = (i + k, z_cv B v) ∧ ls[k]? = some (some v) := by
  intro ls
  induction ls with
  | nil => intro i q; simp [z_asc]
  | cons o r ih =>
    intro i q
    cases o with
    | none =>
      rw [z_asc, ih]
      constructor
      · rintro ⟨k, v, rfl, hk⟩
        exact ⟨k + 1, v, by rw [show i + 1 + k = i + (k + 1) by omega], by simpa using hk⟩
      · rintro ⟨k, v, rfl, hk⟩
        cases k with
        | zero => simp at hk
        | succ k => exact ⟨k, v, by rw [show i + 1 + k = i + (k + 1) by omega], by simpa using hk⟩
    | some w =>
      rw [z_asc, List.mem_cons, ih]
      constructor
      · rintro (rfl | ⟨k, v, rfl, hk⟩)
        · exact ⟨0, w, rfl, rfl⟩
        · exact ⟨k + 1, v, by rw [show i + 1 + k = i + (k + 1) by omega], by simpa using hk⟩
      · rintro ⟨k, v, rfl, hk⟩
        cases k with
        | zero => left; simp at hk; subst hk; rfl
        | succ k => right; exact ⟨k, v, by rw [show i + 1 + k = i + (k + 1) by omega], by simpa using hk⟩
def z_lsOK (B : Nat × Nat × Nat) (arr : Array Slot) (nL : Nat) (ls : z_L) : Prop := ls.length = nL ∧ lv_has arr nL (z_asc B 0 ls)
theorem z_lsOK.get {B : Nat × Nat × Nat} {arr : Array Slot} {nL : Nat} {ls : z_L} (h : z_lsOK B arr nL ls) {i : Nat} {v : Value} (hi : ls[i]? = some (some v)) : arr[i]? = some (.val (z_cv B v)) :=
  h.2.2.2 (i, z_cv B v) ((z_asc_mem B ls 0 _).mpr ⟨i, v, by rw [Nat.zero_add], hi⟩)
theorem z_cv_cat (B : Nat × Nat × Nat) (v : Value) : (z_cv B v).category = v.category := by cases v <;> rfl
theorem z_cv_cats (B : Nat × Nat × Nat) (r : List Value) : ((r.map (z_cv B)).map fun v => v.category).sum = (r.map fun v => v.category).sum := by
  rw [List.map_map]
  congr 1
  apply List.map_congr_left
  intro v _
  exact z_cv_cat B v
theorem z_un_len (ls : z_L) (i : Nat) : (z_un ls i).length = ls.length := by
  unfold z_un
  split
  · rfl
  · split
    · split <;> simp
    · rfl
theorem z_un_get {ls : z_L} {i k : Nat} {v : Value} (h : (z_un ls i)[k]? = some (some v)) : ls[k]? = some (some v) ∧ ¬ (k + 1 = i ∧ v.category = 2) := by
  unfold z_un at h
  split at h
  · exact ⟨h, fun q => by omega⟩
  · rename_i j
    split at h
    · rename_i w hw
      split at h
      · rename_i hc
        rw [List.getElem?_set] at h
        by_cases hj : j = k
        · subst hj
          rw [if_pos rfl] at h
          split at h <;> simp at h
        · rw [if_neg hj] at h
          exact ⟨h, fun q => hj (by omega)⟩
      · rename_i hc
        refine ⟨h, fun q => ?_⟩
        have hj : j = k := by omega
        subst hj
        rw [hw] at h
        simp at h
        subst h
        exact hc q.2
    · rename_i hw
      refine ⟨h, fun q => ?_⟩
      have hj : j = k := by omega
      subst hj
      exact hw v h
theorem z_st1_ok {B : Nat × Nat × Nat} {arr : Array Slot} {nL i : Nat} {ls : z_L} {v : Value} (hn : ls.length = nL) (h : lv_has arr nL ((i, z_cv B v) :: (z_asc B 0 ls).filter (fun q => !(q.1 == i) && !(q.1 + 1 == i && q.2.category == 2)))) : z_lsOK B arr nL (z_st1 ls i v) := by
  refine ⟨by unfold z_st1; rw [List.length_set, z_un_len]; exact hn, h.1, h.2.1, fun q hq => ?_⟩
  obtain ⟨k, w, rfl, hk⟩ := (z_asc_mem B _ 0 q).mp hq
  rw [Nat.zero_add]
  unfold z_st1 at hk
  rw [List.getElem?_set] at hk
  by_cases hi : i = k
  · subst hi
    rw [if_pos rfl] at hk
    split at hk
    · simp at hk
      subst hk
      exact h.2.2 _ List.mem_cons_self
    · simp at hk
  · rw [if_neg hi] at hk
    obtain ⟨h1, h2⟩ := z_un_get hk
    refine h.2.2 (k, z_cv B w) (List.mem_cons_of_mem _ (List.mem_filter.mpr ⟨(z_asc_mem B _ 0 _).mpr ⟨k, w, by rw [Nat.zero_add], h1⟩, ?_⟩))
    have a1 : (k == i) = false := by simpa using fun q => hi q.symm
    simp only [a1, Bool.not_false, Bool.true_and, Bool.not_eq_true', z_cv_cat]
    by_cases hc : w.category = 2
    · have a2 : (k + 1 == i) = false := by simpa using fun q => h2 ⟨q, hc⟩
      simp [a2]
    · simp [hc]
theorem z_st2_ok {B : Nat × Nat × Nat} {arr : Array Slot} {nL i : Nat} {ls : z_L} {v : Value} (hn : ls.length = nL) (h : lv_has arr nL ((i, z_cv B v) :: (z_asc B 0 ls).filter (fun q => !(q.1 == i) && (!(q.1 == i + 1) && !(q.1 + 1 == i && q.2.category == 2))))) : z_lsOK B arr nL (z_st2 ls i v) := by
  refine ⟨by unfold z_st2; rw [List.length_set, List.length_set, z_un_len]; exact hn, h.1, h.2.1, fun q hq => ?_⟩
  obtain ⟨k, w, rfl, hk⟩ := (z_asc_mem B _ 0 q).mp hq
  rw [Nat.zero_add]
  unfold z_st2 at hk
  rw [List.getElem?_set] at hk
  by_cases hj : i + 1 = k
  · rw [if_pos hj] at hk
    split at hk <;> simp at hk
  · rw [if_neg hj, List.getElem?_set] at hk
    by_cases hi : i = k
    · subst hi
      rw [if_pos rfl] at hk
      split at hk
      · simp at hk
        subst hk
        exact h.2.2 _ List.mem_cons_self
      · simp at hk
    · rw [if_neg hi] at hk
      obtain ⟨h1, h2⟩ := z_un_get hk
      refine h.2.2 (k, z_cv B w) (List.mem_cons_of_mem _ (List.mem_filter.mpr ⟨(z_asc_mem B _ 0 _).mpr ⟨k, w, by rw [Nat.zero_add], h1⟩, ?_⟩))
      have a1 : (k == i) = false := by simpa using fun q => hi q.symm
      have a3 : (k == i + 1) = false := by simpa using fun q => hj q.symm
      simp only [a1, a3, Bool.not_false, Bool.true_and, Bool.not_eq_true', z_cv_cat]
      by_cases hc : w.category = 2
      · have a2 : (k + 1 == i) = false := by simpa using fun q => h2 ⟨q, hc⟩
        simp [a2]
      · simp [hc]
theorem z_args_len : ∀ (vs : List Value), (lg_sl vs).length = (vs.map fun v => v.category).sum := by
  intro vs
  induction vs with
  | nil => rfl
  | cons v r ih =>
    unfold lg_sl at ih ⊢
    rw [List.flatMap_cons, List.length_append, ih, List.map_cons, List.sum_cons]
    rcases lv_cat v with h | h <;> simp [h]
/-- the entry's locals -/
def z_el (as : List Value) : z_L := as.flatMap (fun v => if v.category = 2 then [some v, none] else [some v])
theorem z_ent_eq (m : z_M) (as : List Value) : z_ent m as = z_el as ++ List.replicate (z_x m - (z_el as).length) none := rfl
theorem z_el_len : ∀ (vs : List Value), (z_el vs).length = (vs.map fun v => v.category).sum := by
  intro vs
  induction vs with
  | nil => rfl
  | cons v r ih =>
    unfold z_el at ih ⊢
    rw [List.flatMap_cons, List.length_append, ih, List.map_cons, List.sum_cons]
    rcases lv_cat v with h | h <;> simp [h]
theorem z_el_args (B : Nat × Nat × Nat) : ∀ (vs : List Value) (i k : Nat) (v : Value), (z_el vs)[k]? = some (some v) → (i + k, z_cv B v) ∈ lv_args i (vs.map (z_cv B)) := by
  intro vs
  induction vs with
  | nil => intro i k v h; simp [z_el] at h
  | cons w r ih =>
    intro i k v h
    have e : z_el (w :: r) = (if w.category = 2 then [some w, none] else [some w]) ++ z_el r := rfl
    rw [e] at h
    rw [List.map_cons, lv_args, z_cv_cat]
    rcases lv_cat w with hc | hc
    · rw [if_neg (by omega)] at h
      rw [if_neg (by omega)]
      cases k with
      | zero => simp at h; subst h; exact List.mem_cons_self
      | succ k =>
        have h1 : (z_el r)[k]? = some (some v) := by simpa using h
        have h2 := ih (i + 1) k v h1
        rw [show i + (k + 1) = i + 1 + k by omega]
        exact List.mem_cons_of_mem _ h2
    · rw [if_pos hc] at h
      rw [if_pos hc]
      cases k with
      | zero => simp at h; subst h; exact List.mem_cons_self
      | succ k =>
        cases k with
        | zero => simp at h
        | succ k =>
          have h1 : (z_el r)[k]? = some (some v) := by simpa using h
          have h2 := ih (i + 2) k v h1
          rw [show i + (k + 1 + 1) = i + 2 + k by omega]
          exact List.mem_cons_of_mem _ h2
theorem z_ent_ok (B : Nat × Nat × Nat) (m : z_M) (as : List Value) (h : (as.map fun v => v.category).sum ≤ z_x m) :
    z_lsOK B ((lg_sl (as.map (z_cv B)) ++ List.replicate (z_x m - (lg_sl (as.map (z_cv B))).length) Slot.unset).toArray) (z_x m) (z_ent m as) := by
  have hl : (lg_sl (as.map (z_cv B))).length ≤ z_x m := by rw [z_args_len, z_cv_cats]; exact h
  obtain ⟨e1, e2, e3⟩ := lv_entry (as.map (z_cv B)) (n := z_x m) hl
  refine ⟨?_, e1, e2, fun q hq => ?_⟩
  · rw [z_ent_eq, List.length_append, List.length_replicate, z_el_len]; omega
  · obtain ⟨k, v, rfl, hk⟩ := (z_asc_mem B _ 0 q).mp hq
    rw [z_ent_eq] at hk
    by_cases hlt : k < (z_el as).length
    · rw [List.getElem?_append_left hlt] at hk
      exact e3 _ (z_el_args B as 0 k v hk)
    · rw [List.getElem?_append_right (by omega), List.getElem?_replicate] at hk
      split at hk <;> simp at hk
