/-! ===== what the tables give ===== -/
theorem z_lookup_mem {α : Type} {i : Nat} {v : α} : ∀ {l : List (Nat × α)}, l.lookup i = some v → (i, v) ∈ l := by
  intro l
  induction l with
  | nil => intro h; cases h
  | cons q r ih =>
    intro h
    obtain ⟨j, w⟩ := q
    rw [List.lookup_cons] at h
    by_cases hij : i = j
    · subst hij
      simp at h
      subst h
      exact List.mem_cons_self
    · have e : (i == j) = false := by simpa using hij
      rw [e] at h
      exact List.mem_cons_of_mem _ (ih h)
theorem z_ms_mem {j : Nat} (h : j < z_all.length) : z_ms j ∈ z_all := by
  unfold z_ms
  rw [List.getD_eq_getElem?_getD, List.getElem?_eq_getElem h]
  exact List.getElem_mem h
theorem z_ms_ok {m : z_M} (h : m ∈ z_all) : z_code m ∈ z_T ∧ Cond.initialized (z_y m).cls ∈ z_T ∧ plainName (z_y m).cls = true ∧ (z_y m).cls ≠ "java/lang/invoke/MethodHandle" ∧ (z_y m).cls ≠ "java/lang/invoke/VarHandle" ∧ (parseMethodDescriptor (z_y m).desc).map (fun d => d.parameters.length) = some (z_n m) ∧ z_R (z_o m) = (z_y m).cls ∧ z_x m ≤ 40 := by
  have h1 := List.all_eq_true.mp z_mc m h
  simp only [z_okM, Bool.and_eq_true, decide_eq_true_eq] at h1
  obtain ⟨⟨⟨⟨⟨⟨a1, a2⟩, a3⟩, a4⟩, a5⟩, a6⟩, a7⟩ := h1
  exact ⟨z_T_in (z_all_code m h) rfl, z_T_in (z_at_mem a1) rfl, a2, a3, a4, a5, a6, a7⟩
theorem z_lk_ok {o i k j p : Nat} (h : z_lk o i = some (k, j, p)) : z_ms j ∈ z_all ∧ ((k = 0 ∧ Cond.methodLink (z_R o) i (z_y (z_ms j)) ∈ z_T ∧ Cond.instanceMethod (z_y (z_ms j)) ∈ z_T ∧ Cond.selects (z_y (z_ms j)).cls (z_y (z_ms j)) (z_y (z_ms j)) ∈ z_T ∧ z_o (z_ms j) < 13)
    ∨ (k = 1 ∧ Cond.methodLink (z_R o) i (z_y (z_ms j)) ∈ z_T ∧ Cond.instanceMethod (z_y (z_ms j)) ∈ z_T ∧ (z_y (z_ms j)).name = "<init>" ∧ z_r (z_ms j) = none)
    ∨ (k = 2 ∧ Cond.methodLinkNest (z_R o) i (z_y (z_ms j)) "DitchSaint" ∈ z_nest ∧ Cond.instanceMethod (z_y (z_ms j)) ∈ z_T ∧ (z_y (z_ms j)).name = "<init>" ∧ z_r (z_ms j) = none)
    ∨ (k = 3 ∧ Cond.methodLink (z_R o) i (z_y (z_ms j)) ∈ z_T ∧ Cond.static (z_y (z_ms j)) ∈ z_T)) := by
  have h1 := List.all_eq_true.mp (z_lcs o) _ (z_lookup_mem h)
  simp only [z_okL, Bool.and_eq_true, decide_eq_true_eq] at h1
  refine ⟨z_ms_mem h1.1, ?_⟩
  have h2 := h1.2
  split at h2
  · simp only [Bool.and_eq_true, decide_eq_true_eq] at h2
    obtain ⟨⟨⟨b1, b2⟩, b3⟩, b4⟩ := h2
    exact Or.inl ⟨rfl, z_T_in (z_at_mem b1) rfl, z_T_in (z_at_mem b2) rfl, z_T_in (z_at_mem b3) rfl, b4⟩
  · simp only [Bool.and_eq_true, decide_eq_true_eq] at h2
    obtain ⟨⟨⟨b1, b2⟩, b3⟩, b4⟩ := h2
    exact Or.inr (Or.inl ⟨rfl, z_T_in (z_at_mem b1) rfl, z_T_in (z_at_mem b2) rfl, b3, b4⟩)
  · simp only [Bool.and_eq_true, decide_eq_true_eq] at h2
    obtain ⟨⟨⟨b1, b2⟩, b3⟩, b4⟩ := h2
    exact Or.inr (Or.inr (Or.inl ⟨rfl, b1, z_T_in (z_at_mem b2) rfl, b3, b4⟩))
  · simp only [Bool.and_eq_true] at h2
    exact Or.inr (Or.inr (Or.inr ⟨rfl, z_T_in (z_at_mem h2.1) rfl, z_T_in (z_at_mem h2.2) rfl⟩))
  · cases h2
theorem z_fl_ok {o ix ci k p : Nat} (h : z_fl o ix = some (ci, k, p)) : ∃ q : vw_C, z_cl[ci]? = some q ∧ k < q.2.2 ∧ Cond.fieldLink (z_R o) ix (q.2.1 k).1 (q.2.1 k).2.1 (q.2.1 k).2.2.1 ∈ z_T := by
  have h1 := List.all_eq_true.mp (z_fcs o) _ (z_lookup_mem h)
  unfold z_okF at h1
  dsimp only at h1
  split at h1
  · rename_i q hq
    simp only [Bool.and_eq_true, decide_eq_true_eq] at h1
    exact ⟨q, hq, h1.2, z_T_in (z_at_mem h1.1) rfl⟩
  · cases h1
theorem z_lay_good (C : String) (T : u_T) (k : Nat) : goodWord (u_lay C T k) = true := by
  unfold u_lay
  split <;> rfl
theorem z_cls_ok {ci : Nat} {q : vw_C} (h : z_cl[ci]? = some q) : (∀ w ∈ u_ws q.1 q.2.1 q.2.2, w ∈ z_T) ∧ (∀ k, k < q.2.2 → parseFieldDescriptor (q.2.1 k).2.2.1 = some (z_ty ci k)) ∧ (∀ a, a < q.2.2 → ∀ b, b < q.2.2 → a ≠ b → (q.2.1 a).2.1 ≠ (q.2.1 b).2.1) := by
  have hl : ci < 13 := (List.getElem?_eq_some_iff.mp h).1
  have h1 := z_cYs ci hl
  unfold z_okY at h1
  rw [h] at h1
  simp only [List.all_eq_true, Bool.and_eq_true, decide_eq_true_eq, List.mem_range] at h1
  refine ⟨fun w hw => ?_, fun k hk => (h1 k hk).2, ?_⟩
  · obtain ⟨k, hk, rfl⟩ := List.mem_map.mp hw
    exact z_T_in (z_at_mem (h1 k (List.mem_range.mp hk)).1) (z_lay_good _ _ _)
  · match ci, h with
    | 0, h => cases h; exact nmX0
    | 1, h => cases h; exact nmX1
    | 2, h => cases h; exact nmX2
    | 3, h => cases h; exact nmX3
    | 4, h => cases h; exact nmX4
    | 5, h => cases h; exact nmX5
    | 6, h => cases h; exact nmX6
    | 7, h => cases h; exact nmX7
    | 8, h => cases h; exact nmX8
    | 9, h => cases h; exact nmX9
    | 10, h => cases h; exact nmX10
    | 11, h => cases h; exact nmX11
    | 12, h => cases h; exact nmX12
    | _ + 13, h => omega
theorem z_o16 {α : Type} {l : List (List α)} {o : Nat} (hl : l.length = 16) {x : α} (h : x ∈ l.getD o []) : o < 16 := by
  rcases Nat.lt_or_ge o 16 with g | g
  · exact g
  · rw [List.getD_eq_getElem?_getD, List.getElem?_eq_none (by omega)] at h
    cases h
theorem z_kc_ok {o ix p : Nat} {v : Int32} (h : z_kc o ix = some (v, p)) : Cond.constant (z_R o) ix v ∈ z_T := by
  have h0 := z_lookup_mem h
  have h1 := List.all_eq_true.mp (z_cCs o (z_o16 rfl h0)) _ h0
  exact z_T_in (z_at_mem h1) rfl
theorem z_kl_ok {o ix p : Nat} {v : Int64} (h : z_kl o ix = some (v, p)) : Cond.constantLong (z_R o) ix v ∈ z_T := by
  have h0 := z_lookup_mem h
  have h1 := List.all_eq_true.mp (z_cKs o (z_o16 rfl h0)) _ h0
  exact z_T_in (z_at_mem h1) rfl
theorem z_nw_ok {o ix ci : Nat} {p : Nat × Nat × Nat} (h : z_nw o ix = some (ci, p)) : ∃ q : vw_C, z_cl[ci]? = some q ∧ Cond.classLink (z_R o) ix q.1 ∈ z_T ∧ Cond.instantiable q.1 q.2.2 ∈ z_T ∧ Cond.initialized q.1 ∈ z_T := by
  have h0 := z_lookup_mem h
  have h1 := List.all_eq_true.mp (z_cNs o (z_o16 rfl h0)) _ h0
  unfold z_okN at h1
  dsimp only at h1
  split at h1
  · rename_i q hq
    simp only [Bool.and_eq_true] at h1
    exact ⟨q, hq, z_T_in (z_at_mem h1.1.1) rfl, z_T_in (z_at_mem h1.1.2) rfl, z_T_in (z_at_mem h1.2) rfl⟩
  · cases h1
theorem z_bk_ok {o ix b p : Nat} (h : z_bk o ix = some (b, p)) : match b with
    | 0 => Cond.methodLink (z_R o) ix Lib.objectInit ∈ z_T
    | 1 => Cond.methodLink (z_R o) ix arraycopyName ∈ z_T
    | 2 => Cond.methodLink (z_R o) ix yJ0_length_8abf5 ∈ z_T
    | 3 => Cond.methodLink (z_R o) ix yJ0_charAt_5068e ∈ z_T
    | 4 => Cond.methodLink (z_R o) ix Lib.Math.max.name ∈ z_T
    | 5 => Cond.methodLink (z_R o) ix Lib.Math.min.name ∈ z_T
    | 6 => Cond.methodLink (z_R o) ix Lib.MathLoose.abs_long.x ∈ z_T
    | _ => True := by
  have h0 := z_lookup_mem h
  have h1 := List.all_eq_true.mp (z_cBs o (z_o16 rfl h0)) _ h0
  unfold z_okB at h1
  split
  all_goals first | trivial | exact z_T_in (z_at_mem h1) rfl
/-- what is known of the start beside the words that stay: the nest mates' links, the row of parishes, the text of the words, two statics of the JDK -/
def z_X (B : Nat × Nat × Nat) (sv : Nat) (U : State) (H : Heap) : Prop :=
  (∀ w ∈ z_nest, va_Nw w U) ∧ va_AO "DitchSaint$Parish" U ∧ vk_R "DitchSaint$Tokens" 62 "odds toll war lies chest right worth in debt sum left ask clause not witness east west here away late month carry swear pay any when owes loop end stop " B.2.1 U ∧
  vk_S 1 [152] [z_txt] (fun _ => B.2.1) (fun _ => sv) (fun q => B.2.2 ≤ q) U H ∧ va_Z "java/lang/String" "COMPACT_STRINGS" "Z" (.int 1) (fun q => B.2.2 ≤ q) U H ∧ va_Zq "jdk/internal/util/Preconditions" "SIOOBE_FORMATTER" "Ljava/util/function/BiFunction;" (fun q => B.2.2 ≤ q) U H
theorem z_nest_tables : ∀ w ∈ z_nest, w.onTables = true := by decide +kernel
theorem z_nest_form {w : Cond} (h : w ∈ z_nest) : ∃ a i x g, w = .methodLinkNest a i x g := by
  unfold z_nest at h
  simp only [List.mem_cons, List.not_mem_nil, or_false] at h
  rcases h with rfl | rfl | rfl | rfl | rfl | rfl | rfl <;> exact ⟨_, _, _, _, rfl⟩
theorem z_X.warm {B : Nat × Nat × Nat} {sv : Nat} {s U : State} {H : Heap} (hW : s.WarmedH U.vm) (h : z_X B sv s H) : z_X B sv U H := by
  obtain ⟨h1, h2, h3, h4, h5, h6⟩ := h
  refine ⟨fun w hw => ?_, h2.moved hW.alike, h3.warm hW, h4.moved hW.alike, h5.moved hW.alike, ?_⟩
  · obtain ⟨a, i, x, g, rfl⟩ := z_nest_form hw
    exact va_Nw.warmM hW (h1 _ hw)
  · rcases h6 with h6 | ⟨t, h6⟩
    · exact Or.inl (h6.moved hW.alike)
    · exact Or.inr ⟨t, h6.moved hW.alike⟩
theorem z_X.kept {B : Nat × Nat × Nat} {sv : Nat} {U : State} {H H1 : Heap} (h : z_X B sv U H) (hq : ∀ a : Nat, a < H.size → ¬ B.2.2 ≤ a → H1[a]? = H[a]?) : z_X B sv U H1 := by
  obtain ⟨h1, h2, h3, h4, h5, h6⟩ := h
  refine ⟨h1, h2, h3, h4.kept hq, h5.kept hq, ?_⟩
  rcases h6 with h6 | ⟨t, h6⟩
  · exact Or.inl (h6.kept hq)
  · exact Or.inr ⟨t, h6.kept hq⟩
theorem z_X.same {B : Nat × Nat × Nat} {sv : Nat} {u U : State} {H : Heap} (hv : U.vm = u.vm) (h : z_X B sv u H) : z_X B sv U H := by
  obtain ⟨h1, h2, h3, h4, h5, h6⟩ := h
  have ha : u.vm.Alike U.vm := by rw [hv]; exact Vm.Alike.refl _
  refine ⟨fun w hw => (h1 w hw).same (z_nest_tables w hw) hv.symm, h2.moved ha, h3.same hv, h4.moved ha, h5.moved ha, ?_⟩
  rcases h6 with h6 | ⟨t, h6⟩
  · exact Or.inl (h6.moved ha)
  · exact Or.inr ⟨t, h6.moved ha⟩
def z_tl (ca : FieldType → ClassId) : List (ClassId × FieldType) := [(ca .int, .int), (ca .long, .long), (ca .byte, .byte), (ca (.object "DitchSaint$Parish"), .object "DitchSaint$Parish")]
theorem z_nar {ty : FieldType} {v : Value} (B : Nat × Nat × Nat) (h : narrow ty v = v) : narrow ty (z_cv B v) = z_cv B v := by
  cases v <;> first | exact h | (cases ty <;> rfl)
theorem z_fit {ty : FieldType} {v : Value} (B : Nat × Nat × Nat) (h : fits ty v = true) : fits ty (z_cv B v) = true := by
  cases v <;> first | exact h | (cases ty <;> first | exact h | rfl)
theorem z_defv (ty : FieldType) : z_def ty = defaultValue ty := by cases ty <;> rfl
