/-! ===== fewer locals are enough ===== -/
section ZL
variable {X : z_S} {m : z_M} {pc : Nat} {st : List Value} {h : z_H}
def z_rl (ls : z_L) (a : z_A) : z_A := match a with
  | .inl r => .inl r
  | .inr (.inl q) => .inr (.inl (q.1, ls, q.2.2))
  | .inr (.inr c) => .inr (.inr c)
theorem p_z_go {a : Nat} (ls : z_L) : z_go a ls st h = (z_go a [] st h).map (z_rl ls) := rfl
theorem p_z_bi {f : Int32 → Int32 → Int32} (ls : z_L) : z_bi f pc ls st h = (z_bi f pc [] st h).map (z_rl ls) := by
  unfold z_bi
  repeat (any_goals (split))
  all_goals first | rfl | exact p_z_go ls | simp_all [p_z_go]
theorem p_z_bl {f : Int64 → Int64 → Int64} (ls : z_L) : z_bl f pc ls st h = (z_bl f pc [] st h).map (z_rl ls) := by
  unfold z_bl
  repeat (any_goals (split))
  all_goals first | rfl | exact p_z_go ls | simp_all [p_z_go]
theorem p_z_bi0 {f : Int32 → Int32 → Int32} (ls : z_L) : z_bi0 f pc ls st h = (z_bi0 f pc [] st h).map (z_rl ls) := by
  unfold z_bi0
  repeat (any_goals (split))
  all_goals first | rfl | exact p_z_go ls | simp_all [p_z_go]
theorem p_z_bl0 {f : Int64 → Int64 → Int64} (ls : z_L) : z_bl0 f pc ls st h = (z_bl0 f pc [] st h).map (z_rl ls) := by
  unfold z_bl0
  repeat (any_goals (split))
  all_goals first | rfl | exact p_z_go ls | simp_all [p_z_go]
theorem p_z_jmp {off : Int} (ls : z_L) : z_jmp pc off ls st h = (z_jmp pc off [] st h).map (z_rl ls) := by
  unfold z_jmp
  repeat (any_goals (split))
  all_goals first | rfl | exact p_z_go ls | simp_all [p_z_go]
theorem p_z_br {off : Int} {cn : Prop} [Decidable cn] (ls : z_L) : z_br pc off cn ls st h = (z_br pc off cn [] st h).map (z_rl ls) := by
  unfold z_br
  repeat (any_goals (split))
  all_goals first | rfl | exact p_z_go ls | simp_all [p_z_go]
theorem p_z_c1 {cn : ClassFile.Cond} {off : Int} (ls : z_L) : z_c1 cn pc off ls st h = (z_c1 cn pc off [] st h).map (z_rl ls) := by
  unfold z_c1
  repeat (any_goals (split))
  all_goals first | rfl | exact p_z_go ls | exact p_z_br ls | simp_all [p_z_go]
theorem p_z_c2 {cn : ClassFile.Cond} {off : Int} (ls : z_L) : z_c2 cn pc off ls st h = (z_c2 cn pc off [] st h).map (z_rl ls) := by
  unfold z_c2
  repeat (any_goals (split))
  all_goals first | rfl | exact p_z_go ls | exact p_z_br ls | simp_all [p_z_go]
theorem p_z_tsw {d lo hi : Int} {offs : Array Int} (ls : z_L) : z_tsw pc d lo hi offs ls st h = (z_tsw pc d lo hi offs [] st h).map (z_rl ls) := by
  unfold z_tsw
  repeat (any_goals (split))
  all_goals first | rfl | exact p_z_go ls | exact p_z_jmp ls | simp_all [p_z_go]
theorem p_z_lsw {d : Int} {ps : Array (Int × Int)} (ls : z_L) : z_lsw pc d ps ls st h = (z_lsw pc d ps [] st h).map (z_rl ls) := by
  unfold z_lsw
  repeat (any_goals (split))
  all_goals first | rfl | exact p_z_go ls | exact p_z_jmp ls | simp_all [p_z_go]
theorem p_z_gf {o ix : Nat} (ls : z_L) : z_gf o pc ix ls st h = (z_gf o pc ix [] st h).map (z_rl ls) := by
  unfold z_gf
  repeat (any_goals (split))
  all_goals first | rfl | exact p_z_go ls | simp_all [p_z_go]
theorem p_z_pf {ix : Nat} (ls : z_L) : z_pf m pc ix ls st h = (z_pf m pc ix [] st h).map (z_rl ls) := by
  unfold z_pf
  repeat (any_goals (split))
  all_goals first | rfl | exact p_z_go ls | simp_all [p_z_go]
theorem p_z_new {o ix : Nat} (ls : z_L) : z_new o pc ix ls st h = (z_new o pc ix [] st h).map (z_rl ls) := by
  unfold z_new
  repeat (any_goals (split))
  all_goals first | rfl | exact p_z_go ls | simp_all [p_z_go]
theorem p_z_na {t : ArrayType} (ls : z_L) : z_na t pc ls st h = (z_na t pc [] st h).map (z_rl ls) := by
  unfold z_na
  repeat (any_goals (split))
  all_goals first | rfl | exact p_z_go ls | simp_all [p_z_go]
theorem p_z_aw {o ix : Nat} (ls : z_L) : z_aw o pc ix ls st h = (z_aw o pc ix [] st h).map (z_rl ls) := by
  unfold z_aw
  repeat (any_goals (split))
  all_goals first | rfl | exact p_z_go ls | simp_all [p_z_go]
theorem p_z_ia  (ls : z_L) : z_ia X pc ls st h = (z_ia X pc [] st h).map (z_rl ls) := by
  unfold z_ia
  repeat (any_goals (split))
  all_goals first | rfl | exact p_z_go ls | simp_all [p_z_go]
theorem p_z_ba  (ls : z_L) : z_ba pc ls st h = (z_ba pc [] st h).map (z_rl ls) := by
  unfold z_ba
  repeat (any_goals (split))
  all_goals first | rfl | exact p_z_go ls | simp_all [p_z_go]
theorem p_z_la  (ls : z_L) : z_la pc ls st h = (z_la pc [] st h).map (z_rl ls) := by
  unfold z_la
  repeat (any_goals (split))
  all_goals first | rfl | exact p_z_go ls | simp_all [p_z_go]
theorem p_z_aa  (ls : z_L) : z_aa pc ls st h = (z_aa pc [] st h).map (z_rl ls) := by
  unfold z_aa
  repeat (any_goals (split))
  all_goals first | rfl | exact p_z_go ls | simp_all [p_z_go]
theorem p_z_is  (ls : z_L) : z_is pc ls st h = (z_is pc [] st h).map (z_rl ls) := by
  unfold z_is
  repeat (any_goals (split))
  all_goals first | rfl | exact p_z_go ls | simp_all [p_z_go]
theorem p_z_bs  (ls : z_L) : z_bs pc ls st h = (z_bs pc [] st h).map (z_rl ls) := by
  unfold z_bs
  repeat (any_goals (split))
  all_goals first | rfl | exact p_z_go ls | simp_all [p_z_go]
theorem p_z_ls  (ls : z_L) : z_ls pc ls st h = (z_ls pc [] st h).map (z_rl ls) := by
  unfold z_ls
  repeat (any_goals (split))
  all_goals first | rfl | exact p_z_go ls | simp_all [p_z_go]
theorem p_z_as  (ls : z_L) : z_as pc ls st h = (z_as pc [] st h).map (z_rl ls) := by
  unfold z_as
  repeat (any_goals (split))
  all_goals first | rfl | exact p_z_go ls | simp_all [p_z_go]
theorem p_z_al  (ls : z_L) : z_al X pc ls st h = (z_al X pc [] st h).map (z_rl ls) := by
  unfold z_al
  repeat (any_goals (split))
  all_goals first | rfl | exact p_z_go ls | simp_all [p_z_go]
theorem p_z_inv {kd : Nat → Bool} {o ix : Nat} (ls : z_L) : z_inv kd o pc ix ls st h = (z_inv kd o pc ix [] st h).map (z_rl ls) := by
  unfold z_inv
  repeat (any_goals (split))
  all_goals first | rfl | exact p_z_go ls | simp_all [p_z_go]
theorem p_z_acp  (ls : z_L) : z_acp pc ls st h = (z_acp pc [] st h).map (z_rl ls) := by
  unfold z_acp
  repeat (any_goals (split))
  all_goals first | rfl | exact p_z_go ls | simp_all [p_z_go]
theorem p_z_blt {b : Nat} (ls : z_L) : z_blt b pc ls st h = (z_blt b pc [] st h).map (z_rl ls) := by
  unfold z_blt
  repeat (any_goals (split))
  all_goals first | rfl | exact p_z_go ls | exact p_z_acp ls | simp_all [p_z_go]
theorem p_z_ivk {kd bd : Nat → Bool} {o ix : Nat} (ls : z_L) : z_ivk kd bd o pc ix ls st h = (z_ivk kd bd o pc ix [] st h).map (z_rl ls) := by
  unfold z_ivk
  repeat (any_goals (split))
  all_goals first | rfl | exact p_z_go ls | exact p_z_blt ls | exact p_z_inv ls | simp_all [p_z_go]
/-- b knows what a knows -/
def z_sub : z_L → z_L → Prop
  | [], [] => True
  | none :: a, _ :: b => z_sub a b
  | some v :: a, some w :: b => v = w ∧ z_sub a b
  | _, _ => False
theorem z_sub_iff : ∀ (a b : z_L), z_sub a b ↔ a.length = b.length ∧ ∀ (i : Nat) (v : Value), a[i]? = some (some v) → b[i]? = some (some v) := by
  intro a
  induction a with
  | nil =>
    intro b
    cases b with
    | nil => simp [z_sub]
    | cons w b => simp [z_sub]
  | cons o a ih =>
    intro b
    cases b with
    | nil => cases o <;> simp [z_sub]
    | cons w b =>
      cases o with
      | none =>
        rw [show z_sub (none :: a) (w :: b) = z_sub a b from rfl, ih]
        constructor
        · rintro ⟨h1, h2⟩
          refine ⟨by simp [h1], fun i v hi => ?_⟩
          cases i with
          | zero => simp at hi
          | succ i => exact h2 i v hi
        · rintro ⟨h1, h2⟩
          exact ⟨by simpa using h1, fun i v hi => h2 (i + 1) v hi⟩
      | some v =>
        cases w with
        | none =>
          constructor
          · intro h; cases h
          · rintro ⟨-, h2⟩
            have := h2 0 v rfl
            simp at this
        | some w =>
          rw [show z_sub (some v :: a) (some w :: b) = (v = w ∧ z_sub a b) from rfl, ih]
          constructor
          · rintro ⟨rfl, h1, h2⟩
            refine ⟨by simp [h1], fun i u hi => ?_⟩
            cases i with
            | zero => exact hi
            | succ i => exact h2 i u hi
          · rintro ⟨h1, h2⟩
            have h3 := h2 0 v rfl
            simp at h3
            exact ⟨h3.symm, by simpa using h1, fun i u hi => h2 (i + 1) u hi⟩
theorem z_sub_get {a b : z_L} (h : z_sub a b) {i : Nat} {v : Value} (hi : a[i]? = some (some v)) : b[i]? = some (some v) := ((z_sub_iff a b).mp h).2 i v hi
theorem z_sub_len {a b : z_L} (h : z_sub a b) : a.length = b.length := ((z_sub_iff a b).mp h).1
theorem z_sub_set {a b : z_L} (h : z_sub a b) (i : Nat) (x : Option Value) : z_sub (a.set i x) (b.set i x) := by
  rw [z_sub_iff]
  refine ⟨by rw [List.length_set, List.length_set, z_sub_len h], fun j v hj => ?_⟩
  rw [List.getElem?_set] at hj ⊢
  by_cases hij : i = j
  · rw [if_pos hij] at hj ⊢
    rw [← z_sub_len h]
    exact hj
  · rw [if_neg hij] at hj ⊢
    exact z_sub_get h hj
theorem z_sub_un {a b : z_L} (h : z_sub a b) (i : Nat) : z_sub (z_un a i) (z_un b i) := by
  rw [z_sub_iff]
  refine ⟨by rw [z_un_len, z_un_len, z_sub_len h], fun k v hk => ?_⟩
  obtain ⟨h1, h2⟩ := z_un_get hk
  have h3 := z_sub_get h h1
  unfold z_un
  split
  · exact h3
  · rename_i j
    split
    · rename_i w hw
      split
      · rename_i hc
        rw [List.getElem?_set]
        by_cases hj : j = k
        · subst hj
          rw [h3] at hw
          cases hw
          exact absurd ⟨rfl, hc⟩ h2
        · rw [if_neg hj]; exact h3
      · exact h3
    · exact h3
theorem z_sub_st1 {a b : z_L} (h : z_sub a b) (i : Nat) (v : Value) : z_sub (z_st1 a i v) (z_st1 b i v) := z_sub_set (z_sub_un h i) i _
theorem z_sub_st2 {a b : z_L} (h : z_sub a b) (i : Nat) (v : Value) : z_sub (z_st2 a i v) (z_st2 b i v) := z_sub_set (z_sub_set (z_sub_un h i) i _) _ _
theorem p_i_lshl (ls : z_L) : z_ins X m pc (.lshl) ls st h = (z_ins X m pc (.lshl) [] st h).map (z_rl ls) := by
  simp only [z_ins]
  repeat (any_goals (split))
  all_goals first | rfl | exact p_z_go ls | simp_all [p_z_go]
theorem p_i_lcmp (ls : z_L) : z_ins X m pc (.lcmp) ls st h = (z_ins X m pc (.lcmp) [] st h).map (z_rl ls) := by
  simp only [z_ins]
  repeat (any_goals (split))
  all_goals first | rfl | exact p_z_go ls | simp_all [p_z_go]
theorem p_i_ineg (ls : z_L) : z_ins X m pc (.ineg) ls st h = (z_ins X m pc (.ineg) [] st h).map (z_rl ls) := by
  simp only [z_ins]
  repeat (any_goals (split))
  all_goals first | rfl | exact p_z_go ls | simp_all [p_z_go]
theorem p_i_i2l (ls : z_L) : z_ins X m pc (.i2l) ls st h = (z_ins X m pc (.i2l) [] st h).map (z_rl ls) := by
  simp only [z_ins]
  repeat (any_goals (split))
  all_goals first | rfl | exact p_z_go ls | simp_all [p_z_go]
theorem p_i_l2i (ls : z_L) : z_ins X m pc (.l2i) ls st h = (z_ins X m pc (.l2i) [] st h).map (z_rl ls) := by
  simp only [z_ins]
  repeat (any_goals (split))
  all_goals first | rfl | exact p_z_go ls | simp_all [p_z_go]
theorem p_i_i2b (ls : z_L) : z_ins X m pc (.i2b) ls st h = (z_ins X m pc (.i2b) [] st h).map (z_rl ls) := by
  simp only [z_ins]
  repeat (any_goals (split))
  all_goals first | rfl | exact p_z_go ls | simp_all [p_z_go]
theorem p_i_i2s (ls : z_L) : z_ins X m pc (.i2s) ls st h = (z_ins X m pc (.i2s) [] st h).map (z_rl ls) := by
  simp only [z_ins]
  repeat (any_goals (split))
  all_goals first | rfl | exact p_z_go ls | simp_all [p_z_go]
theorem p_i_dup (ls : z_L) : z_ins X m pc (.dup) ls st h = (z_ins X m pc (.dup) [] st h).map (z_rl ls) := by
  simp only [z_ins]
  repeat (any_goals (split))
  all_goals first | rfl | exact p_z_go ls | simp_all [p_z_go]
theorem p_i_pop (ls : z_L) : z_ins X m pc (.pop) ls st h = (z_ins X m pc (.pop) [] st h).map (z_rl ls) := by
  simp only [z_ins]
  repeat (any_goals (split))
  all_goals first | rfl | exact p_z_go ls | simp_all [p_z_go]
theorem p_i_dup2 (ls : z_L) : z_ins X m pc (.dup2) ls st h = (z_ins X m pc (.dup2) [] st h).map (z_rl ls) := by
  simp only [z_ins]
  repeat (any_goals (split))
  all_goals first | rfl | exact p_z_go ls | simp_all [p_z_go]
theorem p_i_ireturn (ls : z_L) : z_ins X m pc (.ireturn) ls st h = (z_ins X m pc (.ireturn) [] st h).map (z_rl ls) := by
  simp only [z_ins]
  repeat (any_goals (split))
  all_goals first | rfl | exact p_z_go ls | simp_all [p_z_go]
theorem p_i_lreturn (ls : z_L) : z_ins X m pc (.lreturn) ls st h = (z_ins X m pc (.lreturn) [] st h).map (z_rl ls) := by
  simp only [z_ins]
  repeat (any_goals (split))
  all_goals first | rfl | exact p_z_go ls | simp_all [p_z_go]
theorem p_i_return_ (ls : z_L) : z_ins X m pc (.return_) ls st h = (z_ins X m pc (.return_) [] st h).map (z_rl ls) := by
  simp only [z_ins]
  repeat (any_goals (split))
  all_goals first | rfl | exact p_z_go ls | simp_all [p_z_go]
theorem p_i_ldc {ix : Nat} (ls : z_L) : z_ins X m pc (.ldc ix) ls st h = (z_ins X m pc (.ldc ix) [] st h).map (z_rl ls) := by
  simp only [z_ins]
  repeat (any_goals (split))
  all_goals first | rfl | exact p_z_go ls | simp_all [p_z_go]
theorem p_i_ldc_w {ix : Nat} (ls : z_L) : z_ins X m pc (.ldc_w ix) ls st h = (z_ins X m pc (.ldc_w ix) [] st h).map (z_rl ls) := by
  simp only [z_ins]
  repeat (any_goals (split))
  all_goals first | rfl | exact p_z_go ls | simp_all [p_z_go]
theorem p_i_ldc2_w {ix : Nat} (ls : z_L) : z_ins X m pc (.ldc2_w ix) ls st h = (z_ins X m pc (.ldc2_w ix) [] st h).map (z_rl ls) := by
  simp only [z_ins]
  repeat (any_goals (split))
  all_goals first | rfl | exact p_z_go ls | simp_all [p_z_go]
/-- what an instruction does with more locals known -/
def z_act (X : z_S) (m : z_M) (pc : Nat) (i : Instr) (ls' : z_L) (st : List Value) (h : z_H) (a : z_A) : Prop := match a with
  | .inl r => z_ins X m pc i ls' st h = some (.inl r)
  | .inr (.inl q) => ∃ l1, z_sub q.2.1 l1 ∧ z_ins X m pc i ls' st h = some (.inr (.inl (q.1, l1, q.2.2)))
  | .inr (.inr c) => z_ins X m pc i ls' st h = some (.inr (.inr c))
theorem z_act_of {i : Instr} {ls ls' : z_L} {a : z_A} (hs : z_sub ls ls') (hp : ∀ l, z_ins X m pc i l st h = (z_ins X m pc i [] st h).map (z_rl l)) (hz : z_ins X m pc i ls st h = some a) : z_act X m pc i ls' st h a := by
  rw [hp ls] at hz
  obtain ⟨a0, h0, rfl⟩ := Option.map_eq_some_iff.mp hz
  rcases a0 with r | q | c
  · show z_ins X m pc i ls' st h = _
    rw [hp ls', h0]; rfl
  · exact ⟨ls', hs, by rw [hp ls', h0]; rfl⟩
  · show z_ins X m pc i ls' st h = _
    rw [hp ls', h0]; rfl
theorem z_act_go {i : Instr} {ls' l1 : z_L} {q : Nat × z_L × List Value × z_H} (hs : z_sub q.2.1 l1) (hz : z_ins X m pc i ls' st h = some (.inr (.inl (q.1, l1, q.2.2)))) : z_act X m pc i ls' st h (.inr (.inl q)) := ⟨l1, hs, hz⟩
theorem z_ins_sub {i : Instr} {ls ls' : z_L} {a : z_A} (hs : z_sub ls ls') (hz : z_ins X m pc i ls st h = some a) : z_act X m pc i ls' st h a := by
  cases i
  case iload_n k =>
    rcases a with a | a | a
    · exact (n_z_ldI hz).elim
    · obtain ⟨x, hx, rfl⟩ := z_ldI_inv hz
      exact ⟨ls', hs, by simp only [z_ins, z_ldI, z_sub_get hs hx]; rfl⟩
    · exact (c_z_ldI hz).elim
  case iload k =>
    rcases a with a | a | a
    · exact (n_z_ldI hz).elim
    · obtain ⟨x, hx, rfl⟩ := z_ldI_inv hz
      exact ⟨ls', hs, by simp only [z_ins, z_ldI, z_sub_get hs hx]; rfl⟩
    · exact (c_z_ldI hz).elim
  case lload_n k =>
    rcases a with a | a | a
    · exact (n_z_ldL hz).elim
    · obtain ⟨x, hx, rfl⟩ := z_ldL_inv hz
      exact ⟨ls', hs, by simp only [z_ins, z_ldL, z_sub_get hs hx]; rfl⟩
    · exact (c_z_ldL hz).elim
  case lload k =>
    rcases a with a | a | a
    · exact (n_z_ldL hz).elim
    · obtain ⟨x, hx, rfl⟩ := z_ldL_inv hz
      exact ⟨ls', hs, by simp only [z_ins, z_ldL, z_sub_get hs hx]; rfl⟩
    · exact (c_z_ldL hz).elim
  case aload_n k =>
    rcases a with a | a | a
    · exact (n_z_ldA hz).elim
    · obtain ⟨x, hx, rfl⟩ := z_ldA_inv hz
      exact ⟨ls', hs, by simp only [z_ins, z_ldA, z_sub_get hs hx]; rfl⟩
    · exact (c_z_ldA hz).elim
  case aload k =>
    rcases a with a | a | a
    · exact (n_z_ldA hz).elim
    · obtain ⟨x, hx, rfl⟩ := z_ldA_inv hz
      exact ⟨ls', hs, by simp only [z_ins, z_ldA, z_sub_get hs hx]; rfl⟩
    · exact (c_z_ldA hz).elim
  case istore_n k =>
    rcases a with a | a | a
    · exact (n_z_stI hz).elim
    · obtain ⟨x, r, rfl, hk, rfl⟩ := z_stI_inv hz
      refine ⟨_, z_sub_st1 hs _ _, ?_⟩
      simp only [z_ins, z_stI]
      rw [if_pos (by rw [← z_sub_len hs]; exact hk)]
      rfl
    · exact (c_z_stI hz).elim
  case istore k =>
    rcases a with a | a | a
    · exact (n_z_stI hz).elim
    · obtain ⟨x, r, rfl, hk, rfl⟩ := z_stI_inv hz
      refine ⟨_, z_sub_st1 hs _ _, ?_⟩
      simp only [z_ins, z_stI]
      rw [if_pos (by rw [← z_sub_len hs]; exact hk)]
      rfl
    · exact (c_z_stI hz).elim
  case lstore_n k =>
    rcases a with a | a | a
    · exact (n_z_stL hz).elim
    · obtain ⟨x, r, rfl, hk, rfl⟩ := z_stL_inv hz
      refine ⟨_, z_sub_st2 hs _ _, ?_⟩
      simp only [z_ins, z_stL]
      rw [if_pos (by rw [← z_sub_len hs]; exact hk)]
      rfl
    · exact (c_z_stL hz).elim
  case lstore k =>
    rcases a with a | a | a
    · exact (n_z_stL hz).elim
    · obtain ⟨x, r, rfl, hk, rfl⟩ := z_stL_inv hz
      refine ⟨_, z_sub_st2 hs _ _, ?_⟩
      simp only [z_ins, z_stL]
      rw [if_pos (by rw [← z_sub_len hs]; exact hk)]
      rfl
    · exact (c_z_stL hz).elim
  case astore_n k =>
    rcases a with a | a | a
    · exact (n_z_stA hz).elim
    · obtain ⟨x, r, rfl, hk, rfl⟩ := z_stA_inv hz
      refine ⟨_, z_sub_st1 hs _ _, ?_⟩
      simp only [z_ins, z_stA]
      rw [if_pos (by rw [← z_sub_len hs]; exact hk)]
      rfl
    · exact (c_z_stA hz).elim
  case astore k =>
    rcases a with a | a | a
    · exact (n_z_stA hz).elim
    · obtain ⟨x, r, rfl, hk, rfl⟩ := z_stA_inv hz
      refine ⟨_, z_sub_st1 hs _ _, ?_⟩
      simp only [z_ins, z_stA]
      rw [if_pos (by rw [← z_sub_len hs]; exact hk)]
      rfl
    · exact (c_z_stA hz).elim
  case iinc k n =>
    simp only [z_ins, z_go] at hz
    split at hz
    · rename_i x hx
      cases hz
      refine ⟨_, z_sub_st1 hs _ _, ?_⟩
      simp only [z_ins, z_sub_get hs hx]
      rfl
    · cases hz
  case iadd => exact z_act_of hs (fun l => p_z_bi l) hz
  case isub => exact z_act_of hs (fun l => p_z_bi l) hz
  case imul => exact z_act_of hs (fun l => p_z_bi l) hz
  case iand => exact z_act_of hs (fun l => p_z_bi l) hz
  case ior => exact z_act_of hs (fun l => p_z_bi l) hz
  case ixor => exact z_act_of hs (fun l => p_z_bi l) hz
  case ishl => exact z_act_of hs (fun l => p_z_bi l) hz
  case ishr => exact z_act_of hs (fun l => p_z_bi l) hz
  case iushr => exact z_act_of hs (fun l => p_z_bi l) hz
  case idiv => exact z_act_of hs (fun l => p_z_bi0 l) hz
  case irem => exact z_act_of hs (fun l => p_z_bi0 l) hz
  case ladd => exact z_act_of hs (fun l => p_z_bl l) hz
  case lsub => exact z_act_of hs (fun l => p_z_bl l) hz
  case lmul => exact z_act_of hs (fun l => p_z_bl l) hz
  case land => exact z_act_of hs (fun l => p_z_bl l) hz
  case lor => exact z_act_of hs (fun l => p_z_bl l) hz
  case ldiv => exact z_act_of hs (fun l => p_z_bl0 l) hz
  case lrem => exact z_act_of hs (fun l => p_z_bl0 l) hz
  case ifCond => exact z_act_of hs (fun l => p_z_c1 l) hz
  case if_icmp => exact z_act_of hs (fun l => p_z_c2 l) hz
  case goto => exact z_act_of hs (fun l => p_z_jmp l) hz
  case tableswitch => exact z_act_of hs (fun l => p_z_tsw l) hz
  case lookupswitch => exact z_act_of hs (fun l => p_z_lsw l) hz
  case getfield => exact z_act_of hs (fun l => p_z_gf l) hz
  case putfield => exact z_act_of hs (fun l => p_z_pf l) hz
  case new => exact z_act_of hs (fun l => p_z_new l) hz
  case newarray => exact z_act_of hs (fun l => p_z_na l) hz
  case anewarray => exact z_act_of hs (fun l => p_z_aw l) hz
  case iaload => exact z_act_of hs (fun l => p_z_ia l) hz
  case baload => exact z_act_of hs (fun l => p_z_ba l) hz
  case laload => exact z_act_of hs (fun l => p_z_la l) hz
  case aaload => exact z_act_of hs (fun l => p_z_aa l) hz
  case iastore => exact z_act_of hs (fun l => p_z_is l) hz
  case bastore => exact z_act_of hs (fun l => p_z_bs l) hz
  case lastore => exact z_act_of hs (fun l => p_z_ls l) hz
  case aastore => exact z_act_of hs (fun l => p_z_as l) hz
  case arraylength => exact z_act_of hs (fun l => p_z_al l) hz
  case invokevirtual => exact z_act_of hs (fun l => p_z_ivk l) hz
  case invokespecial => exact z_act_of hs (fun l => p_z_ivk l) hz
  case invokestatic => exact z_act_of hs (fun l => p_z_ivk l) hz
  case lshl => exact z_act_of hs (fun l => p_i_lshl l) hz
  case lcmp => exact z_act_of hs (fun l => p_i_lcmp l) hz
  case ineg => exact z_act_of hs (fun l => p_i_ineg l) hz
  case i2l => exact z_act_of hs (fun l => p_i_i2l l) hz
  case l2i => exact z_act_of hs (fun l => p_i_l2i l) hz
  case i2b => exact z_act_of hs (fun l => p_i_i2b l) hz
  case i2s => exact z_act_of hs (fun l => p_i_i2s l) hz
  case dup => exact z_act_of hs (fun l => p_i_dup l) hz
  case pop => exact z_act_of hs (fun l => p_i_pop l) hz
  case dup2 => exact z_act_of hs (fun l => p_i_dup2 l) hz
  case ireturn => exact z_act_of hs (fun l => p_i_ireturn l) hz
  case lreturn => exact z_act_of hs (fun l => p_i_lreturn l) hz
  case return_ => exact z_act_of hs (fun l => p_i_return_ l) hz
  case ldc => exact z_act_of hs (fun l => p_i_ldc l) hz
  case ldc_w => exact z_act_of hs (fun l => p_i_ldc_w l) hz
  case ldc2_w => exact z_act_of hs (fun l => p_i_ldc2_w l) hz
  case iconst => exact z_act_of hs (fun l => rfl) hz
  case bipush => exact z_act_of hs (fun l => rfl) hz
  case sipush => exact z_act_of hs (fun l => rfl) hz
  case lconst => exact z_act_of hs (fun l => rfl) hz
  all_goals (cases hz; done)
theorem z_ev_sub : ∀ (n : Nat) (X : z_S) (d : Nat) (m : z_M) (pc : Nat) (ls ls' : z_L) (st : List Value) (h : z_H) (r : Option Value × z_H), z_sub ls ls' → z_ev n X d m pc ls st h = some r → z_ev n X d m pc ls' st h = some r := by
  intro n
  induction n with
  | zero => intro X d m pc ls ls' st h r _ hr; cases hr
  | succ n ih =>
    intro X d m pc ls ls' st h r hs hr
    rw [z_ev] at hr ⊢
    unfold z_step at hr ⊢
    cases hd : decode (z_b m) pc with
    | error e => rw [hd] at hr; cases hr
    | ok q =>
      obtain ⟨i, len⟩ := q
      rw [hd] at hr
      dsimp only at hr ⊢
      by_cases hl : z_len i len = true
      · rw [if_pos hl] at hr ⊢
        cases hz : z_ins X m pc i ls st h with
        | none => rw [hz] at hr; cases hr
        | some a =>
          rw [hz] at hr
          have ha := z_ins_sub hs hz
          rcases a with a | a | a
          · rw [show z_ins X m pc i ls' st h = some (.inl a) from ha]
            exact hr
          · obtain ⟨l1, h1, h2⟩ := ha
            rw [h2]
            exact ih _ _ _ _ _ _ _ _ _ h1 hr
          · rw [show z_ins X m pc i ls' st h = some (.inr (.inr a)) from ha]
            cases d with
            | zero => cases hr
            | succ d =>
              dsimp only at hr ⊢
              cases hc : z_ev n none d (z_ms a.1) 0 (z_ent (z_ms a.1) a.2.1) [] h with
              | none => rw [hc] at hr; cases hr
              | some q =>
                rw [hc] at hr
                exact ih _ _ _ _ _ _ _ _ _ hs hr
      · rw [if_neg hl] at hr
        cases hr
end ZL
/-- what is known with fewer locals -/
theorem g_sub {X : z_S} {k : Nat} {m : z_M} {pc : Nat} {ls ls' : z_L} {st : List Value} {M : z_Mem} {Q : Option Value → z_Mem → Prop} (hs : z_sub ls ls') (h : z_G X k m pc ls st M Q) : z_G X k m pc ls' st M Q := fun d hd => by
  obtain ⟨n, r, M', h1, h2⟩ := h d hd
  exact ⟨n, r, M', z_ev_sub _ _ _ _ _ _ _ _ _ _ hs h1, h2⟩
