/-! ===== fewer locals are enough ===== -/
section ZL
variable {X : z_S} {m : z_M} {pc : Nat} {st : List Value} {h : z_H}
def z_rl (ls : z_L) (a : z_A) : z_A := match a with
  | .inl r => .inl r
  | .inr (.inl q) => .inr (.inl (q.1, ls, q.2.2))
  | .inr (.inr c) => .inr (.inr c)
theorem p_z_go {a : Nat} (ls : z_L) : z_go a ls st h = (z_go a [] st h).map (z_rl ls) := rfl
theorem p_z_bi {f : Int32 → Int32 → Int32} (ls : z_L) : z_bi f pc ls st h = (z_bi f pc [] st h).map (z_rl ls) := by
  unfold z_bi
  repeat (any_goals (split))
  all_goals first | rfl | exact p_z_go ls | simp_all [p_z_go]
theorem p_z_bl {f : Int64 → Int64 → Int64} (ls : z_L) : z_bl f pc ls st h = (z_bl f pc [] st h).map (z_rl ls) := by
  unfold z_bl
  repeat (any_goals (split))
  all_goals first | rfl | exact p_z_go ls | simp_all [p_z_go]
theorem p_z_bi0 {f : Int32 → Int32 → Int32} (ls : z_L) : z_bi0 f pc ls st h = (z_bi0 f pc [] st h).map (z_rl ls) := by
  unfold z_bi0
  repeat (any_goals (split))
  all_goals first | rfl | exact p_z_go ls | simp_all [p_z_go]
theorem p_z_bl0 {f : Int64 → Int64 → Int64} (ls : z_L) : z_bl0 f pc ls st h = (z_bl0 f pc [] st h).map (z_rl ls) := by
  unfold z_bl0
  repeat (any_goals (split))
  all_goals first | rfl | exact p_z_go ls | simp_all [p_z_go]
theorem p_z_jmp {off : Int} (ls : z_L) : z_jmp pc off ls st h = (z_jmp pc off [] st h).map (z_rl ls) := by
  unfold z_jmp
  repeat (any_goals (split))
  all_goals first | rfl | exact p_z_go ls | simp_all [p_z_go]
theorem p_z_br {off : Int} {cn : Prop} [Decidable cn] (ls : z_L) : z_br pc off cn ls st h = (z_br pc off cn [] st h).map (z_rl ls) := by
  unfold z_br
  repeat (any_goals (split))
  all_goals first | rfl | exact p_z_go ls | simp_all [p_z_go]
theorem p_z_c1 {cn : ClassFile.Cond} {off : Int} (ls : z_L) : z_c1 cn pc off ls st h = (z_c1 cn pc off [] st h).map (z_rl ls) := by
  unfold z_c1
  repeat (any_goals (split))
  all_goals first | rfl | exact p_z_go ls | exact p_z_br ls | simp_all [p_z_go]
theorem p_z_c2 {cn : ClassFile.Cond} {off : Int} (ls : z_L) : z_c2 cn pc off ls st h = (z_c2 cn pc off [] st h).map (z_rl ls) := by
  unfold z_c2
  repeat (any_goals (split))
  all_goals first | rfl | exact p_z_go ls | exact p_z_br ls | simp_all [p_z_go]
theorem p_z_tsw {d lo hi : Int} {offs : Array Int} (ls : z_L) : z_tsw pc d lo hi offs ls st h = (z_tsw pc d lo hi offs [] st h).map (z_rl ls) := by
  unfold z_tsw
  repeat (any_goals (split))
  all_goals first | rfl | exact p_z_go ls | exact p_z_jmp ls | simp_all [p_z_go]
theorem p_z_lsw {d : Int} {ps : Array (Int × Int)} (ls : z_L) : z_lsw pc d ps ls st h = (z_lsw pc d ps [] st h).map (z_rl ls) := by
  unfold z_lsw
  repeat (any_goals (split))
  all_goals first | rfl | exact p_z_go ls | exact p_z_jmp ls | simp_all [p_z_go]
theorem p_z_gf {o ix : Nat} (ls : z_L) : z_gf o pc ix ls st h = (z_gf o pc ix [] st h).map (z_rl ls) := by
  unfold z_gf
  repeat (any_goals (split))
  all_goals first | rfl | exact p_z_go ls | simp_all [p_z_go]
theorem p_z_pf {ix : Nat} (ls : z_L) : z_pf m pc ix ls st h = (z_pf m pc ix [] st h).map (z_rl ls) := by
  unfold z_pf
  repeat (any_goals (split))
  all_goals first | rfl | exact p_z_go ls | simp_all [p_z_go]
theorem p_z_new {o ix : Nat} (ls : z_L) : z_new o pc ix ls st h = (z_new o pc ix [] st h).map (z_rl ls) := by
  unfold z_new
  repeat (any_goals (split))
  all_goals first | rfl | exact p_z_go ls | simp_all [p_z_go]
theorem p_z_na {t : ArrayType} (ls : z_L) : z_na t pc ls st h = (z_na t pc [] st h).map (z_rl ls) := by
  unfold z_na
  repeat (any_goals (split))
  all_goals first | rfl | exact p_z_go ls | simp_all [p_z_go]
theorem p_z_aw {o ix : Nat} (ls : z_L) : z_aw o pc ix ls st h = (z_aw o pc ix [] st h).map (z_rl ls) := by
  unfold z_aw
  repeat (any_goals (split))
  all_goals first | rfl | exact p_z_go ls | simp_all [p_z_go]
theorem p_z_ia  (ls : z_L) : z_ia X pc ls st h = (z_ia X pc [] st h).map (z_rl ls) := by
  unfold z_ia
  repeat (any_goals (split))
  all_goals first | rfl | exact p_z_go ls | simp_all [p_z_go]
theorem p_z_ba  (ls : z_L) : z_ba pc ls st h = (z_ba pc [] st h).map (z_rl ls) := by
  unfold z_ba
  repeat (any_goals (split))
  all_goals first | rfl | exact p_z_go ls | simp_all [p_z_go]
theorem p_z_la  (ls : z_L) : z_la pc ls st h = (z_la pc [] st h).map (z_rl ls) := by
  unfold z_la
  repeat (any_goals (split))
  all_goals first | rfl | exact p_z_go ls | simp_all [p_z_go]
theorem p_z_aa  (ls : z_L) : z_aa pc ls st h = (z_aa pc [] st h).map (z_rl ls) := by
  unfold z_aa
  repeat (any_goals (split))
  all_goals first | rfl | exact p_z_go ls | simp_all [p_z_go]
theorem p_z_is  (ls : z_L) : z_is pc ls st h = (z_is pc [] st h).map (z_rl ls) := by
  unfold z_is
  repeat (any_goals (split))
  all_goals first | rfl | exact p_z_go ls | simp_all [p_z_go]
theorem p_z_bs  (ls : z_L) : z_bs pc ls st h = (z_bs pc [] st h).map (z_rl ls) := by
  unfold z_bs
  repeat (any_goals (split))
  all_goals first | rfl | exact p_z_go ls | simp_all [p_z_go]
theorem p_z_ls  (ls : z_L) : z_ls pc ls st h = (z_ls pc [] st h).map (z_rl ls) := by
  unfold z_ls
  repeat (any_goals (split))
  all_goals first | rfl | exact p_z_go ls | simp_all [p_z_go]
theorem p_z_as  (ls : z_L) : z_as pc ls st h = (z_as pc [] st h).map (z_rl ls) := by
  unfold z_as
  repeat (any_goals (split))
  all_goals first | rfl | exact p_z_go ls | simp_all [p_z_go]
theorem p_z_al  (ls : z_L) : z_al X pc ls st h = (z_al X pc [] st h).map (z_rl ls) := by
  unfold z_al
  repeat (any_goals (split))
  all_goals first | rfl | exact p_z_go ls | simp_all [p_z_go]
theorem p_z_inv {kd : Nat → Bool} {o ix : Nat} (ls : z_L) : z_inv kd o pc ix ls st h = (z_inv kd o pc ix [] st h).map (z_rl ls) := by
  unfold z_inv
  repeat (any_goals (split))
  all_goals first | rfl | exact p_z_go ls | simp_all [p_z_go]
theorem p_z_acp  (ls : z_L) : z_acp pc ls st h = (z_acp pc [] st h).map (z_rl ls) := by
  unfold z_acp
  repeat (any_goals (split))
  all_goals first | rfl | exact p_z_go ls | simp_all [p_z_go]
theorem p_z_blt {b : Nat} (ls : z_L) : z_blt b pc ls st h = (z_blt b pc [] st h).map (z_rl ls) := by
  unfold z_blt
  repeat (any_goals (split))
  all_goals first | rfl | exact p_z_go ls | exact p_z_acp ls | simp_all [p_z_go]
theorem p_z_ivk {kd bd : Nat → Bool} {o ix : Nat} (ls : z_L) : z_ivk kd bd o pc ix ls st h = (z_ivk kd bd o pc ix [] st h).map (z_rl ls) := by
  unfold z_ivk
  repeat (any_goals (split))
  all_goals first | rfl | exact p_z_go ls | exact p_z_blt ls | exact p_z_inv ls | simp_all [p_z_go]
end ZL
