/-! ===== a run's heap doesn't shrink ===== -/
section ZG
variable {X : z_S} {m : z_M} {pc : Nat} {ls : z_L} {st : List Value} {h : z_H} {q : Nat × z_L × List Value × z_H}
abbrev z_le (h h1 : z_H) : Prop := h.length ≤ h1.length ∧ z_sl h ≤ z_sl h1
theorem z_le_rfl : z_le h h := ⟨Nat.le_refl _, Nat.le_refl _⟩
theorem z_le_set {k : Nat} {c0 c : z_C} (hk : h[k]? = some c0) (he : z_sz c = z_sz c0) : z_le h (h.set k c) := ⟨by rw [List.length_set]; exact Nat.le_refl _, by rw [z_sl_set hk he]; exact Nat.le_refl _⟩
theorem z_le_push {c : z_C} : z_le h (h ++ [c]) := ⟨by simp, by rw [z_sl_push]; omega⟩
theorem z_g_c1 {cn : ClassFile.Cond} {off : Int} (hz : z_c1 cn pc off ls st h = some (.inr (.inl q))) : q.2.2.2 = h := by
  unfold z_c1 at hz
  split at hz
  · split at hz <;> (obtain ⟨t, -, rfl⟩ := z_br_inv hz; rfl)
  · cases hz
theorem z_g_c2 {cn : ClassFile.Cond} {off : Int} (hz : z_c2 cn pc off ls st h = some (.inr (.inl q))) : q.2.2.2 = h := by
  unfold z_c2 at hz
  split at hz
  · split at hz <;> (obtain ⟨t, -, rfl⟩ := z_br_inv hz; rfl)
  · cases hz
theorem z_g_tsw {d lo hi : Int} {offs : Array Int} (hz : z_tsw pc d lo hi offs ls st h = some (.inr (.inl q))) : q.2.2.2 = h := by
  unfold z_tsw at hz
  split at hz
  · split at hz
    · obtain ⟨t, -, rfl⟩ := z_jmp_inv hz; rfl
    · split at hz
      · obtain ⟨t, -, rfl⟩ := z_jmp_inv hz; rfl
      · cases hz
  · cases hz
theorem z_g_lsw {d : Int} {ps : Array (Int × Int)} (hz : z_lsw pc d ps ls st h = some (.inr (.inl q))) : q.2.2.2 = h := by
  unfold z_lsw at hz
  split at hz
  · split at hz
    · obtain ⟨t, -, rfl⟩ := z_jmp_inv hz; rfl
    · cases hz
  · cases hz
theorem z_g_pf {ix : Nat} (hz : z_pf m pc ix ls st h = some (.inr (.inl q))) : z_le h q.2.2.2 := by
  obtain ⟨a, r, ci, k, pl, fs, v, rfl, hf, hh, hkl, hn, hfit, hfin, rfl⟩ := z_pf_inv hz
  exact z_le_set hh (by simp [z_sz])
theorem z_g_new {o ix : Nat} (hz : z_new o pc ix ls st h = some (.inr (.inl q))) : z_le h q.2.2.2 := by
  unfold z_new z_go at hz
  split at hz
  · split at hz
    · cases hz; exact z_le_push
    · cases hz
  · cases hz
theorem z_g_na {t : ArrayType} (hz : z_na t pc ls st h = some (.inr (.inl q))) : z_le h q.2.2.2 := by
  unfold z_na z_go at hz
  split at hz
  · split at hz
    · cases hz
    · split at hz <;> first | (cases hz; exact z_le_push) | cases hz
  · cases hz
theorem z_g_aw {o ix : Nat} (hz : z_aw o pc ix ls st h = some (.inr (.inl q))) : z_le h q.2.2.2 := by
  unfold z_aw z_go at hz
  split at hz
  · split at hz
    · cases hz
    · split at hz
      · cases hz; exact z_le_push
      · cases hz
  · cases hz
theorem z_g_ia (hz : z_ia X pc ls st h = some (.inr (.inl q))) : q.2.2.2 = h := by
  unfold z_ia z_go at hz
  split at hz
  · split at hz
    · split at hz
      · cases hz
      · cases hz; rfl
    · cases hz
  · split at hz
    · split at hz
      · cases hz
      · cases hz; rfl
    · cases hz
  · cases hz
theorem z_g_ba (hz : z_ba pc ls st h = some (.inr (.inl q))) : q.2.2.2 = h := by
  unfold z_ba z_go at hz
  split at hz
  · split at hz
    · split at hz
      · cases hz
      · cases hz; rfl
    · cases hz
  · cases hz
theorem z_g_la (hz : z_la pc ls st h = some (.inr (.inl q))) : q.2.2.2 = h := by
  unfold z_la z_go at hz
  split at hz
  · split at hz
    · split at hz
      · cases hz
      · cases hz; rfl
    · cases hz
  · cases hz
theorem z_g_aa (hz : z_aa pc ls st h = some (.inr (.inl q))) : q.2.2.2 = h := by
  unfold z_aa z_go at hz
  split at hz
  · split at hz
    · split at hz
      · cases hz
      · split at hz
        · cases hz; rfl
        · cases hz
    · cases hz
  · cases hz
theorem z_g_is (hz : z_is pc ls st h = some (.inr (.inl q))) : z_le h q.2.2.2 := by
  unfold z_is z_go at hz
  split at hz
  · split at hz
    · rename_i hh
      split at hz
      · cases hz
      · cases hz; exact z_le_set hh rfl
    · cases hz
  · cases hz
theorem z_g_bs (hz : z_bs pc ls st h = some (.inr (.inl q))) : z_le h q.2.2.2 := by
  unfold z_bs z_go at hz
  split at hz
  · split at hz
    · rename_i hh
      split at hz
      · cases hz
      · cases hz; exact z_le_set hh rfl
    · cases hz
  · cases hz
theorem z_g_ls (hz : z_ls pc ls st h = some (.inr (.inl q))) : z_le h q.2.2.2 := by
  unfold z_ls z_go at hz
  split at hz
  · split at hz
    · rename_i hh
      split at hz
      · cases hz
      · cases hz; exact z_le_set hh rfl
    · cases hz
  · cases hz
theorem z_g_as (hz : z_as pc ls st h = some (.inr (.inl q))) : z_le h q.2.2.2 := by
  unfold z_as z_go at hz
  split at hz
  · split at hz
    · rename_i hh
      split at hz
      · split at hz
        · cases hz
        · cases hz; exact z_le_set hh rfl
      · cases hz
    · cases hz
  · cases hz
theorem z_g_al (hz : z_al X pc ls st h = some (.inr (.inl q))) : q.2.2.2 = h := by
  unfold z_al z_go at hz
  split at hz
  · split at hz
    · cases hz; rfl
    · cases hz
  · split at hz
    · cases hz; rfl
    · cases hz
  · cases hz
theorem z_inv_go {kd : Nat → Bool} {o ix : Nat} (hz : z_inv kd o pc ix ls st h = some (.inr (.inl q))) : False := by
  unfold z_inv at hz
  split at hz
  · split at hz
    · split at hz
      · split at hz <;> cases hz
      · split at hz
        · split at hz <;> cases hz
        · cases hz
    · cases hz
  · cases hz
theorem z_g_acp (hz : z_acp pc ls st h = some (.inr (.inl q))) : z_le h q.2.2.2 := by
  unfold z_acp z_go at hz
  split at hz
  · split at hz
    · rename_i hb ha
      split at hz
      · cases hz; exact z_le_set ha rfl
      · cases hz
    · cases hz
  · cases hz
theorem z_g_blt {b : Nat} (hz : z_blt b pc ls st h = some (.inr (.inl q))) : z_le h q.2.2.2 := by
  unfold z_blt z_go at hz
  split at hz
  · split at hz
    · split at hz
      · cases hz; exact z_le_rfl
      · cases hz
    · cases hz
  · exact z_g_acp hz
  · split at hz
    · split at hz
      · cases hz; exact z_le_rfl
      · cases hz
    · cases hz
  · split at hz
    · split at hz
      · cases hz; exact z_le_rfl
      · cases hz
    · cases hz
  · split at hz
    · split at hz
      · cases hz; exact z_le_rfl
      · cases hz
    · cases hz
  · split at hz
    · split at hz
      · cases hz; exact z_le_rfl
      · cases hz
    · cases hz
  · split at hz
    · split at hz
      · cases hz; exact z_le_rfl
      · cases hz
    · cases hz
  · cases hz
theorem z_g_ivk {kd bd : Nat → Bool} {o ix : Nat} (hz : z_ivk kd bd o pc ix ls st h = some (.inr (.inl q))) : z_le h q.2.2.2 := by
  unfold z_ivk at hz
  split at hz
  · split at hz
    · exact z_g_blt hz
    · cases hz
  · exact (z_inv_go hz).elim
theorem z_le_of (hq : q.2.2.2 = h) : z_le h q.2.2.2 := by rw [hq]; exact z_le_rfl
theorem z_ins_grow {i : Instr} (hz : z_ins X m pc i ls st h = some (.inr (.inl q))) : z_le h q.2.2.2 := by
  cases i
  case iconst => cases hz; exact z_le_rfl
  case bipush => cases hz; exact z_le_rfl
  case sipush => cases hz; exact z_le_rfl
  case lconst => cases hz; exact z_le_rfl
  case iload_n => obtain ⟨x, -, rfl⟩ := z_ldI_inv hz; exact z_le_rfl
  case iload => obtain ⟨x, -, rfl⟩ := z_ldI_inv hz; exact z_le_rfl
  case lload_n => obtain ⟨x, -, rfl⟩ := z_ldL_inv hz; exact z_le_rfl
  case lload => obtain ⟨x, -, rfl⟩ := z_ldL_inv hz; exact z_le_rfl
  case aload_n => obtain ⟨x, -, rfl⟩ := z_ldA_inv hz; exact z_le_rfl
  case aload => obtain ⟨x, -, rfl⟩ := z_ldA_inv hz; exact z_le_rfl
  case istore_n => obtain ⟨x, r, -, -, rfl⟩ := z_stI_inv hz; exact z_le_rfl
  case istore => obtain ⟨x, r, -, -, rfl⟩ := z_stI_inv hz; exact z_le_rfl
  case lstore_n => obtain ⟨x, r, -, -, rfl⟩ := z_stL_inv hz; exact z_le_rfl
  case lstore => obtain ⟨x, r, -, -, rfl⟩ := z_stL_inv hz; exact z_le_rfl
  case astore_n => obtain ⟨x, r, -, -, rfl⟩ := z_stA_inv hz; exact z_le_rfl
  case astore => obtain ⟨x, r, -, -, rfl⟩ := z_stA_inv hz; exact z_le_rfl
  case iinc =>
    simp only [z_ins, z_go] at hz
    split at hz
    · cases hz; exact z_le_rfl
    · cases hz
  case iadd => obtain ⟨x, y, r, -, rfl⟩ := z_bi_inv hz; exact z_le_rfl
  case isub => obtain ⟨x, y, r, -, rfl⟩ := z_bi_inv hz; exact z_le_rfl
  case imul => obtain ⟨x, y, r, -, rfl⟩ := z_bi_inv hz; exact z_le_rfl
  case iand => obtain ⟨x, y, r, -, rfl⟩ := z_bi_inv hz; exact z_le_rfl
  case ior => obtain ⟨x, y, r, -, rfl⟩ := z_bi_inv hz; exact z_le_rfl
  case ixor => obtain ⟨x, y, r, -, rfl⟩ := z_bi_inv hz; exact z_le_rfl
  case ishl => obtain ⟨x, y, r, -, rfl⟩ := z_bi_inv hz; exact z_le_rfl
  case ishr => obtain ⟨x, y, r, -, rfl⟩ := z_bi_inv hz; exact z_le_rfl
  case iushr => obtain ⟨x, y, r, -, rfl⟩ := z_bi_inv hz; exact z_le_rfl
  case idiv => obtain ⟨x, y, r, -, -, rfl⟩ := z_bi0_inv hz; exact z_le_rfl
  case irem => obtain ⟨x, y, r, -, -, rfl⟩ := z_bi0_inv hz; exact z_le_rfl
  case ladd => obtain ⟨x, y, r, -, rfl⟩ := z_bl_inv hz; exact z_le_rfl
  case lsub => obtain ⟨x, y, r, -, rfl⟩ := z_bl_inv hz; exact z_le_rfl
  case lmul => obtain ⟨x, y, r, -, rfl⟩ := z_bl_inv hz; exact z_le_rfl
  case land => obtain ⟨x, y, r, -, rfl⟩ := z_bl_inv hz; exact z_le_rfl
  case lor => obtain ⟨x, y, r, -, rfl⟩ := z_bl_inv hz; exact z_le_rfl
  case ldiv => obtain ⟨x, y, r, -, -, rfl⟩ := z_bl0_inv hz; exact z_le_rfl
  case lrem => obtain ⟨x, y, r, -, -, rfl⟩ := z_bl0_inv hz; exact z_le_rfl
  case ifCond => exact z_le_of (z_g_c1 hz)
  case if_icmp => exact z_le_of (z_g_c2 hz)
  case goto => obtain ⟨t, -, rfl⟩ := z_jmp_inv hz; exact z_le_rfl
  case tableswitch => exact z_le_of (z_g_tsw hz)
  case lookupswitch => exact z_le_of (z_g_lsw hz)
  case getfield => obtain ⟨a, r, ci, k, pl, fs, v, -, -, -, -, rfl⟩ := z_gf_inv hz; exact z_le_rfl
  case putfield => exact z_g_pf hz
  case new => exact z_g_new hz
  case newarray => exact z_g_na hz
  case anewarray => exact z_g_aw hz
  case iaload => exact z_le_of (z_g_ia hz)
  case baload => exact z_le_of (z_g_ba hz)
  case laload => exact z_le_of (z_g_la hz)
  case aaload => exact z_le_of (z_g_aa hz)
  case iastore => exact z_g_is hz
  case bastore => exact z_g_bs hz
  case lastore => exact z_g_ls hz
  case aastore => exact z_g_as hz
  case arraylength => exact z_le_of (z_g_al hz)
  case invokevirtual => exact z_g_ivk hz
  case invokespecial => exact z_g_ivk hz
  case invokestatic => exact z_g_ivk hz
  case ldc =>
    simp only [z_ins, z_go] at hz
    split at hz
    · cases hz; exact z_le_rfl
    · split at hz
      · cases hz; exact z_le_rfl
      · cases hz
  case ireturn =>
    simp only [z_ins] at hz
    split at hz
    · split at hz
      · split at hz <;> cases hz
      · cases hz
    · cases hz
  all_goals first
    | cases hz; done
    | (simp only [z_ins, z_go] at hz; split at hz <;> first | (cases hz; exact z_le_rfl) | cases hz | (split at hz <;> first | (cases hz; exact z_le_rfl) | cases hz))
theorem n_z_go (a : Nat) (b : z_L) (cc : List Value) (d : z_H) {r : Option Value} {h1 : z_H} (hz : z_go a b cc d = some (.inl (r, h1))) : False := by
  cases hz
theorem n_z_ldI {k : Nat} {r : Option Value} {h1 : z_H} (hz : z_ldI pc ls k st h = some (.inl (r, h1))) : False := by
  unfold z_ldI at hz
  repeat (any_goals (split at hz))
  all_goals first | cases hz | exact n_z_go _ _ _ _ hz
theorem n_z_ldL {k : Nat} {r : Option Value} {h1 : z_H} (hz : z_ldL pc ls k st h = some (.inl (r, h1))) : False := by
  unfold z_ldL at hz
  repeat (any_goals (split at hz))
  all_goals first | cases hz | exact n_z_go _ _ _ _ hz
theorem n_z_ldA {k : Nat} {r : Option Value} {h1 : z_H} (hz : z_ldA pc ls k st h = some (.inl (r, h1))) : False := by
  unfold z_ldA at hz
  repeat (any_goals (split at hz))
  all_goals first | cases hz | exact n_z_go _ _ _ _ hz
theorem n_z_stI {k : Nat} {r : Option Value} {h1 : z_H} (hz : z_stI pc ls k st h = some (.inl (r, h1))) : False := by
  unfold z_stI at hz
  repeat (any_goals (split at hz))
  all_goals first | cases hz | exact n_z_go _ _ _ _ hz
theorem n_z_stL {k : Nat} {r : Option Value} {h1 : z_H} (hz : z_stL pc ls k st h = some (.inl (r, h1))) : False := by
  unfold z_stL at hz
  repeat (any_goals (split at hz))
  all_goals first | cases hz | exact n_z_go _ _ _ _ hz
theorem n_z_stA {k : Nat} {r : Option Value} {h1 : z_H} (hz : z_stA pc ls k st h = some (.inl (r, h1))) : False := by
  unfold z_stA at hz
  repeat (any_goals (split at hz))
  all_goals first | cases hz | exact n_z_go _ _ _ _ hz
theorem n_z_bi {f : Int32 → Int32 → Int32} {r : Option Value} {h1 : z_H} (hz : z_bi f pc ls st h = some (.inl (r, h1))) : False := by
  unfold z_bi at hz
  repeat (any_goals (split at hz))
  all_goals first | cases hz | exact n_z_go _ _ _ _ hz
theorem n_z_bl {f : Int64 → Int64 → Int64} {r : Option Value} {h1 : z_H} (hz : z_bl f pc ls st h = some (.inl (r, h1))) : False := by
  unfold z_bl at hz
  repeat (any_goals (split at hz))
  all_goals first | cases hz | exact n_z_go _ _ _ _ hz
theorem n_z_bi0 {f : Int32 → Int32 → Int32} {r : Option Value} {h1 : z_H} (hz : z_bi0 f pc ls st h = some (.inl (r, h1))) : False := by
  unfold z_bi0 at hz
  repeat (any_goals (split at hz))
  all_goals first | cases hz | exact n_z_go _ _ _ _ hz
theorem n_z_bl0 {f : Int64 → Int64 → Int64} {r : Option Value} {h1 : z_H} (hz : z_bl0 f pc ls st h = some (.inl (r, h1))) : False := by
  unfold z_bl0 at hz
  repeat (any_goals (split at hz))
  all_goals first | cases hz | exact n_z_go _ _ _ _ hz
theorem n_z_jmp {off : Int} {r : Option Value} {h1 : z_H} (hz : z_jmp pc off ls st h = some (.inl (r, h1))) : False := by
  unfold z_jmp at hz
  repeat (any_goals (split at hz))
  all_goals first | cases hz | exact n_z_go _ _ _ _ hz
theorem n_z_br {off : Int} {cn : Prop} [Decidable cn] {r : Option Value} {h1 : z_H} (hz : z_br pc off cn ls st h = some (.inl (r, h1))) : False := by
  unfold z_br at hz
  repeat (any_goals (split at hz))
  all_goals first | cases hz | exact n_z_go _ _ _ _ hz | exact n_z_jmp hz
theorem n_z_c1 {cn : ClassFile.Cond} {off : Int} {r : Option Value} {h1 : z_H} (hz : z_c1 cn pc off ls st h = some (.inl (r, h1))) : False := by
  unfold z_c1 at hz
  repeat (any_goals (split at hz))
  all_goals first | cases hz | exact n_z_go _ _ _ _ hz | exact n_z_br hz
theorem n_z_c2 {cn : ClassFile.Cond} {off : Int} {r : Option Value} {h1 : z_H} (hz : z_c2 cn pc off ls st h = some (.inl (r, h1))) : False := by
  unfold z_c2 at hz
  repeat (any_goals (split at hz))
  all_goals first | cases hz | exact n_z_go _ _ _ _ hz | exact n_z_br hz
theorem n_z_tsw {d lo hi : Int} {offs : Array Int} {r : Option Value} {h1 : z_H} (hz : z_tsw pc d lo hi offs ls st h = some (.inl (r, h1))) : False := by
  unfold z_tsw at hz
  repeat (any_goals (split at hz))
  all_goals first | cases hz | exact n_z_go _ _ _ _ hz | exact n_z_jmp hz
theorem n_z_lsw {d : Int} {ps : Array (Int × Int)} {r : Option Value} {h1 : z_H} (hz : z_lsw pc d ps ls st h = some (.inl (r, h1))) : False := by
  unfold z_lsw at hz
  repeat (any_goals (split at hz))
  all_goals first | cases hz | exact n_z_go _ _ _ _ hz | exact n_z_jmp hz
theorem n_z_gf {o ix : Nat} {r : Option Value} {h1 : z_H} (hz : z_gf o pc ix ls st h = some (.inl (r, h1))) : False := by
  unfold z_gf at hz
  repeat (any_goals (split at hz))
  all_goals first | cases hz | exact n_z_go _ _ _ _ hz
theorem n_z_pf {ix : Nat} {r : Option Value} {h1 : z_H} (hz : z_pf m pc ix ls st h = some (.inl (r, h1))) : False := by
  unfold z_pf at hz
  repeat (any_goals (split at hz))
  all_goals first | cases hz | exact n_z_go _ _ _ _ hz
theorem n_z_new {o ix : Nat} {r : Option Value} {h1 : z_H} (hz : z_new o pc ix ls st h = some (.inl (r, h1))) : False := by
  unfold z_new at hz
  repeat (any_goals (split at hz))
  all_goals first | cases hz | exact n_z_go _ _ _ _ hz
theorem n_z_na {t : ArrayType} {r : Option Value} {h1 : z_H} (hz : z_na t pc ls st h = some (.inl (r, h1))) : False := by
  unfold z_na at hz
  repeat (any_goals (split at hz))
  all_goals first | cases hz | exact n_z_go _ _ _ _ hz
theorem n_z_aw {o ix : Nat} {r : Option Value} {h1 : z_H} (hz : z_aw o pc ix ls st h = some (.inl (r, h1))) : False := by
  unfold z_aw at hz
  repeat (any_goals (split at hz))
  all_goals first | cases hz | exact n_z_go _ _ _ _ hz
theorem n_z_ia  {r : Option Value} {h1 : z_H} (hz : z_ia X pc ls st h = some (.inl (r, h1))) : False := by
  unfold z_ia at hz
  repeat (any_goals (split at hz))
  all_goals first | cases hz | exact n_z_go _ _ _ _ hz
theorem n_z_ba  {r : Option Value} {h1 : z_H} (hz : z_ba pc ls st h = some (.inl (r, h1))) : False := by
  unfold z_ba at hz
  repeat (any_goals (split at hz))
  all_goals first | cases hz | exact n_z_go _ _ _ _ hz
theorem n_z_la  {r : Option Value} {h1 : z_H} (hz : z_la pc ls st h = some (.inl (r, h1))) : False := by
  unfold z_la at hz
  repeat (any_goals (split at hz))
  all_goals first | cases hz | exact n_z_go _ _ _ _ hz
theorem n_z_aa  {r : Option Value} {h1 : z_H} (hz : z_aa pc ls st h = some (.inl (r, h1))) : False := by
  unfold z_aa at hz
  repeat (any_goals (split at hz))
  all_goals first | cases hz | exact n_z_go _ _ _ _ hz
theorem n_z_is  {r : Option Value} {h1 : z_H} (hz : z_is pc ls st h = some (.inl (r, h1))) : False := by
  unfold z_is at hz
  repeat (any_goals (split at hz))
  all_goals first | cases hz | exact n_z_go _ _ _ _ hz
theorem n_z_bs  {r : Option Value} {h1 : z_H} (hz : z_bs pc ls st h = some (.inl (r, h1))) : False := by
  unfold z_bs at hz
  repeat (any_goals (split at hz))
  all_goals first | cases hz | exact n_z_go _ _ _ _ hz
theorem n_z_ls  {r : Option Value} {h1 : z_H} (hz : z_ls pc ls st h = some (.inl (r, h1))) : False := by
  unfold z_ls at hz
  repeat (any_goals (split at hz))
  all_goals first | cases hz | exact n_z_go _ _ _ _ hz
theorem n_z_as  {r : Option Value} {h1 : z_H} (hz : z_as pc ls st h = some (.inl (r, h1))) : False := by
  unfold z_as at hz
  repeat (any_goals (split at hz))
  all_goals first | cases hz | exact n_z_go _ _ _ _ hz
theorem n_z_al  {r : Option Value} {h1 : z_H} (hz : z_al X pc ls st h = some (.inl (r, h1))) : False := by
  unfold z_al at hz
  repeat (any_goals (split at hz))
  all_goals first | cases hz | exact n_z_go _ _ _ _ hz
theorem n_z_inv {kd : Nat → Bool} {o ix : Nat} {r : Option Value} {h1 : z_H} (hz : z_inv kd o pc ix ls st h = some (.inl (r, h1))) : False := by
  unfold z_inv at hz
  repeat (any_goals (split at hz))
  all_goals first | cases hz | exact n_z_go _ _ _ _ hz
theorem n_z_acp  {r : Option Value} {h1 : z_H} (hz : z_acp pc ls st h = some (.inl (r, h1))) : False := by
  unfold z_acp at hz
  repeat (any_goals (split at hz))
  all_goals first | cases hz | exact n_z_go _ _ _ _ hz
theorem n_z_blt {b : Nat} {r : Option Value} {h1 : z_H} (hz : z_blt b pc ls st h = some (.inl (r, h1))) : False := by
  unfold z_blt at hz
  repeat (any_goals (split at hz))
  all_goals first | cases hz | exact n_z_go _ _ _ _ hz | exact n_z_acp hz
theorem n_z_ivk {kd bd : Nat → Bool} {o ix : Nat} {r : Option Value} {h1 : z_H} (hz : z_ivk kd bd o pc ix ls st h = some (.inl (r, h1))) : False := by
  unfold z_ivk at hz
  repeat (any_goals (split at hz))
  all_goals first | cases hz | exact n_z_go _ _ _ _ hz | exact n_z_blt hz | exact n_z_inv hz
theorem z_ins_ret {i : Instr} {r : Option Value} {h1 : z_H} (hz : z_ins X m pc i ls st h = some (.inl (r, h1))) : h1 = h := by
  have hgo : ∀ (a : Nat) (b : z_L) (cc : List Value) (d : z_H), z_go a b cc d = some (.inl (r, h1)) → False := fun a b cc d g => by cases g
  cases i
  case ireturn =>
    simp only [z_ins] at hz
    split at hz
    · split at hz
      · split at hz <;> cases hz
        rfl
      · cases hz
    · cases hz
  case lreturn =>
    simp only [z_ins] at hz
    split at hz
    · split at hz <;> cases hz
      rfl
    · cases hz
  case return_ =>
    simp only [z_ins] at hz
    split at hz
    · split at hz <;> cases hz
      rfl
    · cases hz
  case iload_n => exact (n_z_ldI hz).elim
  case iload => exact (n_z_ldI hz).elim
  case lload_n => exact (n_z_ldL hz).elim
  case lload => exact (n_z_ldL hz).elim
  case aload_n => exact (n_z_ldA hz).elim
  case aload => exact (n_z_ldA hz).elim
  case istore_n => exact (n_z_stI hz).elim
  case istore => exact (n_z_stI hz).elim
  case lstore_n => exact (n_z_stL hz).elim
  case lstore => exact (n_z_stL hz).elim
  case astore_n => exact (n_z_stA hz).elim
  case astore => exact (n_z_stA hz).elim
  case iadd => exact (n_z_bi hz).elim
  case isub => exact (n_z_bi hz).elim
  case imul => exact (n_z_bi hz).elim
  case iand => exact (n_z_bi hz).elim
  case ior => exact (n_z_bi hz).elim
  case ixor => exact (n_z_bi hz).elim
  case ishl => exact (n_z_bi hz).elim
  case ishr => exact (n_z_bi hz).elim
  case iushr => exact (n_z_bi hz).elim
  case idiv => exact (n_z_bi0 hz).elim
  case irem => exact (n_z_bi0 hz).elim
  case ladd => exact (n_z_bl hz).elim
  case lsub => exact (n_z_bl hz).elim
  case lmul => exact (n_z_bl hz).elim
  case land => exact (n_z_bl hz).elim
  case lor => exact (n_z_bl hz).elim
  case ldiv => exact (n_z_bl0 hz).elim
  case lrem => exact (n_z_bl0 hz).elim
  case ifCond => exact (n_z_c1 hz).elim
  case if_icmp => exact (n_z_c2 hz).elim
  case goto => exact (n_z_jmp hz).elim
  case tableswitch => exact (n_z_tsw hz).elim
  case lookupswitch => exact (n_z_lsw hz).elim
  case getfield => exact (n_z_gf hz).elim
  case putfield => exact (n_z_pf hz).elim
  case new => exact (n_z_new hz).elim
  case newarray => exact (n_z_na hz).elim
  case anewarray => exact (n_z_aw hz).elim
  case iaload => exact (n_z_ia hz).elim
  case baload => exact (n_z_ba hz).elim
  case laload => exact (n_z_la hz).elim
  case aaload => exact (n_z_aa hz).elim
  case iastore => exact (n_z_is hz).elim
  case bastore => exact (n_z_bs hz).elim
  case lastore => exact (n_z_ls hz).elim
  case aastore => exact (n_z_as hz).elim
  case arraylength => exact (n_z_al hz).elim
  case invokevirtual => exact (n_z_ivk hz).elim
  case invokespecial => exact (n_z_ivk hz).elim
  case invokestatic => exact (n_z_ivk hz).elim
  all_goals exfalso
  all_goals first
    | cases hz; done
    | (simp only [z_ins] at hz; split at hz <;> first | cases hz | exact n_z_go _ _ _ _ hz | (split at hz <;> first | cases hz | exact n_z_go _ _ _ _ hz))
theorem c_z_go (a : Nat) (b : z_L) (cc : List Value) (d : z_H) {cq : Nat × List Value × List Value} (hz : z_go a b cc d = some (.inr (.inr cq))) : False := by
  cases hz
theorem c_z_ldI {k : Nat} {cq : Nat × List Value × List Value} (hz : z_ldI pc ls k st h = some (.inr (.inr cq))) : False := by
  unfold z_ldI at hz
  repeat (any_goals (split at hz))
  all_goals first | cases hz | exact c_z_go _ _ _ _ hz
theorem c_z_ldL {k : Nat} {cq : Nat × List Value × List Value} (hz : z_ldL pc ls k st h = some (.inr (.inr cq))) : False := by
  unfold z_ldL at hz
  repeat (any_goals (split at hz))
  all_goals first | cases hz | exact c_z_go _ _ _ _ hz
theorem c_z_ldA {k : Nat} {cq : Nat × List Value × List Value} (hz : z_ldA pc ls k st h = some (.inr (.inr cq))) : False := by
  unfold z_ldA at hz
  repeat (any_goals (split at hz))
  all_goals first | cases hz | exact c_z_go _ _ _ _ hz
theorem c_z_stI {k : Nat} {cq : Nat × List Value × List Value} (hz : z_stI pc ls k st h = some (.inr (.inr cq))) : False := by
  unfold z_stI at hz
  repeat (any_goals (split at hz))
  all_goals first | cases hz | exact c_z_go _ _ _ _ hz
theorem c_z_stL {k : Nat} {cq : Nat × List Value × List Value} (hz : z_stL pc ls k st h = some (.inr (.inr cq))) : False := by
  unfold z_stL at hz
  repeat (any_goals (split at hz))
  all_goals first | cases hz | exact c_z_go _ _ _ _ hz
theorem c_z_stA {k : Nat} {cq : Nat × List Value × List Value} (hz : z_stA pc ls k st h = some (.inr (.inr cq))) : False := by
  unfold z_stA at hz
  repeat (any_goals (split at hz))
  all_goals first | cases hz | exact c_z_go _ _ _ _ hz
theorem c_z_bi {f : Int32 → Int32 → Int32} {cq : Nat × List Value × List Value} (hz : z_bi f pc ls st h = some (.inr (.inr cq))) : False := by
  unfold z_bi at hz
  repeat (any_goals (split at hz))
  all_goals first | cases hz | exact c_z_go _ _ _ _ hz
theorem c_z_bl {f : Int64 → Int64 → Int64} {cq : Nat × List Value × List Value} (hz : z_bl f pc ls st h = some (.inr (.inr cq))) : False := by
  unfold z_bl at hz
  repeat (any_goals (split at hz))
  all_goals first | cases hz | exact c_z_go _ _ _ _ hz
theorem c_z_bi0 {f : Int32 → Int32 → Int32} {cq : Nat × List Value × List Value} (hz : z_bi0 f pc ls st h = some (.inr (.inr cq))) : False := by
  unfold z_bi0 at hz
  repeat (any_goals (split at hz))
  all_goals first | cases hz | exact c_z_go _ _ _ _ hz
theorem c_z_bl0 {f : Int64 → Int64 → Int64} {cq : Nat × List Value × List Value} (hz : z_bl0 f pc ls st h = some (.inr (.inr cq))) : False := by
  unfold z_bl0 at hz
  repeat (any_goals (split at hz))
  all_goals first | cases hz | exact c_z_go _ _ _ _ hz
theorem c_z_jmp {off : Int} {cq : Nat × List Value × List Value} (hz : z_jmp pc off ls st h = some (.inr (.inr cq))) : False := by
  unfold z_jmp at hz
  repeat (any_goals (split at hz))
  all_goals first | cases hz | exact c_z_go _ _ _ _ hz
theorem c_z_br {off : Int} {cn : Prop} [Decidable cn] {cq : Nat × List Value × List Value} (hz : z_br pc off cn ls st h = some (.inr (.inr cq))) : False := by
  unfold z_br at hz
  repeat (any_goals (split at hz))
  all_goals first | cases hz | exact c_z_go _ _ _ _ hz | exact c_z_jmp hz
theorem c_z_c1 {cn : ClassFile.Cond} {off : Int} {cq : Nat × List Value × List Value} (hz : z_c1 cn pc off ls st h = some (.inr (.inr cq))) : False := by
  unfold z_c1 at hz
  repeat (any_goals (split at hz))
  all_goals first | cases hz | exact c_z_go _ _ _ _ hz | exact c_z_br hz
theorem c_z_c2 {cn : ClassFile.Cond} {off : Int} {cq : Nat × List Value × List Value} (hz : z_c2 cn pc off ls st h = some (.inr (.inr cq))) : False := by
  unfold z_c2 at hz
  repeat (any_goals (split at hz))
  all_goals first | cases hz | exact c_z_go _ _ _ _ hz | exact c_z_br hz
theorem c_z_tsw {d lo hi : Int} {offs : Array Int} {cq : Nat × List Value × List Value} (hz : z_tsw pc d lo hi offs ls st h = some (.inr (.inr cq))) : False := by
  unfold z_tsw at hz
  repeat (any_goals (split at hz))
  all_goals first | cases hz | exact c_z_go _ _ _ _ hz | exact c_z_jmp hz
theorem c_z_lsw {d : Int} {ps : Array (Int × Int)} {cq : Nat × List Value × List Value} (hz : z_lsw pc d ps ls st h = some (.inr (.inr cq))) : False := by
  unfold z_lsw at hz
  repeat (any_goals (split at hz))
  all_goals first | cases hz | exact c_z_go _ _ _ _ hz | exact c_z_jmp hz
theorem c_z_gf {o ix : Nat} {cq : Nat × List Value × List Value} (hz : z_gf o pc ix ls st h = some (.inr (.inr cq))) : False := by
  unfold z_gf at hz
  repeat (any_goals (split at hz))
  all_goals first | cases hz | exact c_z_go _ _ _ _ hz
theorem c_z_pf {ix : Nat} {cq : Nat × List Value × List Value} (hz : z_pf m pc ix ls st h = some (.inr (.inr cq))) : False := by
  unfold z_pf at hz
  repeat (any_goals (split at hz))
  all_goals first | cases hz | exact c_z_go _ _ _ _ hz
theorem c_z_new {o ix : Nat} {cq : Nat × List Value × List Value} (hz : z_new o pc ix ls st h = some (.inr (.inr cq))) : False := by
  unfold z_new at hz
  repeat (any_goals (split at hz))
  all_goals first | cases hz | exact c_z_go _ _ _ _ hz
theorem c_z_na {t : ArrayType} {cq : Nat × List Value × List Value} (hz : z_na t pc ls st h = some (.inr (.inr cq))) : False := by
  unfold z_na at hz
  repeat (any_goals (split at hz))
  all_goals first | cases hz | exact c_z_go _ _ _ _ hz
theorem c_z_aw {o ix : Nat} {cq : Nat × List Value × List Value} (hz : z_aw o pc ix ls st h = some (.inr (.inr cq))) : False := by
  unfold z_aw at hz
  repeat (any_goals (split at hz))
  all_goals first | cases hz | exact c_z_go _ _ _ _ hz
theorem c_z_ia  {cq : Nat × List Value × List Value} (hz : z_ia X pc ls st h = some (.inr (.inr cq))) : False := by
  unfold z_ia at hz
  repeat (any_goals (split at hz))
  all_goals first | cases hz | exact c_z_go _ _ _ _ hz
theorem c_z_ba  {cq : Nat × List Value × List Value} (hz : z_ba pc ls st h = some (.inr (.inr cq))) : False := by
  unfold z_ba at hz
  repeat (any_goals (split at hz))
  all_goals first | cases hz | exact c_z_go _ _ _ _ hz
theorem c_z_la  {cq : Nat × List Value × List Value} (hz : z_la pc ls st h = some (.inr (.inr cq))) : False := by
  unfold z_la at hz
  repeat (any_goals (split at hz))
  all_goals first | cases hz | exact c_z_go _ _ _ _ hz
theorem c_z_aa  {cq : Nat × List Value × List Value} (hz : z_aa pc ls st h = some (.inr (.inr cq))) : False := by
  unfold z_aa at hz
  repeat (any_goals (split at hz))
  all_goals first | cases hz | exact c_z_go _ _ _ _ hz
theorem c_z_is  {cq : Nat × List Value × List Value} (hz : z_is pc ls st h = some (.inr (.inr cq))) : False := by
  unfold z_is at hz
  repeat (any_goals (split at hz))
  all_goals first | cases hz | exact c_z_go _ _ _ _ hz
theorem c_z_bs  {cq : Nat × List Value × List Value} (hz : z_bs pc ls st h = some (.inr (.inr cq))) : False := by
  unfold z_bs at hz
  repeat (any_goals (split at hz))
  all_goals first | cases hz | exact c_z_go _ _ _ _ hz
theorem c_z_ls  {cq : Nat × List Value × List Value} (hz : z_ls pc ls st h = some (.inr (.inr cq))) : False := by
  unfold z_ls at hz
  repeat (any_goals (split at hz))
  all_goals first | cases hz | exact c_z_go _ _ _ _ hz
theorem c_z_as  {cq : Nat × List Value × List Value} (hz : z_as pc ls st h = some (.inr (.inr cq))) : False := by
  unfold z_as at hz
  repeat (any_goals (split at hz))
  all_goals first | cases hz | exact c_z_go _ _ _ _ hz
theorem c_z_al  {cq : Nat × List Value × List Value} (hz : z_al X pc ls st h = some (.inr (.inr cq))) : False := by
  unfold z_al at hz
  repeat (any_goals (split at hz))
  all_goals first | cases hz | exact c_z_go _ _ _ _ hz
theorem c_z_acp  {cq : Nat × List Value × List Value} (hz : z_acp pc ls st h = some (.inr (.inr cq))) : False := by
  unfold z_acp at hz
  repeat (any_goals (split at hz))
  all_goals first | cases hz | exact c_z_go _ _ _ _ hz
theorem c_z_blt {b : Nat} {cq : Nat × List Value × List Value} (hz : z_blt b pc ls st h = some (.inr (.inr cq))) : False := by
  unfold z_blt at hz
  repeat (any_goals (split at hz))
  all_goals first | cases hz | exact c_z_go _ _ _ _ hz | exact c_z_acp hz
theorem c_ivk {kd bd : Nat → Bool} {o ix : Nat} {cq : Nat × List Value × List Value} (hz : z_ivk kd bd o pc ix ls st h = some (.inr (.inr cq))) : z_inv kd o pc ix ls st h = some (.inr (.inr cq)) := by
  unfold z_ivk at hz
  split at hz
  · split at hz
    · exact (c_z_blt hz).elim
    · cases hz
  · exact hz
theorem z_ins_call {i : Instr} {cq : Nat × List Value × List Value} (hz : z_ins X m pc i ls st h = some (.inr (.inr cq))) : ∃ (kd : Nat → Bool) (ix : Nat), z_inv kd (z_o m) pc ix ls st h = some (.inr (.inr cq)) ∧ ((i = .invokevirtual ix ∧ ∀ k, kd k = true → k = 0) ∨ (i = .invokespecial ix ∧ ∀ k, kd k = true → k = 1 ∨ k = 2) ∨ (i = .invokestatic ix ∧ ∀ k, kd k = true → k = 3)) := by
  cases i
  case invokevirtual ix => exact ⟨_, ix, c_ivk hz, Or.inl ⟨rfl, fun k hk => eq_of_beq hk⟩⟩
  case invokespecial ix => exact ⟨_, ix, c_ivk hz, Or.inr (Or.inl ⟨rfl, fun k hk => by simp only [Bool.or_eq_true, beq_iff_eq] at hk; exact hk⟩)⟩
  case invokestatic ix => exact ⟨_, ix, c_ivk hz, Or.inr (Or.inr ⟨rfl, fun k hk => eq_of_beq hk⟩)⟩
  case iload_n => exact (c_z_ldI hz).elim
  case iload => exact (c_z_ldI hz).elim
  case lload_n => exact (c_z_ldL hz).elim
  case lload => exact (c_z_ldL hz).elim
  case aload_n => exact (c_z_ldA hz).elim
  case aload => exact (c_z_ldA hz).elim
  case istore_n => exact (c_z_stI hz).elim
  case istore => exact (c_z_stI hz).elim
  case lstore_n => exact (c_z_stL hz).elim
  case lstore => exact (c_z_stL hz).elim
  case astore_n => exact (c_z_stA hz).elim
  case astore => exact (c_z_stA hz).elim
  case iadd => exact (c_z_bi hz).elim
  case isub => exact (c_z_bi hz).elim
  case imul => exact (c_z_bi hz).elim
  case iand => exact (c_z_bi hz).elim
  case ior => exact (c_z_bi hz).elim
  case ixor => exact (c_z_bi hz).elim
  case ishl => exact (c_z_bi hz).elim
  case ishr => exact (c_z_bi hz).elim
  case iushr => exact (c_z_bi hz).elim
  case idiv => exact (c_z_bi0 hz).elim
  case irem => exact (c_z_bi0 hz).elim
  case ladd => exact (c_z_bl hz).elim
  case lsub => exact (c_z_bl hz).elim
  case lmul => exact (c_z_bl hz).elim
  case land => exact (c_z_bl hz).elim
  case lor => exact (c_z_bl hz).elim
  case ldiv => exact (c_z_bl0 hz).elim
  case lrem => exact (c_z_bl0 hz).elim
  case ifCond => exact (c_z_c1 hz).elim
  case if_icmp => exact (c_z_c2 hz).elim
  case goto => exact (c_z_jmp hz).elim
  case tableswitch => exact (c_z_tsw hz).elim
  case lookupswitch => exact (c_z_lsw hz).elim
  case getfield => exact (c_z_gf hz).elim
  case putfield => exact (c_z_pf hz).elim
  case new => exact (c_z_new hz).elim
  case newarray => exact (c_z_na hz).elim
  case anewarray => exact (c_z_aw hz).elim
  case iaload => exact (c_z_ia hz).elim
  case baload => exact (c_z_ba hz).elim
  case laload => exact (c_z_la hz).elim
  case aaload => exact (c_z_aa hz).elim
  case iastore => exact (c_z_is hz).elim
  case bastore => exact (c_z_bs hz).elim
  case lastore => exact (c_z_ls hz).elim
  case aastore => exact (c_z_as hz).elim
  case arraylength => exact (c_z_al hz).elim
  case ireturn =>
    simp only [z_ins] at hz
    split at hz
    · split at hz
      · split at hz <;> cases hz
      · cases hz
    · cases hz
  all_goals exfalso
  all_goals first
    | cases hz; done
    | (simp only [z_ins] at hz; split at hz <;> first | cases hz | exact c_z_go _ _ _ _ hz | (split at hz <;> first | cases hz | exact c_z_go _ _ _ _ hz))
theorem z_ev_grow : ∀ (n : Nat) (X : z_S) (d : Nat) (m : z_M) (pc : Nat) (ls : z_L) (st : List Value) (h : z_H) (r : Option Value) (h1 : z_H), z_ev n X d m pc ls st h = some (r, h1) → z_le h h1 := by
  intro n
  induction n with
  | zero => intro X d m pc ls st h r h1 hr; cases hr
  | succ n ih =>
    intro X d m pc ls st h r h1 hr
    rw [z_ev] at hr
    cases hs : z_step X m pc ls st h with
    | none => rw [hs] at hr; cases hr
    | some a =>
      rw [hs] at hr
      rcases a with a | a | a
      · cases hr
        unfold z_step at hs
        split at hs
        · split at hs
          · rw [z_ins_ret hs]; exact z_le_rfl
          · cases hs
        · cases hs
      · have h2 := ih _ _ _ _ _ _ _ _ _ hr
        unfold z_step at hs
        split at hs
        · split at hs
          · have h3 := z_ins_grow hs
            exact ⟨Nat.le_trans h3.1 h2.1, Nat.le_trans h3.2 h2.2⟩
          · cases hs
        · cases hs
      · cases d with
        | zero => cases hr
        | succ d =>
          dsimp only at hr
          cases hc : z_ev n none d (z_ms a.1) 0 (z_ent (z_ms a.1) a.2.1) [] h with
          | none => rw [hc] at hr; cases hr
          | some q =>
            rw [hc] at hr
            have h2 := ih _ _ _ _ _ _ _ _ _ hc
            have h3 := ih _ _ _ _ _ _ _ _ _ hr
            exact ⟨Nat.le_trans h2.1 h3.1, Nat.le_trans h2.2 h3.2⟩
end ZG
