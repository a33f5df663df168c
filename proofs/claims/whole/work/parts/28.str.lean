/-! ===== the JDK's methods of texts: String.length, String.charAt of the text of the words ===== -/
theorem jw_coder_i : Cond.instanceMethod yJ0_coder_7d493 ∈ z_T := z_T_in (z_at_mem (p := 2148) (by decide +kernel)) rfl
theorem jw_coder_sel : Cond.selects "java/lang/String" yJ0_coder_7d493 yJ0_coder_7d493 ∈ z_T := z_T_in (z_at_mem (p := 2149) (by decide +kernel)) rfl
theorem jw_coder_c : Cond.code yJ0_coder_7d493 cJ0_coder_7d493 1 (some .byte) ∈ lw_tbl := z_tb_mem (c := 2) (i := 150) rfl
theorem jw_isLatin1_i : Cond.instanceMethod yJ0_isLatin1_aae02 ∈ z_T := z_T_in (z_at_mem (p := 2158) (by decide +kernel)) rfl
theorem jw_isLatin1_sel : Cond.selects "java/lang/String" yJ0_isLatin1_aae02 yJ0_isLatin1_aae02 ∈ z_T := z_T_in (z_at_mem (p := 2159) (by decide +kernel)) rfl
theorem jw_isLatin1_c : Cond.code yJ0_isLatin1_aae02 cJ0_isLatin1_aae02 1 (some .boolean) ∈ lw_tbl := z_tb_mem (c := 2) (i := 160) rfl
theorem jw_checkIndex_s : Cond.static yJ0_checkIndex_df160 ∈ z_T := z_T_in (z_at_mem (p := 2165) (by decide +kernel)) rfl
theorem jw_checkIndex_c : Cond.code yJ0_checkIndex_df160 cJ0_checkIndex_df160 2 (none) ∈ lw_tbl := z_tb_mem (c := 2) (i := 166) rfl
theorem jw_l1charAt_s : Cond.static yJ1_charAt_3b067 ∈ z_T := z_T_in (z_at_mem (p := 2162) (by decide +kernel)) rfl
theorem jw_l1charAt_c : Cond.code yJ1_charAt_3b067 cJ1_charAt_3b067 2 (some .char) ∈ lw_tbl := z_tb_mem (c := 2) (i := 163) rfl
theorem jw_pcheck_s : Cond.static yJ3_checkIndex_8e157 ∈ z_T := z_T_in (z_at_mem (p := 2170) (by decide +kernel)) rfl
theorem jw_pcheck_c : Cond.code yJ3_checkIndex_8e157 cJ3_checkIndex_8e157 3 (some .int) ∈ lw_tbl := z_tb_mem (c := 2) (i := 171) rfl
theorem jw_in_S : Cond.initialized "java/lang/String" ∈ z_T := z_T_in (z_at_mem (p := 15) (by decide +kernel)) rfl
theorem jw_in_L1 : Cond.initialized "java/lang/StringLatin1" ∈ z_T := z_T_in (z_at_mem (p := 16) (by decide +kernel)) rfl
theorem jw_in_PC : Cond.initialized "jdk/internal/util/Preconditions" ∈ z_T := z_T_in (z_at_mem (p := 17) (by decide +kernel)) rfl
theorem jw_f_COMPACT : Cond.fieldLink "java/lang/String" 38 "java/lang/String" "COMPACT_STRINGS" "Z" ∈ z_T := z_T_in (z_at_mem (p := 2151) (by decide +kernel)) rfl
theorem jw_f_coder : Cond.fieldLink "java/lang/String" 15 "java/lang/String" "coder" "B" ∈ z_T := z_T_in (z_at_mem (p := 8153) (by decide +kernel)) rfl
theorem jw_f_value : Cond.fieldLink "java/lang/String" 9 "java/lang/String" "value" "[B" ∈ z_T := z_T_in (z_at_mem (p := 8152) (by decide +kernel)) rfl
theorem jw_f_SIOOBE : Cond.fieldLink "java/lang/String" 1053 "jdk/internal/util/Preconditions" "SIOOBE_FORMATTER" "Ljava/util/function/BiFunction;" ∈ z_T := z_T_in (z_at_mem (p := 2167) (by decide +kernel)) rfl
theorem jw_l_coder : Cond.methodLink "java/lang/String" 335 yJ0_coder_7d493 ∈ z_T := z_T_in (z_at_mem (p := 2147) (by decide +kernel)) rfl
theorem jw_l_isLatin1 : Cond.methodLink "java/lang/String" 492 yJ0_isLatin1_aae02 ∈ z_T := z_T_in (z_at_mem (p := 2157) (by decide +kernel)) rfl
theorem jw_l_l1charAt : Cond.methodLink "java/lang/String" 495 yJ1_charAt_3b067 ∈ z_T := z_T_in (z_at_mem (p := 2161) (by decide +kernel)) rfl
theorem jw_l_checkIndex : Cond.methodLink "java/lang/StringLatin1" 9 yJ0_checkIndex_df160 ∈ z_T := z_T_in (z_at_mem (p := 2164) (by decide +kernel)) rfl
theorem jw_l_pcheck : Cond.methodLink "java/lang/String" 1059 yJ3_checkIndex_8e157 ∈ z_T := z_T_in (z_at_mem (p := 2169) (by decide +kernel)) rfl
theorem dJ0_coder_7d493_0 : decode cJ0_coder_7d493 0 = .ok (.getstatic 38, 3) := by decide +kernel
theorem dJ0_coder_7d493_3 : decode cJ0_coder_7d493 3 = .ok (.ifCond .eq 10, 3) := by decide +kernel
theorem dJ0_coder_7d493_6 : decode cJ0_coder_7d493 6 = .ok (.aload_n 0, 1) := by decide +kernel
theorem dJ0_coder_7d493_7 : decode cJ0_coder_7d493 7 = .ok (.getfield 15, 3) := by decide +kernel
theorem dJ0_coder_7d493_10 : decode cJ0_coder_7d493 10 = .ok (.goto 4, 3) := by decide +kernel
theorem dJ0_coder_7d493_13 : decode cJ0_coder_7d493 13 = .ok (.iconst 1, 1) := by decide +kernel
theorem dJ0_coder_7d493_14 : decode cJ0_coder_7d493 14 = .ok (.ireturn, 1) := by decide +kernel
theorem dJ0_isLatin1_aae02_0 : decode cJ0_isLatin1_aae02 0 = .ok (.getstatic 38, 3) := by decide +kernel
theorem dJ0_isLatin1_aae02_3 : decode cJ0_isLatin1_aae02 3 = .ok (.ifCond .eq 14, 3) := by decide +kernel
theorem dJ0_isLatin1_aae02_6 : decode cJ0_isLatin1_aae02 6 = .ok (.aload_n 0, 1) := by decide +kernel
theorem dJ0_isLatin1_aae02_7 : decode cJ0_isLatin1_aae02 7 = .ok (.getfield 15, 3) := by decide +kernel
theorem dJ0_isLatin1_aae02_10 : decode cJ0_isLatin1_aae02 10 = .ok (.ifCond .ne 7, 3) := by decide +kernel
theorem dJ0_isLatin1_aae02_13 : decode cJ0_isLatin1_aae02 13 = .ok (.iconst 1, 1) := by decide +kernel
theorem dJ0_isLatin1_aae02_14 : decode cJ0_isLatin1_aae02 14 = .ok (.goto 4, 3) := by decide +kernel
theorem dJ0_isLatin1_aae02_17 : decode cJ0_isLatin1_aae02 17 = .ok (.iconst 0, 1) := by decide +kernel
theorem dJ0_isLatin1_aae02_18 : decode cJ0_isLatin1_aae02 18 = .ok (.ireturn, 1) := by decide +kernel
theorem dJ0_checkIndex_df160_0 : decode cJ0_checkIndex_df160 0 = .ok (.iload_n 0, 1) := by decide +kernel
theorem dJ0_checkIndex_df160_1 : decode cJ0_checkIndex_df160 1 = .ok (.iload_n 1, 1) := by decide +kernel
theorem dJ0_checkIndex_df160_2 : decode cJ0_checkIndex_df160 2 = .ok (.getstatic 1053, 3) := by decide +kernel
theorem dJ0_checkIndex_df160_5 : decode cJ0_checkIndex_df160 5 = .ok (.invokestatic 1059, 3) := by decide +kernel
theorem dJ0_checkIndex_df160_8 : decode cJ0_checkIndex_df160 8 = .ok (.pop, 1) := by decide +kernel
theorem dJ0_checkIndex_df160_9 : decode cJ0_checkIndex_df160 9 = .ok (.return_, 1) := by decide +kernel
theorem dJ1_charAt_3b067_0 : decode cJ1_charAt_3b067 0 = .ok (.iload_n 1, 1) := by decide +kernel
theorem dJ1_charAt_3b067_1 : decode cJ1_charAt_3b067 1 = .ok (.aload_n 0, 1) := by decide +kernel
theorem dJ1_charAt_3b067_2 : decode cJ1_charAt_3b067 2 = .ok (.arraylength, 1) := by decide +kernel
theorem dJ1_charAt_3b067_3 : decode cJ1_charAt_3b067 3 = .ok (.invokestatic 9, 3) := by decide +kernel
theorem dJ1_charAt_3b067_6 : decode cJ1_charAt_3b067 6 = .ok (.aload_n 0, 1) := by decide +kernel
theorem dJ1_charAt_3b067_7 : decode cJ1_charAt_3b067 7 = .ok (.iload_n 1, 1) := by decide +kernel
theorem dJ1_charAt_3b067_8 : decode cJ1_charAt_3b067 8 = .ok (.baload, 1) := by decide +kernel
theorem dJ1_charAt_3b067_9 : decode cJ1_charAt_3b067 9 = .ok (.sipush 255, 3) := by decide +kernel
theorem dJ1_charAt_3b067_12 : decode cJ1_charAt_3b067 12 = .ok (.iand, 1) := by decide +kernel
theorem dJ1_charAt_3b067_13 : decode cJ1_charAt_3b067 13 = .ok (.i2c, 1) := by decide +kernel
theorem dJ1_charAt_3b067_14 : decode cJ1_charAt_3b067 14 = .ok (.ireturn, 1) := by decide +kernel
theorem dJ3_checkIndex_8e157_0 : decode cJ3_checkIndex_8e157 0 = .ok (.iload_n 0, 1) := by decide +kernel
theorem dJ3_checkIndex_8e157_1 : decode cJ3_checkIndex_8e157 1 = .ok (.ifCond .lt 8, 3) := by decide +kernel
theorem dJ3_checkIndex_8e157_4 : decode cJ3_checkIndex_8e157 4 = .ok (.iload_n 0, 1) := by decide +kernel
theorem dJ3_checkIndex_8e157_5 : decode cJ3_checkIndex_8e157 5 = .ok (.iload_n 1, 1) := by decide +kernel
theorem dJ3_checkIndex_8e157_6 : decode cJ3_checkIndex_8e157 6 = .ok (.if_icmp .lt 10, 3) := by decide +kernel
theorem dJ3_checkIndex_8e157_9 : decode cJ3_checkIndex_8e157 9 = .ok (.aload_n 2, 1) := by decide +kernel
theorem dJ3_checkIndex_8e157_10 : decode cJ3_checkIndex_8e157 10 = .ok (.iload_n 0, 1) := by decide +kernel
theorem dJ3_checkIndex_8e157_11 : decode cJ3_checkIndex_8e157 11 = .ok (.iload_n 1, 1) := by decide +kernel
theorem dJ3_checkIndex_8e157_12 : decode cJ3_checkIndex_8e157 12 = .ok (.invokestatic 95, 3) := by decide +kernel
theorem dJ3_checkIndex_8e157_15 : decode cJ3_checkIndex_8e157 15 = .ok (.athrow, 1) := by decide +kernel
theorem dJ3_checkIndex_8e157_16 : decode cJ3_checkIndex_8e157 16 = .ok (.iload_n 0, 1) := by decide +kernel
theorem dJ3_checkIndex_8e157_17 : decode cJ3_checkIndex_8e157 17 = .ok (.ireturn, 1) := by decide +kernel
theorem dJ0_length_8abf5_0 : decode cJ0_length_8abf5 0 = .ok (.aload_n 0, 1) := by decide +kernel
theorem dJ0_length_8abf5_1 : decode cJ0_length_8abf5 1 = .ok (.getfield 9, 3) := by decide +kernel
theorem dJ0_length_8abf5_4 : decode cJ0_length_8abf5 4 = .ok (.arraylength, 1) := by decide +kernel
theorem dJ0_length_8abf5_5 : decode cJ0_length_8abf5 5 = .ok (.aload_n 0, 1) := by decide +kernel
theorem dJ0_length_8abf5_6 : decode cJ0_length_8abf5 6 = .ok (.invokevirtual 335, 3) := by decide +kernel
theorem dJ0_length_8abf5_9 : decode cJ0_length_8abf5 9 = .ok (.ishr, 1) := by decide +kernel
theorem dJ0_length_8abf5_10 : decode cJ0_length_8abf5 10 = .ok (.ireturn, 1) := by decide +kernel
theorem dJ0_charAt_5068e_0 : decode cJ0_charAt_5068e 0 = .ok (.aload_n 0, 1) := by decide +kernel
theorem dJ0_charAt_5068e_1 : decode cJ0_charAt_5068e 1 = .ok (.invokevirtual 492, 3) := by decide +kernel
theorem dJ0_charAt_5068e_4 : decode cJ0_charAt_5068e 4 = .ok (.ifCond .eq 12, 3) := by decide +kernel
theorem dJ0_charAt_5068e_7 : decode cJ0_charAt_5068e 7 = .ok (.aload_n 0, 1) := by decide +kernel
theorem dJ0_charAt_5068e_8 : decode cJ0_charAt_5068e 8 = .ok (.getfield 9, 3) := by decide +kernel
theorem dJ0_charAt_5068e_11 : decode cJ0_charAt_5068e 11 = .ok (.iload_n 1, 1) := by decide +kernel
theorem dJ0_charAt_5068e_12 : decode cJ0_charAt_5068e 12 = .ok (.invokestatic 495, 3) := by decide +kernel
theorem dJ0_charAt_5068e_15 : decode cJ0_charAt_5068e 15 = .ok (.ireturn, 1) := by decide +kernel
theorem dJ0_charAt_5068e_16 : decode cJ0_charAt_5068e 16 = .ok (.aload_n 0, 1) := by decide +kernel
theorem dJ0_charAt_5068e_17 : decode cJ0_charAt_5068e 17 = .ok (.getfield 9, 3) := by decide +kernel
theorem dJ0_charAt_5068e_20 : decode cJ0_charAt_5068e 20 = .ok (.iload_n 1, 1) := by decide +kernel
theorem dJ0_charAt_5068e_21 : decode cJ0_charAt_5068e 21 = .ok (.invokestatic 498, 3) := by decide +kernel
theorem dJ0_charAt_5068e_24 : decode cJ0_charAt_5068e 24 = .ok (.ireturn, 1) := by decide +kernel
theorem j_coder (l : Launch) (B : Nat × Nat × Nat) (sv : Nat) : Met l yJ0_coder_7d493 (.code yJ0_coder_7d493 cJ0_coder_7d493 1 (some .byte) :: z_T) { frames := 1, cells := 0, slots := 0, locals := 20 } (va_Pc [.ref B.2.1] (fun U => z_X B sv U U.heap)) (vp_Si (fun r => r = 0)) 0 0 (fun _ => False) := by
  refine Met.ofW (cc := cJ0_coder_7d493) (maxL := 1) (ret := some .byte) (by decide) rfl ?_
  intro p e s m args below meth c s₁ BD hml hv
  obtain ⟨rfl, hX⟩ := hv
  have hx := BD.exec
  have hb := BD.bytes
  have hr := BD.returns
  have hlocks := BD.notSynchronized
  have hts1 := atoms_spec (ws := .code yJ0_coder_7d493 cJ0_coder_7d493 1 (some .byte) :: z_T) BD.pre
  have hts : ∀ w ∈ z_T, w.before _ s = true := fun w hw => hts1 w (List.mem_cons_of_mem _ hw)
  have hown : s.vm.findClass "java/lang/String" = some m.cls := findClass_of_methodNamed BD.named
  have hS : va_S (fun q => B.2.2 ≤ q) s.heap s.heap [] := va_S.rf
  have hE := hX.2.2.2.1.1 0 (by omega)
  have hpre : ∀ U : State, U.heap = s.heap → s.WarmedH U.vm → z_X B sv U U.heap := fun U hU hW => by rw [hU]; exact hX.warm hW
  have hblind : ∀ av : List Value, FrameBlind (va_Pc av (fun U => z_X B sv U U.heap)) := fun av a U g mk hq => ⟨hq.1, z_X.same (u := U) (U := U.calling g mk a) (H := U.heap) rfl hq.2⟩
  have hl := lv_entry ([.ref B.2.1]) (n := 1) (Nat.le_of_ble_eq_true rfl)
  rw [lg_entry_eq]
  generalize (lg_sl ([.ref B.2.1]) ++ List.replicate (1 - (lg_sl ([.ref B.2.1])).length) Slot.unset).toArray = ls at hl ⊢
  have hl : lv_has ls 1 [(0, .ref B.2.1)] := hl
  refine va_gets hx hb hX.2.2.2.2.1 hS hown (hts _ jw_f_COMPACT) (fun _ g => g) dJ0_coder_7d493_0 ?_
  refine lv_if_eq (tgt := 13) hx hb dJ0_coder_7d493_3 (by decide) (fun c => absurd c (by decide)) (fun c => ?_)
  refine lv_aload_n hx hb dJ0_coder_7d493_6 rfl (lv_at hl 0 rfl) ?_
  refine vk_getf hx hb hE.2.1 hS hown (hts _ jw_f_coder) (fun _ g => g) dJ0_coder_7d493_7 ?_
  refine lv_goto (tgt := 14) hx hb dJ0_coder_7d493_10 (by decide) ?_
  exact W.zret (ty := .byte) hx hb hr rfl (fun t ht hW => ⟨0, rfl, rfl, ht⟩) (fun q h => by cases h) dJ0_coder_7d493_14
theorem j_isLatin1 (l : Launch) (B : Nat × Nat × Nat) (sv : Nat) : Met l yJ0_isLatin1_aae02 (.code yJ0_isLatin1_aae02 cJ0_isLatin1_aae02 1 (some .boolean) :: z_T) { frames := 1, cells := 0, slots := 0, locals := 20 } (va_Pc [.ref B.2.1] (fun U => z_X B sv U U.heap)) (vp_Si (fun r => r = 1)) 0 0 (fun _ => False) := by
  refine Met.ofW (cc := cJ0_isLatin1_aae02) (maxL := 1) (ret := some .boolean) (by decide) rfl ?_
  intro p e s m args below meth c s₁ BD hml hv
  obtain ⟨rfl, hX⟩ := hv
  have hx := BD.exec
  have hb := BD.bytes
  have hr := BD.returns
  have hlocks := BD.notSynchronized
  have hts1 := atoms_spec (ws := .code yJ0_isLatin1_aae02 cJ0_isLatin1_aae02 1 (some .boolean) :: z_T) BD.pre
  have hts : ∀ w ∈ z_T, w.before _ s = true := fun w hw => hts1 w (List.mem_cons_of_mem _ hw)
  have hown : s.vm.findClass "java/lang/String" = some m.cls := findClass_of_methodNamed BD.named
  have hS : va_S (fun q => B.2.2 ≤ q) s.heap s.heap [] := va_S.rf
  have hE := hX.2.2.2.1.1 0 (by omega)
  have hpre : ∀ U : State, U.heap = s.heap → s.WarmedH U.vm → z_X B sv U U.heap := fun U hU hW => by rw [hU]; exact hX.warm hW
  have hblind : ∀ av : List Value, FrameBlind (va_Pc av (fun U => z_X B sv U U.heap)) := fun av a U g mk hq => ⟨hq.1, z_X.same (u := U) (U := U.calling g mk a) (H := U.heap) rfl hq.2⟩
  have hl := lv_entry ([.ref B.2.1]) (n := 1) (Nat.le_of_ble_eq_true rfl)
  rw [lg_entry_eq]
  generalize (lg_sl ([.ref B.2.1]) ++ List.replicate (1 - (lg_sl ([.ref B.2.1])).length) Slot.unset).toArray = ls at hl ⊢
  have hl : lv_has ls 1 [(0, .ref B.2.1)] := hl
  refine va_gets hx hb hX.2.2.2.2.1 hS hown (hts _ jw_f_COMPACT) (fun _ g => g) dJ0_isLatin1_aae02_0 ?_
  refine lv_if_eq (tgt := 17) hx hb dJ0_isLatin1_aae02_3 (by decide) (fun c => absurd c (by decide)) (fun c => ?_)
  refine lv_aload_n hx hb dJ0_isLatin1_aae02_6 rfl (lv_at hl 0 rfl) ?_
  refine vk_getf hx hb hE.2.1 hS hown (hts _ jw_f_coder) (fun _ g => g) dJ0_isLatin1_aae02_7 ?_
  refine lv_if_ne (tgt := 17) hx hb dJ0_isLatin1_aae02_10 (by decide) (fun c => absurd rfl c) (fun c => ?_)
  refine lv_iconst (v := 1) hx hb dJ0_isLatin1_aae02_13 (by decide) ?_
  refine lv_goto (tgt := 18) hx hb dJ0_isLatin1_aae02_14 (by decide) ?_
  exact W.zret (ty := .boolean) hx hb hr rfl (fun t ht hW => ⟨1, rfl, rfl, ht⟩) (fun q h => by cases h) dJ0_isLatin1_aae02_18
theorem j_pcheck (l : Launch) (B : Nat × Nat × Nat) (sv : Nat) (i n : Int32) (f : Value) (hf : f.category = 1) (h0 : ¬ i < 0) (h1 : i < n) : Met l yJ3_checkIndex_8e157 (.code yJ3_checkIndex_8e157 cJ3_checkIndex_8e157 3 (some .int) :: z_T) { frames := 1, cells := 0, slots := 0, locals := 20 } (va_Pc [.int i, .int n, f] (fun U => z_X B sv U U.heap)) (vp_Si (fun r => r = i)) 0 0 (fun _ => False) := by
  refine Met.ofW (cc := cJ3_checkIndex_8e157) (maxL := 3) (ret := some .int) (by decide) rfl ?_
  intro p e s m args below meth c s₁ BD hml hv
  obtain ⟨rfl, hX⟩ := hv
  have hx := BD.exec
  have hb := BD.bytes
  have hr := BD.returns
  have hlocks := BD.notSynchronized
  have hts1 := atoms_spec (ws := .code yJ3_checkIndex_8e157 cJ3_checkIndex_8e157 3 (some .int) :: z_T) BD.pre
  have hts : ∀ w ∈ z_T, w.before _ s = true := fun w hw => hts1 w (List.mem_cons_of_mem _ hw)
  have hown : s.vm.findClass "jdk/internal/util/Preconditions" = some m.cls := findClass_of_methodNamed BD.named
  have hS : va_S (fun q => B.2.2 ≤ q) s.heap s.heap [] := va_S.rf
  have hE := hX.2.2.2.1.1 0 (by omega)
  have hpre : ∀ U : State, U.heap = s.heap → s.WarmedH U.vm → z_X B sv U U.heap := fun U hU hW => by rw [hU]; exact hX.warm hW
  have hblind : ∀ av : List Value, FrameBlind (va_Pc av (fun U => z_X B sv U U.heap)) := fun av a U g mk hq => ⟨hq.1, z_X.same (u := U) (U := U.calling g mk a) (H := U.heap) rfl hq.2⟩
  have hl := lv_entry ([.int i, .int n, f]) (n := 3) (by rw [z_args_len]; simp only [List.map_cons, List.map_nil, List.sum_cons, List.sum_nil, hf]; exact Nat.le_of_ble_eq_true rfl)
  rw [lg_entry_eq]
  generalize (lg_sl ([.int i, .int n, f]) ++ List.replicate (3 - (lg_sl ([.int i, .int n, f])).length) Slot.unset).toArray = ls at hl ⊢
  have hl : lv_has ls 3 [(0, .int i), (1, .int n)] := lv_sub hl [0, 1] rfl
  refine lv_iload_n hx hb dJ3_checkIndex_8e157_0 rfl (lv_at hl 0 rfl) ?_
  refine lv_if_lt (tgt := 9) hx hb dJ3_checkIndex_8e157_1 (by decide) (fun c => absurd c h0) (fun c => ?_)
  refine lv_iload_n hx hb dJ3_checkIndex_8e157_4 rfl (lv_at hl 0 rfl) ?_
  refine lv_iload_n hx hb dJ3_checkIndex_8e157_5 rfl (lv_at hl 1 rfl) ?_
  refine lv_icmp_lt (tgt := 16) hx hb dJ3_checkIndex_8e157_6 (by decide) (fun c => ?_) (fun c => absurd h1 c)
  refine lv_iload_n hx hb dJ3_checkIndex_8e157_16 rfl (lv_at hl 0 rfl) ?_
  exact W.zret (ty := .int) hx hb hr rfl (fun t ht hW => ⟨i, rfl, rfl, ht⟩) (fun q h => by cases h) dJ3_checkIndex_8e157_17
theorem z_callSv {p : Program} {l : Launch} {e : Env} {R : Room} {s : State} {m' : MethodId} {args : Array Value} {below : List Frame} {meth : Method} {c : Code} {Q : State → Prop} {pc : Nat} {H : Heap} {locs : List Loc} {cells slots : Nat} {post : Unit → Prop} {rest st0 : List Value} {arr : Array Slot} {a : Array Value} (hr : va_Run p l e R s m' args below meth c H locs cells slots 0 0 (F0 m' pc arr st0) rest (va_Sv post a) (fun _ => False)) (kk : W p l e R s m' args below meth c H locs cells slots Q (F0 m' (pc + 3) arr rest)) : W p l e R s m' args below meth c H locs cells slots Q (F0 m' pc arr st0) := by
  intro T hT X
  obtain ⟨v, st₀, t, T', L, h0, X', hL, e1, e2, ⟨hv, hp, hh⟩, st⟩ := hr T hT X
  cases hv
  obtain ⟨t2, a1, b1⟩ := kk T' (by rw [e1, hh, h0]) (Stand.forget X' (fun q h => (hL q h).elim))
  exact ⟨t2, st t2 a1, b1⟩
theorem j_checkIndex (l : Launch) (B : Nat × Nat × Nat) (sv : Nat) (i n : Int32) (h0 : ¬ i < 0) (h1 : i < n) : Met l yJ0_checkIndex_df160 (.code yJ0_checkIndex_df160 cJ0_checkIndex_df160 2 (none) :: z_T) { frames := 2, cells := 0, slots := 0, locals := 50 } (va_Pc [.int i, .int n] (fun U => z_X B sv U U.heap)) (va_Sv (fun _ => True)) 0 0 (fun _ => False) := by
  refine Met.ofW (cc := cJ0_checkIndex_df160) (maxL := 2) (ret := none) (by decide) rfl ?_
  intro p e s m args below meth c s₁ BD hml hv
  obtain ⟨rfl, hX⟩ := hv
  have hx := BD.exec
  have hb := BD.bytes
  have hr := BD.returns
  have hlocks := BD.notSynchronized
  have hts1 := atoms_spec (ws := .code yJ0_checkIndex_df160 cJ0_checkIndex_df160 2 (none) :: z_T) BD.pre
  have hts : ∀ w ∈ z_T, w.before _ s = true := fun w hw => hts1 w (List.mem_cons_of_mem _ hw)
  have hown : s.vm.findClass "java/lang/String" = some m.cls := findClass_of_methodNamed BD.named
  have hS : va_S (fun q => B.2.2 ≤ q) s.heap s.heap [] := va_S.rf
  have hE := hX.2.2.2.1.1 0 (by omega)
  have hpre : ∀ U : State, U.heap = s.heap → s.WarmedH U.vm → z_X B sv U U.heap := fun U hU hW => by rw [hU]; exact hX.warm hW
  have hblind : ∀ av : List Value, FrameBlind (va_Pc av (fun U => z_X B sv U U.heap)) := fun av a U g mk hq => ⟨hq.1, z_X.same (u := U) (U := U.calling g mk a) (H := U.heap) rfl hq.2⟩
  have hl := lv_entry ([.int i, .int n]) (n := 2) (Nat.le_of_ble_eq_true rfl)
  rw [lg_entry_eq]
  generalize (lg_sl ([.int i, .int n]) ++ List.replicate (2 - (lg_sl ([.int i, .int n])).length) Slot.unset).toArray = ls at hl ⊢
  have hl : lv_has ls 2 [(0, .int i), (1, .int n)] := hl
  refine lv_iload_n hx hb dJ0_checkIndex_df160_0 rfl (lv_at hl 0 rfl) ?_
  refine lv_iload_n hx hb dJ0_checkIndex_df160_1 rfl (lv_at hl 1 rfl) ?_
  rcases hX.2.2.2.2.2 with hZ | ⟨t, hZ⟩
  · skip
    refine va_gets hx hb hZ hS hown (hts _ jw_f_SIOOBE) (fun _ g => g) dJ0_checkIndex_df160_2 ?_
    refine z_callSi (post := fun r => r = i) (va_runS (As := [.int i, .int n, .null]) (rest := []) ⟨hx, hb, hml, hown, hts⟩ (j_pcheck l B sv i n (.null) rfl h0 h1) ⟨callB_of 3 hts (z_good_ws jw_pcheck_c) rfl rfl rfl (hts _ jw_in_PC) (hts _ jw_l_pcheck) (by decide +kernel) ⟨Nat.le_of_ble_eq_true rfl, Nat.le_of_ble_eq_true rfl⟩, hts _ jw_pcheck_s⟩ ⟨hblind _, fun U hU hW => ⟨rfl, hpre U hU hW⟩⟩ rfl rfl hl.1 rfl (lv_room (Nat.le_of_ble_eq_true rfl)) dJ0_checkIndex_df160_5 ⟨Nat.le_of_ble_eq_true rfl, Nat.le_of_ble_eq_true rfl⟩) fun r hr1 => ?_
    refine lv_pop (va := .int r) hx hb dJ0_checkIndex_df160_8 rfl ?_
    exact W.vret hx hb hr (fun t ht hW => ⟨rfl, trivial, ht⟩) (fun q h => by cases h) dJ0_checkIndex_df160_9
  · skip
    refine va_gets hx hb hZ hS hown (hts _ jw_f_SIOOBE) (fun _ g => g) dJ0_checkIndex_df160_2 ?_
    refine z_callSi (post := fun r => r = i) (va_runS (As := [.int i, .int n, .ref t]) (rest := []) ⟨hx, hb, hml, hown, hts⟩ (j_pcheck l B sv i n (.ref t) rfl h0 h1) ⟨callB_of 3 hts (z_good_ws jw_pcheck_c) rfl rfl rfl (hts _ jw_in_PC) (hts _ jw_l_pcheck) (by decide +kernel) ⟨Nat.le_of_ble_eq_true rfl, Nat.le_of_ble_eq_true rfl⟩, hts _ jw_pcheck_s⟩ ⟨hblind _, fun U hU hW => ⟨rfl, hpre U hU hW⟩⟩ rfl rfl hl.1 rfl (lv_room (Nat.le_of_ble_eq_true rfl)) dJ0_checkIndex_df160_5 ⟨Nat.le_of_ble_eq_true rfl, Nat.le_of_ble_eq_true rfl⟩) fun r hr1 => ?_
    refine lv_pop (va := .int r) hx hb dJ0_checkIndex_df160_8 rfl ?_
    exact W.vret hx hb hr (fun t ht hW => ⟨rfl, trivial, ht⟩) (fun q h => by cases h) dJ0_checkIndex_df160_9
theorem z_txt_char : ∀ j, j < 152 → ((z_txt.getD j 0 &&& 255).toUInt32 % 65536).toInt32 = z_txt.getD j 0 ∧ narrow .char (.int (z_txt.getD j 0)) = .int (z_txt.getD j 0) := by decide +kernel
theorem j_l1charAt (l : Launch) (B : Nat × Nat × Nat) (sv : Nat) (i : Int32) (hi : ¬ (i < 0 ∨ 152 ≤ i.toNatClampNeg)) : Met l yJ1_charAt_3b067 (.code yJ1_charAt_3b067 cJ1_charAt_3b067 2 (some .char) :: z_T) { frames := 3, cells := 0, slots := 0, locals := 80 } (va_Pc [.ref sv, .int i] (fun U => z_X B sv U U.heap)) (vp_Si (fun r => r = z_txt.getD i.toNatClampNeg 0)) 0 0 (fun _ => False) := by
  refine Met.ofW (cc := cJ1_charAt_3b067) (maxL := 2) (ret := some .char) (by decide) rfl ?_
  intro p e s m args below meth c s₁ BD hml hv
  obtain ⟨rfl, hX⟩ := hv
  have hx := BD.exec
  have hb := BD.bytes
  have hr := BD.returns
  have hlocks := BD.notSynchronized
  have hts1 := atoms_spec (ws := .code yJ1_charAt_3b067 cJ1_charAt_3b067 2 (some .char) :: z_T) BD.pre
  have hts : ∀ w ∈ z_T, w.before _ s = true := fun w hw => hts1 w (List.mem_cons_of_mem _ hw)
  have hown : s.vm.findClass "java/lang/StringLatin1" = some m.cls := findClass_of_methodNamed BD.named
  have hS : va_S (fun q => B.2.2 ≤ q) s.heap s.heap [] := va_S.rf
  have hE := hX.2.2.2.1.1 0 (by omega)
  have hpre : ∀ U : State, U.heap = s.heap → s.WarmedH U.vm → z_X B sv U U.heap := fun U hU hW => by rw [hU]; exact hX.warm hW
  have hblind : ∀ av : List Value, FrameBlind (va_Pc av (fun U => z_X B sv U U.heap)) := fun av a U g mk hq => ⟨hq.1, z_X.same (u := U) (U := U.calling g mk a) (H := U.heap) rfl hq.2⟩
  have hl := lv_entry ([.ref sv, .int i]) (n := 2) (Nat.le_of_ble_eq_true rfl)
  rw [lg_entry_eq]
  generalize (lg_sl ([.ref sv, .int i]) ++ List.replicate (2 - (lg_sl ([.ref sv, .int i])).length) Slot.unset).toArray = ls at hl ⊢
  have hl : lv_has ls 2 [(0, .ref sv), (1, .int i)] := hl
  have h0 : ¬ i < 0 := fun g => hi (Or.inl g)
  have hj : i.toNatClampNeg < 152 := Nat.not_le.mp fun g => hi (Or.inr g)
  have h1 : i < 152 := by
    have e1 := (vp_in_iff (x := i) (n := 152)).mp hi
    rw [Int32.lt_iff_toInt_lt]
    exact e1.2
  obtain ⟨hch, hna⟩ := z_txt_char _ hj
  refine lv_iload_n hx hb dJ1_charAt_3b067_0 rfl (lv_at hl 1 rfl) ?_
  refine lv_aload_n hx hb dJ1_charAt_3b067_1 rfl (lv_at hl 0 rfl) ?_
  refine va_tlen hx hb hE.2.2.2 hS (v := 152) rfl dJ1_charAt_3b067_2 ?_
  refine z_callSv (va_runS (As := [.int i, .int 152]) (rest := []) ⟨hx, hb, hml, hown, hts⟩ (j_checkIndex l B sv i 152 h0 h1) ⟨callB_of 2 hts (z_good_ws jw_checkIndex_c) rfl rfl rfl (hts _ jw_in_S) (hts _ jw_l_checkIndex) (by decide +kernel) ⟨Nat.le_of_ble_eq_true rfl, Nat.le_of_ble_eq_true rfl⟩, hts _ jw_checkIndex_s⟩ ⟨hblind _, fun U hU hW => ⟨rfl, hpre U hU hW⟩⟩ rfl rfl hl.1 rfl (lv_room (Nat.le_of_ble_eq_true rfl)) dJ1_charAt_3b067_3 ⟨Nat.le_of_ble_eq_true rfl, Nat.le_of_ble_eq_true rfl⟩) ?_
  refine lv_aload_n hx hb dJ1_charAt_3b067_6 rfl (lv_at hl 0 rfl) ?_
  refine lv_iload_n hx hb dJ1_charAt_3b067_7 rfl (lv_at hl 1 rfl) ?_
  refine va_tb hx hb hE.2.2.2 hS hi (v := .int (z_txt.getD i.toNatClampNeg 0)) rfl dJ1_charAt_3b067_8 ?_
  refine lv_sipush (v := 255) hx hb dJ1_charAt_3b067_9 (by decide) ?_
  refine lv_iand hx hb dJ1_charAt_3b067_12 ?_
  refine lv_i2c hx hb dJ1_charAt_3b067_13 hch ?_
  exact W.zret (ty := .char) hx hb hr hna (fun t ht hW => ⟨_, rfl, rfl, ht⟩) (fun q h => by cases h) dJ1_charAt_3b067_14
theorem j_length (l : Launch) (B : Nat × Nat × Nat) (sv : Nat) : Met l yJ0_length_8abf5 (.code yJ0_length_8abf5 cJ0_length_8abf5 1 (some .int) :: z_T) { frames := 5, cells := 0, slots := 0, locals := 120 } (va_Pc [.ref B.2.1] (fun U => z_X B sv U U.heap)) (vp_Si (fun r => r = 152)) 0 0 (fun _ => False) := by
  refine Met.ofW (cc := cJ0_length_8abf5) (maxL := 1) (ret := some .int) (by decide) rfl ?_
  intro p e s m args below meth c s₁ BD hml hv
  obtain ⟨rfl, hX⟩ := hv
  have hx := BD.exec
  have hb := BD.bytes
  have hr := BD.returns
  have hlocks := BD.notSynchronized
  have hts1 := atoms_spec (ws := .code yJ0_length_8abf5 cJ0_length_8abf5 1 (some .int) :: z_T) BD.pre
  have hts : ∀ w ∈ z_T, w.before _ s = true := fun w hw => hts1 w (List.mem_cons_of_mem _ hw)
  have hown : s.vm.findClass "java/lang/String" = some m.cls := findClass_of_methodNamed BD.named
  have hS : va_S (fun q => B.2.2 ≤ q) s.heap s.heap [] := va_S.rf
  have hE := hX.2.2.2.1.1 0 (by omega)
  have hpre : ∀ U : State, U.heap = s.heap → s.WarmedH U.vm → z_X B sv U U.heap := fun U hU hW => by rw [hU]; exact hX.warm hW
  have hblind : ∀ av : List Value, FrameBlind (va_Pc av (fun U => z_X B sv U U.heap)) := fun av a U g mk hq => ⟨hq.1, z_X.same (u := U) (U := U.calling g mk a) (H := U.heap) rfl hq.2⟩
  have hl := lv_entry ([.ref B.2.1]) (n := 1) (Nat.le_of_ble_eq_true rfl)
  rw [lg_entry_eq]
  generalize (lg_sl ([.ref B.2.1]) ++ List.replicate (1 - (lg_sl ([.ref B.2.1])).length) Slot.unset).toArray = ls at hl ⊢
  have hl : lv_has ls 1 [(0, .ref B.2.1)] := hl
  refine lv_aload_n hx hb dJ0_length_8abf5_0 rfl (lv_at hl 0 rfl) ?_
  refine vk_getf hx hb hE.2.2.1 hS hown (hts _ jw_f_value) (fun _ g => g) dJ0_length_8abf5_1 ?_
  refine va_tlen hx hb hE.2.2.2 hS (v := 152) rfl dJ0_length_8abf5_4 ?_
  refine lv_aload_n hx hb dJ0_length_8abf5_5 rfl (lv_at hl 0 rfl) ?_
  refine z_callSi (post := fun r => r = 0) (va_runV (As := []) (b := B.2.1) (rest := [.int 152]) (C := "java/lang/String") ⟨hx, hb, hml, hown, hts⟩ (j_coder l B sv) ⟨callB_of 0 hts (z_good_ws jw_coder_c) rfl rfl rfl (hts _ jw_in_S) (hts _ jw_l_coder) (by decide +kernel) ⟨Nat.le_of_ble_eq_true rfl, Nat.le_of_ble_eq_true rfl⟩, hts _ jw_coder_i, hts _ jw_coder_sel⟩ ⟨hblind _, vk_recv hX.2.2.2.1 (i := 0) (by omega) hS, fun U hU hW => ⟨rfl, hpre U hU hW⟩⟩ rfl rfl hl.1 rfl (lv_room (Nat.le_of_ble_eq_true rfl)) dJ0_length_8abf5_6 ⟨Nat.le_of_ble_eq_true rfl, Nat.le_of_ble_eq_true rfl⟩) fun r hr1 => ?_
  subst hr1
  refine lv_ishr hx hb dJ0_length_8abf5_9 ?_
  exact W.iret (v := 152) hx hb hr (fun t ht hW => ⟨152, rfl, rfl, ht⟩) (fun q h => by cases h) dJ0_length_8abf5_10
theorem j_charAt (l : Launch) (B : Nat × Nat × Nat) (sv : Nat) (i : Int32) (hi : ¬ (i < 0 ∨ 152 ≤ i.toNatClampNeg)) : Met l yJ0_charAt_5068e (.code yJ0_charAt_5068e cJ0_charAt_5068e 2 (some .char) :: z_T) { frames := 5, cells := 0, slots := 0, locals := 120 } (va_Pc [.ref B.2.1, .int i] (fun U => z_X B sv U U.heap)) (vp_Si (fun r => r = z_txt.getD i.toNatClampNeg 0)) 0 0 (fun _ => False) := by
  refine Met.ofW (cc := cJ0_charAt_5068e) (maxL := 2) (ret := some .char) (by decide) rfl ?_
  intro p e s m args below meth c s₁ BD hml hv
  obtain ⟨rfl, hX⟩ := hv
  have hx := BD.exec
  have hb := BD.bytes
  have hr := BD.returns
  have hlocks := BD.notSynchronized
  have hts1 := atoms_spec (ws := .code yJ0_charAt_5068e cJ0_charAt_5068e 2 (some .char) :: z_T) BD.pre
  have hts : ∀ w ∈ z_T, w.before _ s = true := fun w hw => hts1 w (List.mem_cons_of_mem _ hw)
  have hown : s.vm.findClass "java/lang/String" = some m.cls := findClass_of_methodNamed BD.named
  have hS : va_S (fun q => B.2.2 ≤ q) s.heap s.heap [] := va_S.rf
  have hE := hX.2.2.2.1.1 0 (by omega)
  have hpre : ∀ U : State, U.heap = s.heap → s.WarmedH U.vm → z_X B sv U U.heap := fun U hU hW => by rw [hU]; exact hX.warm hW
  have hblind : ∀ av : List Value, FrameBlind (va_Pc av (fun U => z_X B sv U U.heap)) := fun av a U g mk hq => ⟨hq.1, z_X.same (u := U) (U := U.calling g mk a) (H := U.heap) rfl hq.2⟩
  have hl := lv_entry ([.ref B.2.1, .int i]) (n := 2) (Nat.le_of_ble_eq_true rfl)
  rw [lg_entry_eq]
  generalize (lg_sl ([.ref B.2.1, .int i]) ++ List.replicate (2 - (lg_sl ([.ref B.2.1, .int i])).length) Slot.unset).toArray = ls at hl ⊢
  have hl : lv_has ls 2 [(0, .ref B.2.1), (1, .int i)] := hl
  have hj : i.toNatClampNeg < 152 := Nat.not_le.mp fun g => hi (Or.inr g)
  obtain ⟨hch, hna⟩ := z_txt_char _ hj
  refine lv_aload_n hx hb dJ0_charAt_5068e_0 rfl (lv_at hl 0 rfl) ?_
  refine z_callSi (post := fun r => r = 1) (va_runV (As := []) (b := B.2.1) (rest := []) (C := "java/lang/String") ⟨hx, hb, hml, hown, hts⟩ (j_isLatin1 l B sv) ⟨callB_of 0 hts (z_good_ws jw_isLatin1_c) rfl rfl rfl (hts _ jw_in_S) (hts _ jw_l_isLatin1) (by decide +kernel) ⟨Nat.le_of_ble_eq_true rfl, Nat.le_of_ble_eq_true rfl⟩, hts _ jw_isLatin1_i, hts _ jw_isLatin1_sel⟩ ⟨hblind _, vk_recv hX.2.2.2.1 (i := 0) (by omega) hS, fun U hU hW => ⟨rfl, hpre U hU hW⟩⟩ rfl rfl hl.1 rfl (lv_room (Nat.le_of_ble_eq_true rfl)) dJ0_charAt_5068e_1 ⟨Nat.le_of_ble_eq_true rfl, Nat.le_of_ble_eq_true rfl⟩) fun r hr1 => ?_
  subst hr1
  refine lv_if_eq (tgt := 16) hx hb dJ0_charAt_5068e_4 (by decide) (fun c => absurd c (by decide)) (fun c => ?_)
  refine lv_aload_n hx hb dJ0_charAt_5068e_7 rfl (lv_at hl 0 rfl) ?_
  refine vk_getf hx hb hE.2.2.1 hS hown (hts _ jw_f_value) (fun _ g => g) dJ0_charAt_5068e_8 ?_
  refine lv_iload_n hx hb dJ0_charAt_5068e_11 rfl (lv_at hl 1 rfl) ?_
  refine z_callSi (post := fun r => r = z_txt.getD i.toNatClampNeg 0) (va_runS (As := [.ref sv, .int i]) (rest := []) ⟨hx, hb, hml, hown, hts⟩ (j_l1charAt l B sv i hi) ⟨callB_of 2 hts (z_good_ws jw_l1charAt_c) rfl rfl rfl (hts _ jw_in_L1) (hts _ jw_l_l1charAt) (by decide +kernel) ⟨Nat.le_of_ble_eq_true rfl, Nat.le_of_ble_eq_true rfl⟩, hts _ jw_l1charAt_s⟩ ⟨hblind _, fun U hU hW => ⟨rfl, hpre U hU hW⟩⟩ rfl rfl hl.1 rfl (lv_room (Nat.le_of_ble_eq_true rfl)) dJ0_charAt_5068e_12 ⟨Nat.le_of_ble_eq_true rfl, Nat.le_of_ble_eq_true rfl⟩) fun r hr1 => ?_
  subst hr1
  exact W.zret (ty := .char) hx hb hr hna (fun t ht hW => ⟨_, rfl, rfl, ht⟩) (fun q h => by cases h) dJ0_charAt_5068e_15
theorem z_str_ok (l : Launch) : z_Str l := fun B sv => ⟨j_length l B sv, fun i hi => j_charAt l B sv i hi⟩
