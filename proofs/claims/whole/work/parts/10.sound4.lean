/-! ===== every instruction that goes on; returns; calls; runs ===== -/
section ZS
variable {X : z_S} {B : Nat × Nat × Nat} {D : va_G} {ca : FieldType → ClassId} {sv : Nat} {m : z_M} {k0 s0 : Nat} {p : Program} {l : Launch} {e : Env} {R : Room} {s : State} {m' : MethodId} {args : Array Value} {below : List Frame} {meth : Method} {c : Code} {Q : State → Prop}
variable {pc : Nat} {ls : z_L} {st : List Value} {h : z_H} {q : Nat × z_L × List Value × z_H}
theorem z_s_c1 {cn : ClassFile.Cond} {off : Int} (C : z_Ctx X B D ca sv m k0 p R s m' args meth c) (hd : decode (z_b m) pc = .ok (.ifCond cn off, 3)) (hz : z_c1 cn pc off ls st h = some (.inr (.inl q))) (k : z_OK B D ca m k0 s0 p l e R s m' args below meth c Q q.1 q.2.1 q.2.2.1 q.2.2.2) : z_OK B D ca m k0 s0 p l e R s m' args below meth c Q pc ls st h := by
  obtain ⟨hx, hb, hml, hret, hlk, hnm, hown, hts, hK, hXt, hs, hScr, hfr, hlo⟩ := C
  unfold z_c1 at hz
  split at hz
  · split at hz <;> (obtain ⟨t, ht, rfl⟩ := z_br_inv hz; intro H locs arr hP hS hL)
    · exact lv_if_eq hx hb hd ht (fun hc => z_brT k hc H locs arr hP hS hL) (fun hc => z_brF k hc H locs arr hP hS hL)
    · exact lv_if_ne hx hb hd ht (fun hc => z_brT k hc H locs arr hP hS hL) (fun hc => z_brF k (fun g => g hc) H locs arr hP hS hL)
    · exact lv_if_lt hx hb hd ht (fun hc => z_brT k hc H locs arr hP hS hL) (fun hc => z_brF k hc H locs arr hP hS hL)
    · exact lv_if_ge hx hb hd ht (fun hc => z_brT k hc H locs arr hP hS hL) (fun hc => z_brF k hc H locs arr hP hS hL)
    · exact lv_if_gt hx hb hd ht (fun hc => z_brT k hc H locs arr hP hS hL) (fun hc => z_brF k hc H locs arr hP hS hL)
    · exact lv_if_le hx hb hd ht (fun hc => z_brT k hc H locs arr hP hS hL) (fun hc => z_brF k hc H locs arr hP hS hL)
  · cases hz
theorem z_s_c2 {cn : ClassFile.Cond} {off : Int} (C : z_Ctx X B D ca sv m k0 p R s m' args meth c) (hd : decode (z_b m) pc = .ok (.if_icmp cn off, 3)) (hz : z_c2 cn pc off ls st h = some (.inr (.inl q))) (k : z_OK B D ca m k0 s0 p l e R s m' args below meth c Q q.1 q.2.1 q.2.2.1 q.2.2.2) : z_OK B D ca m k0 s0 p l e R s m' args below meth c Q pc ls st h := by
  obtain ⟨hx, hb, hml, hret, hlk, hnm, hown, hts, hK, hXt, hs, hScr, hfr, hlo⟩ := C
  unfold z_c2 at hz
  split at hz
  · split at hz <;> (obtain ⟨t, ht, rfl⟩ := z_br_inv hz; intro H locs arr hP hS hL)
    · exact lv_icmp_eq hx hb hd ht (fun hc => z_brT k hc H locs arr hP hS hL) (fun hc => z_brF k hc H locs arr hP hS hL)
    · exact lv_icmp_ne hx hb hd ht (fun hc => z_brT k hc H locs arr hP hS hL) (fun hc => z_brF k (fun g => g hc) H locs arr hP hS hL)
    · exact lv_icmp_lt hx hb hd ht (fun hc => z_brT k hc H locs arr hP hS hL) (fun hc => z_brF k hc H locs arr hP hS hL)
    · exact lv_icmp_ge hx hb hd ht (fun hc => z_brT k hc H locs arr hP hS hL) (fun hc => z_brF k hc H locs arr hP hS hL)
    · exact lv_icmp_gt hx hb hd ht (fun hc => z_brT k hc H locs arr hP hS hL) (fun hc => z_brF k hc H locs arr hP hS hL)
    · exact lv_icmp_le hx hb hd ht (fun hc => z_brT k hc H locs arr hP hS hL) (fun hc => z_brF k hc H locs arr hP hS hL)
  · cases hz
theorem z_s_tsw {d lo hi : Int} {offs : Array Int} {len : Nat} (C : z_Ctx X B D ca sv m k0 p R s m' args meth c) (hd : decode (z_b m) pc = .ok (.tableswitch d lo hi offs, len)) (hz : z_tsw pc d lo hi offs ls st h = some (.inr (.inl q))) (k : z_OK B D ca m k0 s0 p l e R s m' args below meth c Q q.1 q.2.1 q.2.2.1 q.2.2.2) : z_OK B D ca m k0 s0 p l e R s m' args below meth c Q pc ls st h := by
  obtain ⟨hx, hb, hml, hret, hlk, hnm, hown, hts, hK, hXt, hs, hScr, hfr, hlo⟩ := C
  unfold z_tsw at hz
  split at hz
  · split at hz
    · rename_i hc
      obtain ⟨t, ht, rfl⟩ := z_jmp_inv hz
      intro H locs arr hP hS hL
      exact lv_tableOut hx hb hd hc ht (k H locs arr hP hS hL)
    · rename_i hc
      split at hz
      · rename_i off ho
        obtain ⟨t, ht, rfl⟩ := z_jmp_inv hz
        intro H locs arr hP hS hL
        exact lv_tableIn hx hb hd (fun g => hc (Or.inl g)) (fun g => hc (Or.inr g)) ho ht (k H locs arr hP hS hL)
      · cases hz
  · cases hz
theorem z_s_lsw {d : Int} {ps : Array (Int × Int)} {len : Nat} (C : z_Ctx X B D ca sv m k0 p R s m' args meth c) (hd : decode (z_b m) pc = .ok (.lookupswitch d ps, len)) (hz : z_lsw pc d ps ls st h = some (.inr (.inl q))) (k : z_OK B D ca m k0 s0 p l e R s m' args below meth c Q q.1 q.2.1 q.2.2.1 q.2.2.2) : z_OK B D ca m k0 s0 p l e R s m' args below meth c Q pc ls st h := by
  obtain ⟨hx, hb, hml, hret, hlk, hnm, hown, hts, hK, hXt, hs, hScr, hfr, hlo⟩ := C
  unfold z_lsw at hz
  split at hz
  · split at hz
    · rename_i hc
      obtain ⟨t, ht, rfl⟩ := z_jmp_inv hz
      intro H locs arr hP hS hL
      exact lv_lookup hx hb hd hc rfl ht (k H locs arr hP hS hL)
    · cases hz
  · cases hz
theorem z_go_sound {i : Instr} {len : Nat} (hStr : z_Str l) (C : z_Ctx X B D ca sv m k0 p R s m' args meth c) (hk0 : k0 ≤ h.length) (hs0 : s0 ≤ z_sl h) (hr1 : q.2.2.2.length - k0 ≤ R.cells) (hr2 : z_sl q.2.2.2 - s0 ≤ R.slots) (hd : decode (z_b m) pc = .ok (i, len)) (hl : z_len i len = true) (hz : z_ins X m pc i ls st h = some (.inr (.inl q))) (k : z_OK B D ca m k0 s0 p l e R s m' args below meth c Q q.1 q.2.1 q.2.2.1 q.2.2.2) : z_OK B D ca m k0 s0 p l e R s m' args below meth c Q pc ls st h := by
  have C0 := C
  obtain ⟨hx, hb, hml, hret, hlk, hnm, hown, hts, hK, hXt, hs, hScr, hfr, hlo⟩ := C0
  cases i
  case iconst => obtain rfl := z_l1 hl; cases hz; intro H locs arr hP hS hL; exact lv_iconst hx hb hd rfl (k H locs arr hP hS hL)
  case bipush => obtain rfl := z_l1 hl; cases hz; intro H locs arr hP hS hL; exact lv_bipush hx hb hd rfl (k H locs arr hP hS hL)
  case sipush => obtain rfl := z_l1 hl; cases hz; intro H locs arr hP hS hL; exact lv_sipush hx hb hd rfl (k H locs arr hP hS hL)
  case lconst => obtain rfl := z_l1 hl; cases hz; intro H locs arr hP hS hL; exact lv_lconst hx hb hd rfl (k H locs arr hP hS hL)
  case iload_n => obtain rfl := z_l1 hl; obtain ⟨x, hx1, rfl⟩ := z_ldI_inv hz; intro H locs arr hP hS hL; exact lv_iload_n hx hb hd rfl (hL.get hx1) (k H locs arr hP hS hL)
  case iload => obtain rfl := z_l1 hl; obtain ⟨x, hx1, rfl⟩ := z_ldI_inv hz; intro H locs arr hP hS hL; exact lv_iload hx hb hd (hL.get hx1) (k H locs arr hP hS hL)
  case lload_n => obtain rfl := z_l1 hl; obtain ⟨x, hx1, rfl⟩ := z_ldL_inv hz; intro H locs arr hP hS hL; exact lv_lload_n hx hb hd rfl (hL.get hx1) (k H locs arr hP hS hL)
  case lload => obtain rfl := z_l1 hl; obtain ⟨x, hx1, rfl⟩ := z_ldL_inv hz; intro H locs arr hP hS hL; exact lv_lload hx hb hd (hL.get hx1) (k H locs arr hP hS hL)
  case aload_n => obtain rfl := z_l1 hl; obtain ⟨x, hx1, rfl⟩ := z_ldA_inv hz; intro H locs arr hP hS hL; exact lv_aload_n hx hb hd rfl (hL.get hx1) (k H locs arr hP hS hL)
  case aload => obtain rfl := z_l1 hl; obtain ⟨x, hx1, rfl⟩ := z_ldA_inv hz; intro H locs arr hP hS hL; exact lv_aload hx hb hd (hL.get hx1) (k H locs arr hP hS hL)
  case istore_n => obtain rfl := z_l1 hl; obtain ⟨x, r, rfl, hk, rfl⟩ := z_stI_inv hz; intro H locs arr hP hS hL; exact lv_istore_n hx hb hd rfl hL.2 (by rw [← hL.1]; exact hk) rfl (fun a1 hl1 => k H locs a1 hP hS (z_st1_ok hL.1 hl1))
  case istore => obtain rfl := z_l1 hl; obtain ⟨x, r, rfl, hk, rfl⟩ := z_stI_inv hz; intro H locs arr hP hS hL; exact lv_istore hx hb hd hL.2 (by rw [← hL.1]; exact hk) rfl (fun a1 hl1 => k H locs a1 hP hS (z_st1_ok hL.1 hl1))
  case lstore_n => obtain rfl := z_l1 hl; obtain ⟨x, r, rfl, hk, rfl⟩ := z_stL_inv hz; intro H locs arr hP hS hL; exact lv_lstore_n hx hb hd rfl hL.2 (by rw [← hL.1]; exact hk) rfl (fun a1 hl1 => k H locs a1 hP hS (z_st2_ok hL.1 hl1))
  case lstore => obtain rfl := z_l1 hl; obtain ⟨x, r, rfl, hk, rfl⟩ := z_stL_inv hz; intro H locs arr hP hS hL; exact lv_lstore hx hb hd hL.2 (by rw [← hL.1]; exact hk) rfl (fun a1 hl1 => k H locs a1 hP hS (z_st2_ok hL.1 hl1))
  case astore_n => obtain rfl := z_l1 hl; obtain ⟨x, r, rfl, hk, rfl⟩ := z_stA_inv hz; intro H locs arr hP hS hL; exact lv_astore_n hx hb hd rfl hL.2 (by rw [← hL.1]; exact hk) rfl (fun a1 hl1 => k H locs a1 hP hS (z_st1_ok (v := .ref x) hL.1 hl1))
  case astore => obtain rfl := z_l1 hl; obtain ⟨x, r, rfl, hk, rfl⟩ := z_stA_inv hz; intro H locs arr hP hS hL; exact lv_astore hx hb hd hL.2 (by rw [← hL.1]; exact hk) rfl (fun a1 hl1 => k H locs a1 hP hS (z_st1_ok (v := .ref x) hL.1 hl1))
  case iinc i n =>
    obtain rfl := z_l1 hl
    simp only [z_ins, z_go] at hz
    split at hz
    · rename_i x hx1
      cases hz
      intro H locs arr hP hS hL
      obtain ⟨kk, hkk⟩ := List.getElem?_of_mem ((z_asc_mem B ls 0 _).mpr ⟨i, .int x, rfl, hx1⟩)
      rw [Nat.zero_add] at hkk
      exact lv_iinc hx hb hd hL.2 hkk rfl (by rw [← hL.1]; exact (List.getElem?_eq_some_iff.mp hx1).1) rfl (fun a1 hl1 => k H locs a1 hP hS (z_st1_ok hL.1 hl1))
    · cases hz
  case iadd => obtain rfl := z_l1 hl; obtain ⟨x, y, r, rfl, rfl⟩ := z_bi_inv hz; intro H locs arr hP hS hL; exact lv_iadd hx hb hd (k H locs arr hP hS hL)
  case isub => obtain rfl := z_l1 hl; obtain ⟨x, y, r, rfl, rfl⟩ := z_bi_inv hz; intro H locs arr hP hS hL; exact lv_isub hx hb hd (k H locs arr hP hS hL)
  case imul => obtain rfl := z_l1 hl; obtain ⟨x, y, r, rfl, rfl⟩ := z_bi_inv hz; intro H locs arr hP hS hL; exact lv_imul hx hb hd (k H locs arr hP hS hL)
  case iand => obtain rfl := z_l1 hl; obtain ⟨x, y, r, rfl, rfl⟩ := z_bi_inv hz; intro H locs arr hP hS hL; exact lv_iand hx hb hd (k H locs arr hP hS hL)
  case ior => obtain rfl := z_l1 hl; obtain ⟨x, y, r, rfl, rfl⟩ := z_bi_inv hz; intro H locs arr hP hS hL; exact lv_ior hx hb hd (k H locs arr hP hS hL)
  case ixor => obtain rfl := z_l1 hl; obtain ⟨x, y, r, rfl, rfl⟩ := z_bi_inv hz; intro H locs arr hP hS hL; exact lv_ixor hx hb hd (k H locs arr hP hS hL)
  case ishl => obtain rfl := z_l1 hl; obtain ⟨x, y, r, rfl, rfl⟩ := z_bi_inv hz; intro H locs arr hP hS hL; exact lv_ishl hx hb hd (k H locs arr hP hS hL)
  case ishr => obtain rfl := z_l1 hl; obtain ⟨x, y, r, rfl, rfl⟩ := z_bi_inv hz; intro H locs arr hP hS hL; exact lv_ishr hx hb hd (k H locs arr hP hS hL)
  case iushr => obtain rfl := z_l1 hl; obtain ⟨x, y, r, rfl, rfl⟩ := z_bi_inv hz; intro H locs arr hP hS hL; exact lv_iushr hx hb hd rfl (k H locs arr hP hS hL)
  case idiv => obtain rfl := z_l1 hl; obtain ⟨x, y, r, rfl, hy, rfl⟩ := z_bi0_inv hz; intro H locs arr hP hS hL; exact lv_idiv hx hb hd hy (k H locs arr hP hS hL)
  case irem => obtain rfl := z_l1 hl; obtain ⟨x, y, r, rfl, hy, rfl⟩ := z_bi0_inv hz; intro H locs arr hP hS hL; exact lv_irem hx hb hd hy (k H locs arr hP hS hL)
  case ladd => obtain rfl := z_l1 hl; obtain ⟨x, y, r, rfl, rfl⟩ := z_bl_inv hz; intro H locs arr hP hS hL; exact lv_ladd hx hb hd (k H locs arr hP hS hL)
  case lsub => obtain rfl := z_l1 hl; obtain ⟨x, y, r, rfl, rfl⟩ := z_bl_inv hz; intro H locs arr hP hS hL; exact lv_lsub hx hb hd (k H locs arr hP hS hL)
  case lmul => obtain rfl := z_l1 hl; obtain ⟨x, y, r, rfl, rfl⟩ := z_bl_inv hz; intro H locs arr hP hS hL; exact lv_lmul hx hb hd (k H locs arr hP hS hL)
  case land => obtain rfl := z_l1 hl; obtain ⟨x, y, r, rfl, rfl⟩ := z_bl_inv hz; intro H locs arr hP hS hL; exact lv_land hx hb hd (k H locs arr hP hS hL)
  case lor => obtain rfl := z_l1 hl; obtain ⟨x, y, r, rfl, rfl⟩ := z_bl_inv hz; intro H locs arr hP hS hL; exact lv_lor hx hb hd (k H locs arr hP hS hL)
  case ldiv => obtain rfl := z_l1 hl; obtain ⟨x, y, r, rfl, hy, rfl⟩ := z_bl0_inv hz; intro H locs arr hP hS hL; exact lv_ldiv hx hb hd hy (k H locs arr hP hS hL)
  case lrem => obtain rfl := z_l1 hl; obtain ⟨x, y, r, rfl, hy, rfl⟩ := z_bl0_inv hz; intro H locs arr hP hS hL; exact lv_lrem hx hb hd hy (k H locs arr hP hS hL)
  case lshl =>
    obtain rfl := z_l1 hl
    simp only [z_ins, z_go] at hz
    split at hz
    · cases hz; intro H locs arr hP hS hL; exact lv_lshl hx hb hd rfl (k H locs arr hP hS hL)
    · cases hz
  case lcmp =>
    obtain rfl := z_l1 hl
    simp only [z_ins, z_go] at hz
    split at hz
    · cases hz; intro H locs arr hP hS hL; exact W.lcmp hx hb hd (k H locs arr hP hS hL)
    · cases hz
  case ineg =>
    obtain rfl := z_l1 hl
    simp only [z_ins, z_go] at hz
    split at hz
    · cases hz; intro H locs arr hP hS hL; exact lv_ineg hx hb hd (k H locs arr hP hS hL)
    · cases hz
  case i2l =>
    obtain rfl := z_l1 hl
    simp only [z_ins, z_go] at hz
    split at hz
    · cases hz; intro H locs arr hP hS hL; exact lv_i2l hx hb hd rfl (k H locs arr hP hS hL)
    · cases hz
  case l2i =>
    obtain rfl := z_l1 hl
    simp only [z_ins, z_go] at hz
    split at hz
    · cases hz; intro H locs arr hP hS hL; exact lv_l2i hx hb hd rfl (k H locs arr hP hS hL)
    · cases hz
  case i2b =>
    obtain rfl := z_l1 hl
    simp only [z_ins, z_go] at hz
    split at hz
    · cases hz; intro H locs arr hP hS hL; exact lv_i2b hx hb hd rfl (k H locs arr hP hS hL)
    · cases hz
  case i2s =>
    obtain rfl := z_l1 hl
    simp only [z_ins, z_go] at hz
    split at hz
    · cases hz; intro H locs arr hP hS hL; exact lv_i2s hx hb hd rfl (k H locs arr hP hS hL)
    · cases hz
  case dup =>
    obtain rfl := z_l1 hl
    simp only [z_ins, z_go] at hz
    split at hz
    · split at hz
      · rename_i hc; cases hz; intro H locs arr hP hS hL; exact lv_dup hx hb hd (by rw [z_cv_cat]; exact hc) (k H locs arr hP hS hL)
      · cases hz
    · cases hz
  case pop =>
    obtain rfl := z_l1 hl
    simp only [z_ins, z_go] at hz
    split at hz
    · split at hz
      · rename_i v r hc; cases hz; intro H locs arr hP hS hL; exact lv_pop (va := z_cv B v) hx hb hd (by rw [z_cv_cat]; exact hc) (k H locs arr hP hS hL)
      · cases hz
    · cases hz
  case dup2 =>
    obtain rfl := z_l1 hl
    simp only [z_ins, z_go] at hz
    split at hz
    · split at hz
      · rename_i hc; cases hz; intro H locs arr hP hS hL; exact lv_dup2_11 hx hb hd (by rw [z_cv_cat]; exact hc.1) (by rw [z_cv_cat]; exact hc.2) (k H locs arr hP hS hL)
      · cases hz
    · cases hz
  case ifCond => obtain rfl := z_l1 hl; exact z_s_c1 C hd hz k
  case if_icmp => obtain rfl := z_l1 hl; exact z_s_c2 C hd hz k
  case goto => obtain rfl := z_l1 hl; obtain ⟨t, ht, rfl⟩ := z_jmp_inv hz; intro H locs arr hP hS hL; exact lv_goto hx hb hd ht (k H locs arr hP hS hL)
  case tableswitch => exact z_s_tsw C hd hz k
  case lookupswitch => exact z_s_lsw C hd hz k
  case ldc ix =>
    obtain rfl := z_l1 hl
    simp only [z_ins, z_go] at hz
    split at hz
    · rename_i v pl hv
      cases hz
      intro H locs arr hP hS hL
      exact lv_ldc hx hb hown (hts _ (z_kc_ok hv)) hd (k H locs arr hP hS hL)
    · split at hz
      · rename_i hc
        cases hz
        intro H locs arr hP hS hL
        have h7 : z_R (z_o m) = "DitchSaint$Tokens" := by rw [hc.1]; rfl
        rw [h7] at hown
        rw [hc.2] at hd
        exact va_ldcS hx hb hown hXt.2.2.1 hd (k H locs arr hP hS hL)
      · cases hz
  case ldc_w ix =>
    obtain rfl := z_l1 hl
    simp only [z_ins, z_go] at hz
    split at hz
    · rename_i v pl hv
      cases hz
      intro H locs arr hP hS hL
      exact lv_ldcw hx hb hown (hts _ (z_kc_ok hv)) hd (k H locs arr hP hS hL)
    · cases hz
  case ldc2_w ix =>
    obtain rfl := z_l1 hl
    simp only [z_ins, z_go] at hz
    split at hz
    · rename_i v pl hv
      cases hz
      intro H locs arr hP hS hL
      exact lv_ldc2 hx hb hown (hts _ (z_kl_ok hv)) hd (k H locs arr hP hS hL)
    · cases hz
  case getfield => obtain rfl := z_l1 hl; exact z_s_get C hd hz k
  case putfield => obtain rfl := z_l1 hl; exact z_s_put C hd hz k
  case new => obtain rfl := z_l1 hl; exact z_s_new C hk0 hs0 hr1 hr2 hd hz k
  case newarray => obtain rfl := z_l1 hl; exact z_s_na C hk0 hs0 hr1 hr2 hd hz k
  case anewarray => obtain rfl := z_l1 hl; exact z_s_aw C hk0 hs0 hr1 hr2 hd hz k
  case iaload => obtain rfl := z_l1 hl; exact z_s_ia C hd hz k
  case baload => obtain rfl := z_l1 hl; exact z_s_ba C hd hz k
  case laload => obtain rfl := z_l1 hl; exact z_s_la C hd hz k
  case aaload => obtain rfl := z_l1 hl; exact z_s_aa C hd hz k
  case iastore => obtain rfl := z_l1 hl; exact z_s_is C hd hz k
  case bastore => obtain rfl := z_l1 hl; exact z_s_bs C hd hz k
  case lastore => obtain rfl := z_l1 hl; exact z_s_ls C hd hz k
  case aastore => obtain rfl := z_l1 hl; exact z_s_as C hd hz k
  case arraylength => obtain rfl := z_l1 hl; exact z_s_al C hd hz k
  case invokevirtual => obtain rfl := z_l1 hl; exact z_s_virt hStr C hr1 hr2 hd hz k
  case invokespecial => obtain rfl := z_l1 hl; exact z_s_spec C hd hz k
  case invokestatic => obtain rfl := z_l1 hl; exact z_s_stat C hr1 hr2 hd hz k
  case ireturn =>
    simp only [z_ins] at hz
    split at hz
    · split at hz
      · split at hz <;> cases hz
      · cases hz
    · cases hz
  all_goals first
    | cases hz; done
    | (simp only [z_ins] at hz; split at hz <;> first | cases hz | (split at hz <;> cases hz))
end ZS
