/-! ===== the methods as functions, 6 ===== -/
theorem dX12_fraction_0 : decode cX12_fraction 0 = .ok (.lload_n 1, 1) := by decide +kernel
theorem dX12_fraction_1 : decode cX12_fraction 1 = .ok (.invokestatic 66, 3) := by decide +kernel
theorem dX12_fraction_4 : decode cX12_fraction 4 = .ok (.lstore 5, 2) := by decide +kernel
theorem dX12_fraction_6 : decode cX12_fraction 6 = .ok (.lload_n 3, 1) := by decide +kernel
theorem dX12_fraction_7 : decode cX12_fraction 7 = .ok (.lstore 7, 2) := by decide +kernel
theorem dX12_fraction_9 : decode cX12_fraction 9 = .ok (.lload 7, 2) := by decide +kernel
theorem dX12_fraction_11 : decode cX12_fraction 11 = .ok (.lconst 0, 1) := by decide +kernel
theorem dX12_fraction_12 : decode cX12_fraction 12 = .ok (.lcmp, 1) := by decide +kernel
theorem dX12_fraction_13 : decode cX12_fraction 13 = .ok (.ifCond .eq 21, 3) := by decide +kernel
theorem dX12_fraction_16 : decode cX12_fraction 16 = .ok (.lload 5, 2) := by decide +kernel
theorem dX12_fraction_18 : decode cX12_fraction 18 = .ok (.lload 7, 2) := by decide +kernel
theorem dX12_fraction_20 : decode cX12_fraction 20 = .ok (.lrem, 1) := by decide +kernel
theorem dX12_fraction_21 : decode cX12_fraction 21 = .ok (.lstore 9, 2) := by decide +kernel
theorem dX12_fraction_23 : decode cX12_fraction 23 = .ok (.lload 7, 2) := by decide +kernel
theorem dX12_fraction_25 : decode cX12_fraction 25 = .ok (.lstore 5, 2) := by decide +kernel
theorem dX12_fraction_27 : decode cX12_fraction 27 = .ok (.lload 9, 2) := by decide +kernel
theorem dX12_fraction_29 : decode cX12_fraction 29 = .ok (.lstore 7, 2) := by decide +kernel
theorem dX12_fraction_31 : decode cX12_fraction 31 = .ok (.goto (-22), 3) := by decide +kernel
theorem dX12_fraction_34 : decode cX12_fraction 34 = .ok (.aload_n 0, 1) := by decide +kernel
theorem dX12_fraction_35 : decode cX12_fraction 35 = .ok (.lload_n 1, 1) := by decide +kernel
theorem dX12_fraction_36 : decode cX12_fraction 36 = .ok (.lload 5, 2) := by decide +kernel
theorem dX12_fraction_38 : decode cX12_fraction 38 = .ok (.ldiv, 1) := by decide +kernel
theorem dX12_fraction_39 : decode cX12_fraction 39 = .ok (.putfield 63, 3) := by decide +kernel
theorem dX12_fraction_42 : decode cX12_fraction 42 = .ok (.aload_n 0, 1) := by decide +kernel
theorem dX12_fraction_43 : decode cX12_fraction 43 = .ok (.lload_n 3, 1) := by decide +kernel
theorem dX12_fraction_44 : decode cX12_fraction 44 = .ok (.lload 5, 2) := by decide +kernel
theorem dX12_fraction_46 : decode cX12_fraction 46 = .ok (.ldiv, 1) := by decide +kernel
theorem dX12_fraction_47 : decode cX12_fraction 47 = .ok (.putfield 7, 3) := by decide +kernel
theorem dX12_fraction_50 : decode cX12_fraction 50 = .ok (.iconst 1, 1) := by decide +kernel
theorem dX12_fraction_51 : decode cX12_fraction 51 = .ok (.ireturn, 1) := by decide +kernel
def L_X12_fraction (w : Nat) : Nat → z_Mem → Int64 → Int64 → Int64 → Int64 → Option (Bool × z_Mem)
  | 0, _, _, _, _, _ => none
  | c + 1, M, x1, x3, x5, x7 =>
    if (lg_cmp x7 (0 : Int64)) = (0 : Int32) then
    if x5 = 0 then none else
    if x5 = 0 then none else
    some (true, (z_wL (z_wL M 137 2 (x1 / x5)) 137 3 (x3 / x5)))
    else
    if x7 = 0 then none else
    L_X12_fraction w c M x1 x3 x7 (x5 - x5 / x7 * x7)
set_option maxHeartbeats 4000000 in
theorem AL_X12_fraction {w : Nat} : ∀ (c : Nat), (∀ (M : z_Mem) (x1 : Int64) (x3 : Int64) (x5 : Int64) (x7 : Int64) (r : Bool) (M' : z_Mem) (Q : Option Value → z_Mem → Prop), L_X12_fraction w c M x1 x3 x5 x7 = some (r, M') → Q (some (.int (z_tb r))) M' → z_G none 0 mX12_fraction 9 [some (.ref 139), some (.long x1), none, some (.long x3), none, some (.long x5), none, some (.long x7), none, none, none] [] M Q) := by
  intro c
  induction c with
  | zero => exact (fun M x1 x3 x5 x7 r M' Q h hq => by rw [L_X12_fraction] at h; cases h)
  | succ c ih =>
    intro M x1 x3 x5 x7 r M' Q h hq
    rw [L_X12_fraction] at h
    refine g_lload dX12_fraction_9 rfl ?_
    refine g_lconst (v := (0 : Int64)) dX12_fraction_11 (by decide) ?_
    refine g_lcmp dX12_fraction_12 ?_
    refine g_if_eq (t := 34) dX12_fraction_13 (by decide) (fun c1 => ?_) (fun c1 => ?_)
    · replace h := z_ift c1 h
      refine g_aload_n dX12_fraction_34 rfl rfl ?_
      refine g_lload_n dX12_fraction_35 rfl rfl ?_
      refine g_lload dX12_fraction_36 rfl ?_
      by_cases g2 : x5 = 0
      · rw [if_pos g2] at h; cases h
      replace h := z_iff g2 h
      refine g_ldiv dX12_fraction_38 g2 ?_
      refine g_putL (a := 137) dX12_fraction_39 f_12_63 sh_137 rfl rfl rfl ?_
      refine g_aload_n dX12_fraction_42 rfl rfl ?_
      refine g_lload_n dX12_fraction_43 rfl rfl ?_
      refine g_lload dX12_fraction_44 rfl ?_
      by_cases g3 : x5 = 0
      · rw [if_pos g3] at h; cases h
      replace h := z_iff g3 h
      refine g_ldiv dX12_fraction_46 g3 ?_
      refine g_putL (a := 137) dX12_fraction_47 f_12_7 sh_137 rfl rfl rfl ?_
      refine g_iconst (v := (1 : Int32)) dX12_fraction_50 (by decide) ?_
      cases h
      exact g_iret dX12_fraction_51 rfl rfl hq
    · replace h := z_iff c1 h
      refine g_lload dX12_fraction_16 rfl ?_
      refine g_lload dX12_fraction_18 rfl ?_
      by_cases g4 : x7 = 0
      · rw [if_pos g4] at h; cases h
      replace h := z_iff g4 h
      refine g_lrem dX12_fraction_20 g4 ?_
      refine g_lstore (ls' := [some (.ref 139), some (.long x1), none, some (.long x3), none, some (.long x5), none, some (.long x7), none, some (.long (x5 - x5 / x7 * x7)), none]) dX12_fraction_21 (Nat.le_of_ble_eq_true rfl) rfl ?_
      refine g_lload dX12_fraction_23 rfl ?_
      refine g_lstore (ls' := [some (.ref 139), some (.long x1), none, some (.long x3), none, some (.long x7), none, some (.long x7), none, some (.long (x5 - x5 / x7 * x7)), none]) dX12_fraction_25 (Nat.le_of_ble_eq_true rfl) rfl ?_
      refine g_lload dX12_fraction_27 rfl ?_
      refine g_lstore (ls' := [some (.ref 139), some (.long x1), none, some (.long x3), none, some (.long x7), none, some (.long (x5 - x5 / x7 * x7)), none, some (.long (x5 - x5 / x7 * x7)), none]) dX12_fraction_29 (Nat.le_of_ble_eq_true rfl) rfl ?_
      refine g_goto (t := 9) dX12_fraction_31 (by decide) ?_
      exact g_sub (z_sub_s (z_sub_s (z_sub_n (z_sub_s (z_sub_n (z_sub_s (z_sub_n (z_sub_s (z_sub_n (z_sub_n (z_sub_n z_sub_nil))))))))))) (ih _ _ _ _ _ _ _ _ h hq)
def F_X12_fraction (w : Nat) (M : z_Mem) (a1 : Int64) (a3 : Int64) : Option (Bool × z_Mem) :=
  L_X12_fraction w w M a1 a3 (if 0 < a1 then a1 else -a1) a3
set_option maxHeartbeats 4000000 in
theorem A_X12_fraction {w : Nat} {M : z_Mem} {a1 : Int64} {a3 : Int64} {r : Bool} {M' : z_Mem} {Q : Option Value → z_Mem → Prop} (h : F_X12_fraction w M a1 a3 = some (r, M')) (hq : Q (some (.int (z_tb r))) M') : z_Cl 0 mX12_fraction [.ref 139, .long a1, .long a3] M Q := by
  refine g_in (ls := [some (.ref 139), some (.long a1), none, some (.long a3), none, none, none, none, none, none, none]) rfl ?_
  unfold F_X12_fraction at h
  refine g_lload_n dX12_fraction_0 rfl rfl ?_
  refine g_abs dX12_fraction_1 rfl (Nat.le_of_ble_eq_true rfl) ?_
  refine g_lstore (ls' := [some (.ref 139), some (.long a1), none, some (.long a3), none, some (.long (if 0 < a1 then a1 else -a1)), none, none, none, none, none]) dX12_fraction_4 (Nat.le_of_ble_eq_true rfl) rfl ?_
  refine g_lload_n dX12_fraction_6 rfl rfl ?_
  refine g_lstore (ls' := [some (.ref 139), some (.long a1), none, some (.long a3), none, some (.long (if 0 < a1 then a1 else -a1)), none, some (.long a3), none, none, none]) dX12_fraction_7 (Nat.le_of_ble_eq_true rfl) rfl ?_
  exact g_sub (z_sub_s (z_sub_s (z_sub_n (z_sub_s (z_sub_n (z_sub_s (z_sub_n (z_sub_s (z_sub_n (z_sub_n (z_sub_n z_sub_nil))))))))))) ((AL_X12_fraction (w := w) w) _ _ _ _ _ _ _ _ h hq)
theorem dX12_cut_0 : decode cX12_cut 0 = .ok (.iload_n 0, 1) := by decide +kernel
theorem dX12_cut_1 : decode cX12_cut 1 = .ok (.ifCond .ne 10, 3) := by decide +kernel
theorem dX12_cut_4 : decode cX12_cut 4 = .ok (.lload_n 1, 1) := by decide +kernel
theorem dX12_cut_5 : decode cX12_cut 5 = .ok (.l2i, 1) := by decide +kernel
theorem dX12_cut_6 : decode cX12_cut 6 = .ok (.i2b, 1) := by decide +kernel
theorem dX12_cut_7 : decode cX12_cut 7 = .ok (.i2l, 1) := by decide +kernel
theorem dX12_cut_8 : decode cX12_cut 8 = .ok (.goto 27, 3) := by decide +kernel
theorem dX12_cut_11 : decode cX12_cut 11 = .ok (.iload_n 0, 1) := by decide +kernel
theorem dX12_cut_12 : decode cX12_cut 12 = .ok (.iconst 1, 1) := by decide +kernel
theorem dX12_cut_13 : decode cX12_cut 13 = .ok (.if_icmp .ne 10, 3) := by decide +kernel
theorem dX12_cut_16 : decode cX12_cut 16 = .ok (.lload_n 1, 1) := by decide +kernel
theorem dX12_cut_17 : decode cX12_cut 17 = .ok (.l2i, 1) := by decide +kernel
theorem dX12_cut_18 : decode cX12_cut 18 = .ok (.i2s, 1) := by decide +kernel
theorem dX12_cut_19 : decode cX12_cut 19 = .ok (.i2l, 1) := by decide +kernel
theorem dX12_cut_20 : decode cX12_cut 20 = .ok (.goto 15, 3) := by decide +kernel
theorem dX12_cut_23 : decode cX12_cut 23 = .ok (.iload_n 0, 1) := by decide +kernel
theorem dX12_cut_24 : decode cX12_cut 24 = .ok (.iconst 2, 1) := by decide +kernel
theorem dX12_cut_25 : decode cX12_cut 25 = .ok (.if_icmp .ne 9, 3) := by decide +kernel
theorem dX12_cut_28 : decode cX12_cut 28 = .ok (.lload_n 1, 1) := by decide +kernel
theorem dX12_cut_29 : decode cX12_cut 29 = .ok (.l2i, 1) := by decide +kernel
theorem dX12_cut_30 : decode cX12_cut 30 = .ok (.i2l, 1) := by decide +kernel
theorem dX12_cut_31 : decode cX12_cut 31 = .ok (.goto 4, 3) := by decide +kernel
theorem dX12_cut_34 : decode cX12_cut 34 = .ok (.lload_n 1, 1) := by decide +kernel
theorem dX12_cut_35 : decode cX12_cut 35 = .ok (.lreturn, 1) := by decide +kernel
def F_X12_cut (w : Nat) (M : z_Mem) (a0 : Int32) (a1 : Int64) : Option (Int64 × z_Mem) :=
  if a0 = (0 : Int32) then
  some (a1.toInt32.toInt8.toInt32.toInt64, M)
  else
  if a0 = (1 : Int32) then
  some (a1.toInt32.toInt16.toInt32.toInt64, M)
  else
  if a0 = (2 : Int32) then
  some (a1.toInt32.toInt64, M)
  else
  some (a1, M)
set_option maxHeartbeats 4000000 in
theorem A_X12_cut {w : Nat} {M : z_Mem} {a0 : Int32} {a1 : Int64} {r : Int64} {M' : z_Mem} {Q : Option Value → z_Mem → Prop} (h : F_X12_cut w M a0 a1 = some (r, M')) (hq : Q (some (.long r)) M') : z_Cl 0 mX12_cut [.int a0, .long a1] M Q := by
  refine g_in (ls := [some (.int a0), some (.long a1), none]) rfl ?_
  unfold F_X12_cut at h
  refine g_iload_n dX12_cut_0 rfl rfl ?_
  refine g_if_ne (t := 11) dX12_cut_1 (by decide) (fun c1 => ?_) (fun c1 => ?_)
  · replace h := z_iff c1 h
    refine g_iload_n dX12_cut_11 rfl rfl ?_
    refine g_iconst (v := (1 : Int32)) dX12_cut_12 (by decide) ?_
    refine g_ic_ne (t := 23) dX12_cut_13 (by decide) (fun c2 => ?_) (fun c2 => ?_)
    · replace h := z_iff c2 h
      refine g_iload_n dX12_cut_23 rfl rfl ?_
      refine g_iconst (v := (2 : Int32)) dX12_cut_24 (by decide) ?_
      refine g_ic_ne (t := 34) dX12_cut_25 (by decide) (fun c3 => ?_) (fun c3 => ?_)
      · replace h := z_iff c3 h
        refine g_lload_n dX12_cut_34 rfl rfl ?_
        cases h
        exact g_lret dX12_cut_35 rfl hq
      · replace h := z_ift c3 h
        refine g_lload_n dX12_cut_28 rfl rfl ?_
        refine g_l2i dX12_cut_29 ?_
        refine g_i2l dX12_cut_30 ?_
        refine g_goto (t := 35) dX12_cut_31 (by decide) ?_
        cases h
        exact g_lret dX12_cut_35 rfl hq
    · replace h := z_ift c2 h
      refine g_lload_n dX12_cut_16 rfl rfl ?_
      refine g_l2i dX12_cut_17 ?_
      refine g_i2s dX12_cut_18 ?_
      refine g_i2l dX12_cut_19 ?_
      refine g_goto (t := 35) dX12_cut_20 (by decide) ?_
      cases h
      exact g_lret dX12_cut_35 rfl hq
  · replace h := z_ift c1 h
    refine g_lload_n dX12_cut_4 rfl rfl ?_
    refine g_l2i dX12_cut_5 ?_
    refine g_i2b dX12_cut_6 ?_
    refine g_i2l dX12_cut_7 ?_
    refine g_goto (t := 35) dX12_cut_8 (by decide) ?_
    cases h
    exact g_lret dX12_cut_35 rfl hq
theorem dX12_tray_0 : decode cX12_tray 0 = .ok (.aload_n 0, 1) := by decide +kernel
theorem dX12_tray_1 : decode cX12_tray 1 = .ok (.iconst 0, 1) := by decide +kernel
theorem dX12_tray_2 : decode cX12_tray 2 = .ok (.putfield 57, 3) := by decide +kernel
theorem dX12_tray_5 : decode cX12_tray 5 = .ok (.aload_n 0, 1) := by decide +kernel
theorem dX12_tray_6 : decode cX12_tray 6 = .ok (.iconst 0, 1) := by decide +kernel
theorem dX12_tray_7 : decode cX12_tray 7 = .ok (.putfield 60, 3) := by decide +kernel
theorem dX12_tray_10 : decode cX12_tray 10 = .ok (.iload_n 1, 1) := by decide +kernel
theorem dX12_tray_11 : decode cX12_tray 11 = .ok (.ifCond .lt 17, 3) := by decide +kernel
theorem dX12_tray_14 : decode cX12_tray 14 = .ok (.iload_n 1, 1) := by decide +kernel
theorem dX12_tray_15 : decode cX12_tray 15 = .ok (.iconst 4, 1) := by decide +kernel
theorem dX12_tray_16 : decode cX12_tray 16 = .ok (.if_icmp .ge 12, 3) := by decide +kernel
theorem dX12_tray_19 : decode cX12_tray 19 = .ok (.iload_n 2, 1) := by decide +kernel
theorem dX12_tray_20 : decode cX12_tray 20 = .ok (.ifCond .lt 8, 3) := by decide +kernel
theorem dX12_tray_23 : decode cX12_tray 23 = .ok (.iload_n 2, 1) := by decide +kernel
theorem dX12_tray_24 : decode cX12_tray 24 = .ok (.iconst 3, 1) := by decide +kernel
theorem dX12_tray_25 : decode cX12_tray 25 = .ok (.if_icmp .le 9, 3) := by decide +kernel
theorem dX12_tray_28 : decode cX12_tray 28 = .ok (.aload_n 0, 1) := by decide +kernel
theorem dX12_tray_29 : decode cX12_tray 29 = .ok (.iconst 1, 1) := by decide +kernel
theorem dX12_tray_30 : decode cX12_tray 30 = .ok (.invokevirtual 72, 3) := by decide +kernel
theorem dX12_tray_33 : decode cX12_tray 33 = .ok (.ireturn, 1) := by decide +kernel
theorem dX12_tray_34 : decode cX12_tray 34 = .ok (.iload_n 3, 1) := by decide +kernel
theorem dX12_tray_35 : decode cX12_tray 35 = .ok (.bipush 60, 2) := by decide +kernel
theorem dX12_tray_37 : decode cX12_tray 37 = .ok (.if_icmp .le 9, 3) := by decide +kernel
theorem dX12_tray_40 : decode cX12_tray 40 = .ok (.aload_n 0, 1) := by decide +kernel
theorem dX12_tray_41 : decode cX12_tray 41 = .ok (.iconst 5, 1) := by decide +kernel
theorem dX12_tray_42 : decode cX12_tray 42 = .ok (.invokevirtual 72, 3) := by decide +kernel
theorem dX12_tray_45 : decode cX12_tray 45 = .ok (.ireturn, 1) := by decide +kernel
theorem dX12_tray_46 : decode cX12_tray 46 = .ok (.iload_n 3, 1) := by decide +kernel
theorem dX12_tray_47 : decode cX12_tray 47 = .ok (.ifCond .ge 10, 3) := by decide +kernel
theorem dX12_tray_50 : decode cX12_tray 50 = .ok (.aload_n 0, 1) := by decide +kernel
theorem dX12_tray_51 : decode cX12_tray 51 = .ok (.bipush 6, 2) := by decide +kernel
theorem dX12_tray_53 : decode cX12_tray 53 = .ok (.invokevirtual 72, 3) := by decide +kernel
theorem dX12_tray_56 : decode cX12_tray 56 = .ok (.ireturn, 1) := by decide +kernel
theorem dX12_tray_57 : decode cX12_tray 57 = .ok (.aload_n 0, 1) := by decide +kernel
theorem dX12_tray_58 : decode cX12_tray 58 = .ok (.getfield 13, 3) := by decide +kernel
theorem dX12_tray_61 : decode cX12_tray 61 = .ok (.iload_n 1, 1) := by decide +kernel
theorem dX12_tray_62 : decode cX12_tray 62 = .ok (.iload_n 2, 1) := by decide +kernel
theorem dX12_tray_63 : decode cX12_tray 63 = .ok (.iastore, 1) := by decide +kernel
theorem dX12_tray_64 : decode cX12_tray 64 = .ok (.aload_n 0, 1) := by decide +kernel
theorem dX12_tray_65 : decode cX12_tray 65 = .ok (.getfield 17, 3) := by decide +kernel
theorem dX12_tray_68 : decode cX12_tray 68 = .ok (.iload_n 1, 1) := by decide +kernel
theorem dX12_tray_69 : decode cX12_tray 69 = .ok (.iload_n 3, 1) := by decide +kernel
theorem dX12_tray_70 : decode cX12_tray 70 = .ok (.iastore, 1) := by decide +kernel
theorem dX12_tray_71 : decode cX12_tray 71 = .ok (.iconst 0, 1) := by decide +kernel
theorem dX12_tray_72 : decode cX12_tray 72 = .ok (.istore 4, 2) := by decide +kernel
theorem dX12_tray_74 : decode cX12_tray 74 = .ok (.iload 4, 2) := by decide +kernel
theorem dX12_tray_76 : decode cX12_tray 76 = .ok (.iload_n 3, 1) := by decide +kernel
theorem dX12_tray_77 : decode cX12_tray 77 = .ok (.if_icmp .ge 22, 3) := by decide +kernel
theorem dX12_tray_80 : decode cX12_tray 80 = .ok (.aload_n 0, 1) := by decide +kernel
theorem dX12_tray_81 : decode cX12_tray 81 = .ok (.getfield 20, 3) := by decide +kernel
theorem dX12_tray_84 : decode cX12_tray 84 = .ok (.bipush 60, 2) := by decide +kernel
theorem dX12_tray_86 : decode cX12_tray 86 = .ok (.iload_n 1, 1) := by decide +kernel
theorem dX12_tray_87 : decode cX12_tray 87 = .ok (.imul, 1) := by decide +kernel
theorem dX12_tray_88 : decode cX12_tray 88 = .ok (.iload 4, 2) := by decide +kernel
theorem dX12_tray_90 : decode cX12_tray 90 = .ok (.iadd, 1) := by decide +kernel
theorem dX12_tray_91 : decode cX12_tray 91 = .ok (.lconst 0, 1) := by decide +kernel
theorem dX12_tray_92 : decode cX12_tray 92 = .ok (.lastore, 1) := by decide +kernel
theorem dX12_tray_93 : decode cX12_tray 93 = .ok (.iinc 4 1, 3) := by decide +kernel
theorem dX12_tray_96 : decode cX12_tray 96 = .ok (.goto (-22), 3) := by decide +kernel
theorem dX12_tray_99 : decode cX12_tray 99 = .ok (.iconst 1, 1) := by decide +kernel
theorem dX12_tray_100 : decode cX12_tray 100 = .ok (.ireturn, 1) := by decide +kernel
def L_X12_tray (w : Nat) : Nat → z_Mem → Int32 → Int32 → Int32 → Option (Bool × z_Mem)
  | 0, _, _, _, _ => none
  | c + 1, M, x1, x3, x4 =>
    if x3 ≤ x4 then
    some (true, M)
    else
    if (((60 : Int32) * x1) + x4) < 0 ∨ 240 ≤ (((60 : Int32) * x1) + x4).toNatClampNeg then none else
    L_X12_tray w c (z_wL M 140 ((((60 : Int32) * x1) + x4).toNatClampNeg) (0 : Int64)) x1 x3 (x4 + (1 : Int32))
set_option maxHeartbeats 4000000 in
theorem AL_X12_tray {w : Nat} : ∀ (c : Nat), (∀ (M : z_Mem) (x1 : Int32) (x3 : Int32) (x4 : Int32) (r : Bool) (M' : z_Mem) (Q : Option Value → z_Mem → Prop), L_X12_tray w c M x1 x3 x4 = some (r, M') → Q (some (.int (z_tb r))) M' → z_G none 1 mX12_tray 74 [some (.ref 139), some (.int x1), none, some (.int x3), some (.int x4)] [] M Q) := by
  intro c
  induction c with
  | zero => exact (fun M x1 x3 x4 r M' Q h hq => by rw [L_X12_tray] at h; cases h)
  | succ c ih =>
    intro M x1 x3 x4 r M' Q h hq
    rw [L_X12_tray] at h
    refine g_iload dX12_tray_74 rfl ?_
    refine g_iload_n dX12_tray_76 rfl rfl ?_
    refine g_ic_ge (t := 99) dX12_tray_77 (by decide) (fun c1 => ?_) (fun c1 => ?_)
    · replace h := z_ift c1 h
      refine g_iconst (v := (1 : Int32)) dX12_tray_99 (by decide) ?_
      cases h
      exact g_iret dX12_tray_100 rfl rfl hq
    · replace h := z_iff c1 h
      refine g_aload_n dX12_tray_80 rfl rfl ?_
      refine g_get (a := 137) (v := .ref 142) dX12_tray_81 f_12_20 sh_137 rfl rfl ?_
      refine g_bipush (v := (60 : Int32)) dX12_tray_84 (by decide) ?_
      refine g_iload_n dX12_tray_86 rfl rfl ?_
      refine g_imul dX12_tray_87 ?_
      refine g_iload dX12_tray_88 rfl ?_
      refine g_iadd dX12_tray_90 ?_
      refine g_lconst (v := (0 : Int64)) dX12_tray_91 (by decide) ?_
      by_cases g2 : (((60 : Int32) * x1) + x4) < 0 ∨ 240 ≤ (((60 : Int32) * x1) + x4).toNatClampNeg
      · rw [if_pos g2] at h; cases h
      replace h := z_iff g2 h
      refine g_last (a := 140) dX12_tray_92 sh_140 g2 ?_
      refine g_iinc (v := x4 + (1 : Int32)) (ls' := [some (.ref 139), some (.int x1), none, some (.int x3), some (.int (x4 + (1 : Int32)))]) dX12_tray_93 rfl rfl rfl ?_
      refine g_goto (t := 74) dX12_tray_96 (by decide) ?_
      exact g_sub (z_sub_s (z_sub_s (z_sub_n (z_sub_s (z_sub_s z_sub_nil))))) (ih _ _ _ _ _ _ _ h hq)
def F_X12_tray (w : Nat) (M : z_Mem) (a1 : Int32) (a2 : Int32) (a3 : Int32) : Option (Bool × z_Mem) :=
  if a1 < (0 : Int32) then
  (F_X12_no w (z_wI (z_wI M 137 1 (0 : Int32)) 137 0 (0 : Int32)) (1 : Int32)).bind fun q4 =>
  some (q4.1, q4.2)
  else
  if (4 : Int32) ≤ a1 then
  (F_X12_no w (z_wI (z_wI M 137 1 (0 : Int32)) 137 0 (0 : Int32)) (1 : Int32)).bind fun q7 =>
  some (q7.1, q7.2)
  else
  if a2 < (0 : Int32) then
  (F_X12_no w (z_wI (z_wI M 137 1 (0 : Int32)) 137 0 (0 : Int32)) (1 : Int32)).bind fun q10 =>
  some (q10.1, q10.2)
  else
  if a2 ≤ (3 : Int32) then
  if a3 ≤ (60 : Int32) then
  if (0 : Int32) ≤ a3 then
  if a1 < 0 ∨ 4 ≤ a1.toNatClampNeg then none else
  if a1 < 0 ∨ 4 ≤ a1.toNatClampNeg then none else
  L_X12_tray w w (z_wI (z_wI (z_wI (z_wI M 137 1 (0 : Int32)) 137 0 (0 : Int32)) 138 a1.toNatClampNeg a2) 139 a1.toNatClampNeg a3) a1 a3 (0 : Int32)
  else
  (F_X12_no w (z_wI (z_wI M 137 1 (0 : Int32)) 137 0 (0 : Int32)) (6 : Int32)).bind fun q17 =>
  some (q17.1, q17.2)
  else
  (F_X12_no w (z_wI (z_wI M 137 1 (0 : Int32)) 137 0 (0 : Int32)) (5 : Int32)).bind fun q19 =>
  some (q19.1, q19.2)
  else
  (F_X12_no w (z_wI (z_wI M 137 1 (0 : Int32)) 137 0 (0 : Int32)) (1 : Int32)).bind fun q21 =>
  some (q21.1, q21.2)
set_option maxHeartbeats 4000000 in
theorem A_X12_tray {w : Nat} {M : z_Mem} {a1 : Int32} {a2 : Int32} {a3 : Int32} {r : Bool} {M' : z_Mem} {Q : Option Value → z_Mem → Prop} (h : F_X12_tray w M a1 a2 a3 = some (r, M')) (hq : Q (some (.int (z_tb r))) M') : z_Cl 1 mX12_tray [.ref 139, .int a1, .int a2, .int a3] M Q := by
  refine g_in (ls := [some (.ref 139), some (.int a1), some (.int a2), some (.int a3), none]) rfl ?_
  unfold F_X12_tray at h
  refine g_aload_n dX12_tray_0 rfl rfl ?_
  refine g_iconst (v := (0 : Int32)) dX12_tray_1 (by decide) ?_
  refine g_putI (a := 137) dX12_tray_2 f_12_57 sh_137 rfl rfl rfl ?_
  refine g_aload_n dX12_tray_5 rfl rfl ?_
  refine g_iconst (v := (0 : Int32)) dX12_tray_6 (by decide) ?_
  refine g_putI (a := 137) dX12_tray_7 f_12_60 sh_137 rfl rfl rfl ?_
  refine g_iload_n dX12_tray_10 rfl rfl ?_
  refine g_if_lt (t := 28) dX12_tray_11 (by decide) (fun c3 => ?_) (fun c3 => ?_)
  · replace h := z_ift c3 h
    refine g_aload_n dX12_tray_28 rfl rfl ?_
    refine g_iconst (v := (1 : Int32)) dX12_tray_29 (by decide) ?_
    obtain ⟨q4, e5, h⟩ := z_bd h
    refine g_callV (a := 137) (as := [.int (1 : Int32)]) (rest := []) (c := mX12_no) (k1 := 0) dX12_tray_30 rfl rfl rfl sh_137 rfl rfl (Nat.le_of_ble_eq_true rfl) (Nat.le_of_ble_eq_true rfl) (by decide) ?_
    refine A_X12_no e5 ?_
    show z_G none 1 mX12_tray 33 [some (.ref 139), some (.int a1), some (.int a2), some (.int a3), none] [.int (z_tb q4.1)] q4.2 Q
    cases h
    exact g_iret dX12_tray_33 rfl nb_tb hq
  · replace h := z_iff c3 h
    refine g_iload_n dX12_tray_14 rfl rfl ?_
    refine g_iconst (v := (4 : Int32)) dX12_tray_15 (by decide) ?_
    refine g_ic_ge (t := 28) dX12_tray_16 (by decide) (fun c6 => ?_) (fun c6 => ?_)
    · replace h := z_ift c6 h
      refine g_aload_n dX12_tray_28 rfl rfl ?_
      refine g_iconst (v := (1 : Int32)) dX12_tray_29 (by decide) ?_
      obtain ⟨q7, e8, h⟩ := z_bd h
      refine g_callV (a := 137) (as := [.int (1 : Int32)]) (rest := []) (c := mX12_no) (k1 := 0) dX12_tray_30 rfl rfl rfl sh_137 rfl rfl (Nat.le_of_ble_eq_true rfl) (Nat.le_of_ble_eq_true rfl) (by decide) ?_
      refine A_X12_no e8 ?_
      show z_G none 1 mX12_tray 33 [some (.ref 139), some (.int a1), some (.int a2), some (.int a3), none] [.int (z_tb q7.1)] q7.2 Q
      cases h
      exact g_iret dX12_tray_33 rfl nb_tb hq
    · replace h := z_iff c6 h
      refine g_iload_n dX12_tray_19 rfl rfl ?_
      refine g_if_lt (t := 28) dX12_tray_20 (by decide) (fun c9 => ?_) (fun c9 => ?_)
      · replace h := z_ift c9 h
        refine g_aload_n dX12_tray_28 rfl rfl ?_
        refine g_iconst (v := (1 : Int32)) dX12_tray_29 (by decide) ?_
        obtain ⟨q10, e11, h⟩ := z_bd h
        refine g_callV (a := 137) (as := [.int (1 : Int32)]) (rest := []) (c := mX12_no) (k1 := 0) dX12_tray_30 rfl rfl rfl sh_137 rfl rfl (Nat.le_of_ble_eq_true rfl) (Nat.le_of_ble_eq_true rfl) (by decide) ?_
        refine A_X12_no e11 ?_
        show z_G none 1 mX12_tray 33 [some (.ref 139), some (.int a1), some (.int a2), some (.int a3), none] [.int (z_tb q10.1)] q10.2 Q
        cases h
        exact g_iret dX12_tray_33 rfl nb_tb hq
      · replace h := z_iff c9 h
        refine g_iload_n dX12_tray_23 rfl rfl ?_
        refine g_iconst (v := (3 : Int32)) dX12_tray_24 (by decide) ?_
        refine g_ic_le (t := 34) dX12_tray_25 (by decide) (fun c12 => ?_) (fun c12 => ?_)
        · replace h := z_ift c12 h
          refine g_iload_n dX12_tray_34 rfl rfl ?_
          refine g_bipush (v := (60 : Int32)) dX12_tray_35 (by decide) ?_
          refine g_ic_le (t := 46) dX12_tray_37 (by decide) (fun c13 => ?_) (fun c13 => ?_)
          · replace h := z_ift c13 h
            refine g_iload_n dX12_tray_46 rfl rfl ?_
            refine g_if_ge (t := 57) dX12_tray_47 (by decide) (fun c14 => ?_) (fun c14 => ?_)
            · replace h := z_ift c14 h
              refine g_aload_n dX12_tray_57 rfl rfl ?_
              refine g_get (a := 137) (v := .ref 140) dX12_tray_58 f_12_13 sh_137 rfl rfl ?_
              refine g_iload_n dX12_tray_61 rfl rfl ?_
              refine g_iload_n dX12_tray_62 rfl rfl ?_
              by_cases g15 : a1 < 0 ∨ 4 ≤ a1.toNatClampNeg
              · rw [if_pos g15] at h; cases h
              replace h := z_iff g15 h
              refine g_iast (a := 138) dX12_tray_63 sh_138 g15 ?_
              refine g_aload_n dX12_tray_64 rfl rfl ?_
              refine g_get (a := 137) (v := .ref 141) dX12_tray_65 f_12_17 sh_137 rfl rfl ?_
              refine g_iload_n dX12_tray_68 rfl rfl ?_
              refine g_iload_n dX12_tray_69 rfl rfl ?_
              by_cases g16 : a1 < 0 ∨ 4 ≤ a1.toNatClampNeg
              · rw [if_pos g16] at h; cases h
              replace h := z_iff g16 h
              refine g_iast (a := 139) dX12_tray_70 sh_139 g16 ?_
              refine g_iconst (v := (0 : Int32)) dX12_tray_71 (by decide) ?_
              refine g_istore (ls' := [some (.ref 139), some (.int a1), some (.int a2), some (.int a3), some (.int (0 : Int32))]) dX12_tray_72 (Nat.le_of_ble_eq_true rfl) rfl ?_
              exact g_sub (z_sub_s (z_sub_s (z_sub_n (z_sub_s (z_sub_s z_sub_nil))))) ((AL_X12_tray (w := w) w) _ _ _ _ _ _ _ h hq)
            · replace h := z_iff c14 h
              refine g_aload_n dX12_tray_50 rfl rfl ?_
              refine g_bipush (v := (6 : Int32)) dX12_tray_51 (by decide) ?_
              obtain ⟨q17, e18, h⟩ := z_bd h
              refine g_callV (a := 137) (as := [.int (6 : Int32)]) (rest := []) (c := mX12_no) (k1 := 0) dX12_tray_53 rfl rfl rfl sh_137 rfl rfl (Nat.le_of_ble_eq_true rfl) (Nat.le_of_ble_eq_true rfl) (by decide) ?_
              refine A_X12_no e18 ?_
              show z_G none 1 mX12_tray 56 [some (.ref 139), some (.int a1), some (.int a2), some (.int a3), none] [.int (z_tb q17.1)] q17.2 Q
              cases h
              exact g_iret dX12_tray_56 rfl nb_tb hq
          · replace h := z_iff c13 h
            refine g_aload_n dX12_tray_40 rfl rfl ?_
            refine g_iconst (v := (5 : Int32)) dX12_tray_41 (by decide) ?_
            obtain ⟨q19, e20, h⟩ := z_bd h
            refine g_callV (a := 137) (as := [.int (5 : Int32)]) (rest := []) (c := mX12_no) (k1 := 0) dX12_tray_42 rfl rfl rfl sh_137 rfl rfl (Nat.le_of_ble_eq_true rfl) (Nat.le_of_ble_eq_true rfl) (by decide) ?_
            refine A_X12_no e20 ?_
            show z_G none 1 mX12_tray 45 [some (.ref 139), some (.int a1), some (.int a2), some (.int a3), none] [.int (z_tb q19.1)] q19.2 Q
            cases h
            exact g_iret dX12_tray_45 rfl nb_tb hq
        · replace h := z_iff c12 h
          refine g_aload_n dX12_tray_28 rfl rfl ?_
          refine g_iconst (v := (1 : Int32)) dX12_tray_29 (by decide) ?_
          obtain ⟨q21, e22, h⟩ := z_bd h
          refine g_callV (a := 137) (as := [.int (1 : Int32)]) (rest := []) (c := mX12_no) (k1 := 0) dX12_tray_30 rfl rfl rfl sh_137 rfl rfl (Nat.le_of_ble_eq_true rfl) (Nat.le_of_ble_eq_true rfl) (by decide) ?_
          refine A_X12_no e22 ?_
          show z_G none 1 mX12_tray 33 [some (.ref 139), some (.int a1), some (.int a2), some (.int a3), none] [.int (z_tb q21.1)] q21.2 Q
          cases h
          exact g_iret dX12_tray_33 rfl nb_tb hq
theorem dX12_trayed_0 : decode cX12_trayed 0 = .ok (.iload_n 1, 1) := by decide +kernel
theorem dX12_trayed_1 : decode cX12_trayed 1 = .ok (.ifCond .lt 8, 3) := by decide +kernel
theorem dX12_trayed_4 : decode cX12_trayed 4 = .ok (.iload_n 1, 1) := by decide +kernel
theorem dX12_trayed_5 : decode cX12_trayed 5 = .ok (.iconst 4, 1) := by decide +kernel
theorem dX12_trayed_6 : decode cX12_trayed 6 = .ok (.if_icmp .lt 7, 3) := by decide +kernel
theorem dX12_trayed_9 : decode cX12_trayed 9 = .ok (.iconst 1, 1) := by decide +kernel
theorem dX12_trayed_10 : decode cX12_trayed 10 = .ok (.goto 17, 3) := by decide +kernel
theorem dX12_trayed_13 : decode cX12_trayed 13 = .ok (.aload_n 0, 1) := by decide +kernel
theorem dX12_trayed_14 : decode cX12_trayed 14 = .ok (.getfield 17, 3) := by decide +kernel
theorem dX12_trayed_17 : decode cX12_trayed 17 = .ok (.iload_n 1, 1) := by decide +kernel
theorem dX12_trayed_18 : decode cX12_trayed 18 = .ok (.iaload, 1) := by decide +kernel
theorem dX12_trayed_19 : decode cX12_trayed 19 = .ok (.ifCond .ge 7, 3) := by decide +kernel
theorem dX12_trayed_22 : decode cX12_trayed 22 = .ok (.iconst 3, 1) := by decide +kernel
theorem dX12_trayed_23 : decode cX12_trayed 23 = .ok (.goto 4, 3) := by decide +kernel
theorem dX12_trayed_26 : decode cX12_trayed 26 = .ok (.iconst 0, 1) := by decide +kernel
theorem dX12_trayed_27 : decode cX12_trayed 27 = .ok (.ireturn, 1) := by decide +kernel
def F_X12_trayed (w : Nat) (M : z_Mem) (a1 : Int32) : Option (Int32 × z_Mem) :=
  if a1 < (0 : Int32) then
  some ((1 : Int32), M)
  else
  if a1 < (4 : Int32) then
  if a1 < 0 ∨ 4 ≤ a1.toNatClampNeg then none else
  if (0 : Int32) ≤ (M.1 139 a1.toNatClampNeg) then
  some ((0 : Int32), M)
  else
  some ((3 : Int32), M)
  else
  some ((1 : Int32), M)
set_option maxHeartbeats 4000000 in
theorem A_X12_trayed {w : Nat} {M : z_Mem} {a1 : Int32} {r : Int32} {M' : z_Mem} {Q : Option Value → z_Mem → Prop} (h : F_X12_trayed w M a1 = some (r, M')) (hq : Q (some (.int r)) M') : z_Cl 0 mX12_trayed [.ref 139, .int a1] M Q := by
  refine g_in (ls := [some (.ref 139), some (.int a1)]) rfl ?_
  unfold F_X12_trayed at h
  refine g_iload_n dX12_trayed_0 rfl rfl ?_
  refine g_if_lt (t := 9) dX12_trayed_1 (by decide) (fun c1 => ?_) (fun c1 => ?_)
  · replace h := z_ift c1 h
    refine g_iconst (v := (1 : Int32)) dX12_trayed_9 (by decide) ?_
    refine g_goto (t := 27) dX12_trayed_10 (by decide) ?_
    cases h
    exact g_iret dX12_trayed_27 rfl rfl hq
  · replace h := z_iff c1 h
    refine g_iload_n dX12_trayed_4 rfl rfl ?_
    refine g_iconst (v := (4 : Int32)) dX12_trayed_5 (by decide) ?_
    refine g_ic_lt (t := 13) dX12_trayed_6 (by decide) (fun c2 => ?_) (fun c2 => ?_)
    · replace h := z_ift c2 h
      refine g_aload_n dX12_trayed_13 rfl rfl ?_
      refine g_get (a := 137) (v := .ref 141) dX12_trayed_14 f_12_17 sh_137 rfl rfl ?_
      refine g_iload_n dX12_trayed_17 rfl rfl ?_
      by_cases g3 : a1 < 0 ∨ 4 ≤ a1.toNatClampNeg
      · rw [if_pos g3] at h; cases h
      replace h := z_iff g3 h
      refine g_iald (a := 139) dX12_trayed_18 sh_139 g3 ?_
      refine g_if_ge (t := 26) dX12_trayed_19 (by decide) (fun c4 => ?_) (fun c4 => ?_)
      · replace h := z_ift c4 h
        refine g_iconst (v := (0 : Int32)) dX12_trayed_26 (by decide) ?_
        cases h
        exact g_iret dX12_trayed_27 rfl rfl hq
      · replace h := z_iff c4 h
        refine g_iconst (v := (3 : Int32)) dX12_trayed_22 (by decide) ?_
        refine g_goto (t := 27) dX12_trayed_23 (by decide) ?_
        cases h
        exact g_iret dX12_trayed_27 rfl rfl hq
    · replace h := z_iff c2 h
      refine g_iconst (v := (1 : Int32)) dX12_trayed_9 (by decide) ?_
      refine g_goto (t := 27) dX12_trayed_10 (by decide) ?_
      cases h
      exact g_iret dX12_trayed_27 rfl rfl hq
theorem dX12_placed_0 : decode cX12_placed 0 = .ok (.aload_n 0, 1) := by decide +kernel
theorem dX12_placed_1 : decode cX12_placed 1 = .ok (.iload_n 1, 1) := by decide +kernel
theorem dX12_placed_2 : decode cX12_placed 2 = .ok (.invokevirtual 76, 3) := by decide +kernel
theorem dX12_placed_5 : decode cX12_placed 5 = .ok (.istore_n 3, 1) := by decide +kernel
theorem dX12_placed_6 : decode cX12_placed 6 = .ok (.iload_n 3, 1) := by decide +kernel
theorem dX12_placed_7 : decode cX12_placed 7 = .ok (.ifCond .le 7, 3) := by decide +kernel
theorem dX12_placed_10 : decode cX12_placed 10 = .ok (.iload_n 3, 1) := by decide +kernel
theorem dX12_placed_11 : decode cX12_placed 11 = .ok (.goto 22, 3) := by decide +kernel
theorem dX12_placed_14 : decode cX12_placed 14 = .ok (.iload_n 2, 1) := by decide +kernel
theorem dX12_placed_15 : decode cX12_placed 15 = .ok (.ifCond .lt 13, 3) := by decide +kernel
theorem dX12_placed_18 : decode cX12_placed 18 = .ok (.iload_n 2, 1) := by decide +kernel
theorem dX12_placed_19 : decode cX12_placed 19 = .ok (.aload_n 0, 1) := by decide +kernel
theorem dX12_placed_20 : decode cX12_placed 20 = .ok (.getfield 17, 3) := by decide +kernel
theorem dX12_placed_23 : decode cX12_placed 23 = .ok (.iload_n 1, 1) := by decide +kernel
theorem dX12_placed_24 : decode cX12_placed 24 = .ok (.iaload, 1) := by decide +kernel
theorem dX12_placed_25 : decode cX12_placed 25 = .ok (.if_icmp .lt 7, 3) := by decide +kernel
theorem dX12_placed_28 : decode cX12_placed 28 = .ok (.iconst 4, 1) := by decide +kernel
theorem dX12_placed_29 : decode cX12_placed 29 = .ok (.goto 4, 3) := by decide +kernel
theorem dX12_placed_32 : decode cX12_placed 32 = .ok (.iconst 0, 1) := by decide +kernel
theorem dX12_placed_33 : decode cX12_placed 33 = .ok (.ireturn, 1) := by decide +kernel
def F_X12_placed (w : Nat) (M : z_Mem) (a1 : Int32) (a2 : Int32) : Option (Int32 × z_Mem) :=
  (F_X12_trayed w M a1).bind fun q1 =>
  if q1.1 ≤ (0 : Int32) then
  if a2 < (0 : Int32) then
  some ((4 : Int32), q1.2)
  else
  if a1 < 0 ∨ 4 ≤ a1.toNatClampNeg then none else
  if a2 < (q1.2.1 139 a1.toNatClampNeg) then
  some ((0 : Int32), q1.2)
  else
  some ((4 : Int32), q1.2)
  else
  some (q1.1, q1.2)
set_option maxHeartbeats 4000000 in
theorem A_X12_placed {w : Nat} {M : z_Mem} {a1 : Int32} {a2 : Int32} {r : Int32} {M' : z_Mem} {Q : Option Value → z_Mem → Prop} (h : F_X12_placed w M a1 a2 = some (r, M')) (hq : Q (some (.int r)) M') : z_Cl 1 mX12_placed [.ref 139, .int a1, .int a2] M Q := by
  refine g_in (ls := [some (.ref 139), some (.int a1), some (.int a2), none]) rfl ?_
  unfold F_X12_placed at h
  refine g_aload_n dX12_placed_0 rfl rfl ?_
  refine g_iload_n dX12_placed_1 rfl rfl ?_
  obtain ⟨q1, e2, h⟩ := z_bd h
  refine g_callV (a := 137) (as := [.int a1]) (rest := []) (c := mX12_trayed) (k1 := 0) dX12_placed_2 rfl rfl rfl sh_137 rfl rfl (Nat.le_of_ble_eq_true rfl) (Nat.le_of_ble_eq_true rfl) (by decide) ?_
  refine A_X12_trayed e2 ?_
  show z_G none 1 mX12_placed 5 [some (.ref 139), some (.int a1), some (.int a2), none] [.int q1.1] q1.2 Q
  refine g_istore_n (ls' := [some (.ref 139), some (.int a1), some (.int a2), some (.int q1.1)]) dX12_placed_5 rfl (Nat.le_of_ble_eq_true rfl) rfl ?_
  refine g_iload_n dX12_placed_6 rfl rfl ?_
  refine g_if_le (t := 14) dX12_placed_7 (by decide) (fun c3 => ?_) (fun c3 => ?_)
  · replace h := z_ift c3 h
    refine g_iload_n dX12_placed_14 rfl rfl ?_
    refine g_if_lt (t := 28) dX12_placed_15 (by decide) (fun c4 => ?_) (fun c4 => ?_)
    · replace h := z_ift c4 h
      refine g_iconst (v := (4 : Int32)) dX12_placed_28 (by decide) ?_
      refine g_goto (t := 33) dX12_placed_29 (by decide) ?_
      cases h
      exact g_iret dX12_placed_33 rfl rfl hq
    · replace h := z_iff c4 h
      refine g_iload_n dX12_placed_18 rfl rfl ?_
      refine g_aload_n dX12_placed_19 rfl rfl ?_
      refine g_get (a := 137) (v := .ref 141) dX12_placed_20 f_12_17 sh_137 rfl rfl ?_
      refine g_iload_n dX12_placed_23 rfl rfl ?_
      by_cases g5 : a1 < 0 ∨ 4 ≤ a1.toNatClampNeg
      · rw [if_pos g5] at h; cases h
      replace h := z_iff g5 h
      refine g_iald (a := 139) dX12_placed_24 sh_139 g5 ?_
      refine g_ic_lt (t := 32) dX12_placed_25 (by decide) (fun c6 => ?_) (fun c6 => ?_)
      · replace h := z_ift c6 h
        refine g_iconst (v := (0 : Int32)) dX12_placed_32 (by decide) ?_
        cases h
        exact g_iret dX12_placed_33 rfl rfl hq
      · replace h := z_iff c6 h
        refine g_iconst (v := (4 : Int32)) dX12_placed_28 (by decide) ?_
        refine g_goto (t := 33) dX12_placed_29 (by decide) ?_
        cases h
        exact g_iret dX12_placed_33 rfl rfl hq
  · replace h := z_iff c3 h
    refine g_iload_n dX12_placed_10 rfl rfl ?_
    refine g_goto (t := 33) dX12_placed_11 (by decide) ?_
    cases h
    exact g_iret dX12_placed_33 rfl rfl hq
theorem dX12_write_0 : decode cX12_write 0 = .ok (.aload_n 0, 1) := by decide +kernel
theorem dX12_write_1 : decode cX12_write 1 = .ok (.iconst 0, 1) := by decide +kernel
theorem dX12_write_2 : decode cX12_write 2 = .ok (.putfield 57, 3) := by decide +kernel
theorem dX12_write_5 : decode cX12_write 5 = .ok (.aload_n 0, 1) := by decide +kernel
theorem dX12_write_6 : decode cX12_write 6 = .ok (.aload_n 0, 1) := by decide +kernel
theorem dX12_write_7 : decode cX12_write 7 = .ok (.iload_n 1, 1) := by decide +kernel
theorem dX12_write_8 : decode cX12_write 8 = .ok (.iload_n 2, 1) := by decide +kernel
theorem dX12_write_9 : decode cX12_write 9 = .ok (.invokevirtual 80, 3) := by decide +kernel
theorem dX12_write_12 : decode cX12_write 12 = .ok (.putfield 60, 3) := by decide +kernel
theorem dX12_write_15 : decode cX12_write 15 = .ok (.aload_n 0, 1) := by decide +kernel
theorem dX12_write_16 : decode cX12_write 16 = .ok (.getfield 60, 3) := by decide +kernel
theorem dX12_write_19 : decode cX12_write 19 = .ok (.ifCond .le 5, 3) := by decide +kernel
theorem dX12_write_22 : decode cX12_write 22 = .ok (.iconst 0, 1) := by decide +kernel
theorem dX12_write_23 : decode cX12_write 23 = .ok (.ireturn, 1) := by decide +kernel
theorem dX12_write_24 : decode cX12_write 24 = .ok (.aload_n 0, 1) := by decide +kernel
theorem dX12_write_25 : decode cX12_write 25 = .ok (.getfield 20, 3) := by decide +kernel
theorem dX12_write_28 : decode cX12_write 28 = .ok (.bipush 60, 2) := by decide +kernel
theorem dX12_write_30 : decode cX12_write 30 = .ok (.iload_n 1, 1) := by decide +kernel
theorem dX12_write_31 : decode cX12_write 31 = .ok (.imul, 1) := by decide +kernel
theorem dX12_write_32 : decode cX12_write 32 = .ok (.iload_n 2, 1) := by decide +kernel
theorem dX12_write_33 : decode cX12_write 33 = .ok (.iadd, 1) := by decide +kernel
theorem dX12_write_34 : decode cX12_write 34 = .ok (.aload_n 0, 1) := by decide +kernel
theorem dX12_write_35 : decode cX12_write 35 = .ok (.getfield 13, 3) := by decide +kernel
theorem dX12_write_38 : decode cX12_write 38 = .ok (.iload_n 1, 1) := by decide +kernel
theorem dX12_write_39 : decode cX12_write 39 = .ok (.iaload, 1) := by decide +kernel
theorem dX12_write_40 : decode cX12_write 40 = .ok (.lload_n 3, 1) := by decide +kernel
theorem dX12_write_41 : decode cX12_write 41 = .ok (.invokestatic 84, 3) := by decide +kernel
theorem dX12_write_44 : decode cX12_write 44 = .ok (.lastore, 1) := by decide +kernel
theorem dX12_write_45 : decode cX12_write 45 = .ok (.iconst 1, 1) := by decide +kernel
theorem dX12_write_46 : decode cX12_write 46 = .ok (.ireturn, 1) := by decide +kernel
def F_X12_write (w : Nat) (M : z_Mem) (a1 : Int32) (a2 : Int32) (a3 : Int64) : Option (Bool × z_Mem) :=
  (F_X12_placed w (z_wI M 137 1 (0 : Int32)) a1 a2).bind fun q1 =>
  if q1.1 ≤ (0 : Int32) then
  if a1 < 0 ∨ 4 ≤ a1.toNatClampNeg then none else
  (F_X12_cut w (z_wI q1.2 137 0 q1.1) ((z_wI q1.2 137 0 q1.1).1 138 a1.toNatClampNeg) a3).bind fun q5 =>
  if (((60 : Int32) * a1) + a2) < 0 ∨ 240 ≤ (((60 : Int32) * a1) + a2).toNatClampNeg then none else
  some (true, (z_wL q5.2 140 ((((60 : Int32) * a1) + a2).toNatClampNeg) q5.1))
  else
  some (false, (z_wI q1.2 137 0 q1.1))
set_option maxHeartbeats 4000000 in
theorem A_X12_write {w : Nat} {M : z_Mem} {a1 : Int32} {a2 : Int32} {a3 : Int64} {r : Bool} {M' : z_Mem} {Q : Option Value → z_Mem → Prop} (h : F_X12_write w M a1 a2 a3 = some (r, M')) (hq : Q (some (.int (z_tb r))) M') : z_Cl 2 mX12_write [.ref 139, .int a1, .int a2, .long a3] M Q := by
  refine g_in (ls := [some (.ref 139), some (.int a1), some (.int a2), some (.long a3), none]) rfl ?_
  unfold F_X12_write at h
  refine g_aload_n dX12_write_0 rfl rfl ?_
  refine g_iconst (v := (0 : Int32)) dX12_write_1 (by decide) ?_
  refine g_putI (a := 137) dX12_write_2 f_12_57 sh_137 rfl rfl rfl ?_
  refine g_aload_n dX12_write_5 rfl rfl ?_
  refine g_aload_n dX12_write_6 rfl rfl ?_
  refine g_iload_n dX12_write_7 rfl rfl ?_
  refine g_iload_n dX12_write_8 rfl rfl ?_
  obtain ⟨q1, e2, h⟩ := z_bd h
  refine g_callV (a := 137) (as := [.int a1, .int a2]) (rest := [.ref 139]) (c := mX12_placed) (k1 := 1) dX12_write_9 rfl rfl rfl sh_137 rfl rfl (Nat.le_of_ble_eq_true rfl) (Nat.le_of_ble_eq_true rfl) (by decide) ?_
  refine A_X12_placed e2 ?_
  show z_G none 2 mX12_write 12 [some (.ref 139), some (.int a1), some (.int a2), some (.long a3), none] [.int q1.1, .ref 139] q1.2 Q
  refine g_putI (a := 137) dX12_write_12 f_12_60 sh_137 rfl rfl rfl ?_
  refine g_aload_n dX12_write_15 rfl rfl ?_
  refine g_get (a := 137) (v := .int q1.1) dX12_write_16 f_12_60 sh_137 rfl (by simp [z_fv, z_wI, z_wL, z_wLs, upd, vp_updL]) ?_
  refine g_if_le (t := 24) dX12_write_19 (by decide) (fun c3 => ?_) (fun c3 => ?_)
  · replace h := z_ift c3 h
    refine g_aload_n dX12_write_24 rfl rfl ?_
    refine g_get (a := 137) (v := .ref 142) dX12_write_25 f_12_20 sh_137 rfl rfl ?_
    refine g_bipush (v := (60 : Int32)) dX12_write_28 (by decide) ?_
    refine g_iload_n dX12_write_30 rfl rfl ?_
    refine g_imul dX12_write_31 ?_
    refine g_iload_n dX12_write_32 rfl rfl ?_
    refine g_iadd dX12_write_33 ?_
    refine g_aload_n dX12_write_34 rfl rfl ?_
    refine g_get (a := 137) (v := .ref 140) dX12_write_35 f_12_13 sh_137 rfl rfl ?_
    refine g_iload_n dX12_write_38 rfl rfl ?_
    by_cases g4 : a1 < 0 ∨ 4 ≤ a1.toNatClampNeg
    · rw [if_pos g4] at h; cases h
    replace h := z_iff g4 h
    refine g_iald (a := 138) dX12_write_39 sh_138 g4 ?_
    refine g_lload_n dX12_write_40 rfl rfl ?_
    obtain ⟨q5, e6, h⟩ := z_bd h
    refine g_callS (as := [.int ((z_wI q1.2 137 0 q1.1).1 138 a1.toNatClampNeg), .long a3]) (rest := [.int (((60 : Int32) * a1) + a2), .ref 142]) (c := mX12_cut) (k1 := 0) dX12_write_41 rfl rfl rfl rfl rfl (Nat.le_of_ble_eq_true rfl) (Nat.le_of_ble_eq_true rfl) (by decide) ?_
    refine A_X12_cut e6 ?_
    show z_G none 2 mX12_write 44 [some (.ref 139), some (.int a1), some (.int a2), some (.long a3), none] [.long q5.1, .int (((60 : Int32) * a1) + a2), .ref 142] q5.2 Q
    by_cases g7 : (((60 : Int32) * a1) + a2) < 0 ∨ 240 ≤ (((60 : Int32) * a1) + a2).toNatClampNeg
    · rw [if_pos g7] at h; cases h
    replace h := z_iff g7 h
    refine g_last (a := 140) dX12_write_44 sh_140 g7 ?_
    refine g_iconst (v := (1 : Int32)) dX12_write_45 (by decide) ?_
    cases h
    exact g_iret dX12_write_46 rfl rfl hq
  · replace h := z_iff c3 h
    refine g_iconst (v := (0 : Int32)) dX12_write_22 (by decide) ?_
    cases h
    exact g_iret dX12_write_23 rfl rfl hq
theorem dX12_read_0 : decode cX12_read 0 = .ok (.aload_n 0, 1) := by decide +kernel
theorem dX12_read_1 : decode cX12_read 1 = .ok (.iconst 0, 1) := by decide +kernel
theorem dX12_read_2 : decode cX12_read 2 = .ok (.putfield 57, 3) := by decide +kernel
theorem dX12_read_5 : decode cX12_read 5 = .ok (.aload_n 0, 1) := by decide +kernel
theorem dX12_read_6 : decode cX12_read 6 = .ok (.aload_n 0, 1) := by decide +kernel
theorem dX12_read_7 : decode cX12_read 7 = .ok (.iload_n 1, 1) := by decide +kernel
theorem dX12_read_8 : decode cX12_read 8 = .ok (.iload_n 2, 1) := by decide +kernel
theorem dX12_read_9 : decode cX12_read 9 = .ok (.invokevirtual 80, 3) := by decide +kernel
theorem dX12_read_12 : decode cX12_read 12 = .ok (.putfield 60, 3) := by decide +kernel
theorem dX12_read_15 : decode cX12_read 15 = .ok (.aload_n 0, 1) := by decide +kernel
theorem dX12_read_16 : decode cX12_read 16 = .ok (.getfield 60, 3) := by decide +kernel
theorem dX12_read_19 : decode cX12_read 19 = .ok (.ifCond .le 9, 3) := by decide +kernel
theorem dX12_read_22 : decode cX12_read 22 = .ok (.ldc2_w 88, 3) := by decide +kernel
theorem dX12_read_25 : decode cX12_read 25 = .ok (.goto 14, 3) := by decide +kernel
theorem dX12_read_28 : decode cX12_read 28 = .ok (.aload_n 0, 1) := by decide +kernel
theorem dX12_read_29 : decode cX12_read 29 = .ok (.getfield 20, 3) := by decide +kernel
theorem dX12_read_32 : decode cX12_read 32 = .ok (.bipush 60, 2) := by decide +kernel
theorem dX12_read_34 : decode cX12_read 34 = .ok (.iload_n 1, 1) := by decide +kernel
theorem dX12_read_35 : decode cX12_read 35 = .ok (.imul, 1) := by decide +kernel
theorem dX12_read_36 : decode cX12_read 36 = .ok (.iload_n 2, 1) := by decide +kernel
theorem dX12_read_37 : decode cX12_read 37 = .ok (.iadd, 1) := by decide +kernel
theorem dX12_read_38 : decode cX12_read 38 = .ok (.laload, 1) := by decide +kernel
theorem dX12_read_39 : decode cX12_read 39 = .ok (.lreturn, 1) := by decide +kernel
def F_X12_read (w : Nat) (M : z_Mem) (a1 : Int32) (a2 : Int32) : Option (Int64 × z_Mem) :=
  (F_X12_placed w (z_wI M 137 1 (0 : Int32)) a1 a2).bind fun q1 =>
  if q1.1 ≤ (0 : Int32) then
  if (((60 : Int32) * a1) + a2) < 0 ∨ 240 ≤ (((60 : Int32) * a1) + a2).toNatClampNeg then none else
  some ((z_wI q1.2 137 0 q1.1).2 140 (((60 : Int32) * a1) + a2).toNatClampNeg, (z_wI q1.2 137 0 q1.1))
  else
  some ((-1 : Int64), (z_wI q1.2 137 0 q1.1))
set_option maxHeartbeats 4000000 in
theorem A_X12_read {w : Nat} {M : z_Mem} {a1 : Int32} {a2 : Int32} {r : Int64} {M' : z_Mem} {Q : Option Value → z_Mem → Prop} (h : F_X12_read w M a1 a2 = some (r, M')) (hq : Q (some (.long r)) M') : z_Cl 2 mX12_read [.ref 139, .int a1, .int a2] M Q := by
  refine g_in (ls := [some (.ref 139), some (.int a1), some (.int a2)]) rfl ?_
  unfold F_X12_read at h
  refine g_aload_n dX12_read_0 rfl rfl ?_
  refine g_iconst (v := (0 : Int32)) dX12_read_1 (by decide) ?_
  refine g_putI (a := 137) dX12_read_2 f_12_57 sh_137 rfl rfl rfl ?_
  refine g_aload_n dX12_read_5 rfl rfl ?_
  refine g_aload_n dX12_read_6 rfl rfl ?_
  refine g_iload_n dX12_read_7 rfl rfl ?_
  refine g_iload_n dX12_read_8 rfl rfl ?_
  obtain ⟨q1, e2, h⟩ := z_bd h
  refine g_callV (a := 137) (as := [.int a1, .int a2]) (rest := [.ref 139]) (c := mX12_placed) (k1 := 1) dX12_read_9 rfl rfl rfl sh_137 rfl rfl (Nat.le_of_ble_eq_true rfl) (Nat.le_of_ble_eq_true rfl) (by decide) ?_
  refine A_X12_placed e2 ?_
  show z_G none 2 mX12_read 12 [some (.ref 139), some (.int a1), some (.int a2)] [.int q1.1, .ref 139] q1.2 Q
  refine g_putI (a := 137) dX12_read_12 f_12_60 sh_137 rfl rfl rfl ?_
  refine g_aload_n dX12_read_15 rfl rfl ?_
  refine g_get (a := 137) (v := .int q1.1) dX12_read_16 f_12_60 sh_137 rfl (by simp [z_fv, z_wI, z_wL, z_wLs, upd, vp_updL]) ?_
  refine g_if_le (t := 28) dX12_read_19 (by decide) (fun c3 => ?_) (fun c3 => ?_)
  · replace h := z_ift c3 h
    refine g_aload_n dX12_read_28 rfl rfl ?_
    refine g_get (a := 137) (v := .ref 142) dX12_read_29 f_12_20 sh_137 rfl rfl ?_
    refine g_bipush (v := (60 : Int32)) dX12_read_32 (by decide) ?_
    refine g_iload_n dX12_read_34 rfl rfl ?_
    refine g_imul dX12_read_35 ?_
    refine g_iload_n dX12_read_36 rfl rfl ?_
    refine g_iadd dX12_read_37 ?_
    by_cases g4 : (((60 : Int32) * a1) + a2) < 0 ∨ 240 ≤ (((60 : Int32) * a1) + a2).toNatClampNeg
    · rw [if_pos g4] at h; cases h
    replace h := z_iff g4 h
    refine g_lald (a := 140) dX12_read_38 sh_140 g4 ?_
    cases h
    exact g_lret dX12_read_39 rfl hq
  · replace h := z_iff c3 h
    refine g_ldc2_w dX12_read_22 rfl ?_
    refine g_goto (t := 39) dX12_read_25 (by decide) ?_
    cases h
    exact g_lret dX12_read_39 rfl hq
theorem dX12_pour_0 : decode cX12_pour 0 = .ok (.aload_n 0, 1) := by decide +kernel
theorem dX12_pour_1 : decode cX12_pour 1 = .ok (.iconst 0, 1) := by decide +kernel
theorem dX12_pour_2 : decode cX12_pour 2 = .ok (.putfield 57, 3) := by decide +kernel
theorem dX12_pour_5 : decode cX12_pour 5 = .ok (.aload_n 0, 1) := by decide +kernel
theorem dX12_pour_6 : decode cX12_pour 6 = .ok (.iconst 0, 1) := by decide +kernel
theorem dX12_pour_7 : decode cX12_pour 7 = .ok (.putfield 60, 3) := by decide +kernel
theorem dX12_pour_10 : decode cX12_pour 10 = .ok (.iload_n 1, 1) := by decide +kernel
theorem dX12_pour_11 : decode cX12_pour 11 = .ok (.ifCond .lt 17, 3) := by decide +kernel
theorem dX12_pour_14 : decode cX12_pour 14 = .ok (.iload_n 1, 1) := by decide +kernel
theorem dX12_pour_15 : decode cX12_pour 15 = .ok (.iconst 4, 1) := by decide +kernel
theorem dX12_pour_16 : decode cX12_pour 16 = .ok (.if_icmp .ge 12, 3) := by decide +kernel
theorem dX12_pour_19 : decode cX12_pour 19 = .ok (.iload_n 3, 1) := by decide +kernel
theorem dX12_pour_20 : decode cX12_pour 20 = .ok (.ifCond .lt 8, 3) := by decide +kernel
theorem dX12_pour_23 : decode cX12_pour 23 = .ok (.iload_n 3, 1) := by decide +kernel
theorem dX12_pour_24 : decode cX12_pour 24 = .ok (.iconst 4, 1) := by decide +kernel
theorem dX12_pour_25 : decode cX12_pour 25 = .ok (.if_icmp .lt 9, 3) := by decide +kernel
theorem dX12_pour_28 : decode cX12_pour 28 = .ok (.aload_n 0, 1) := by decide +kernel
theorem dX12_pour_29 : decode cX12_pour 29 = .ok (.iconst 1, 1) := by decide +kernel
theorem dX12_pour_30 : decode cX12_pour 30 = .ok (.invokevirtual 72, 3) := by decide +kernel
theorem dX12_pour_33 : decode cX12_pour 33 = .ok (.ireturn, 1) := by decide +kernel
theorem dX12_pour_34 : decode cX12_pour 34 = .ok (.aload_n 0, 1) := by decide +kernel
theorem dX12_pour_35 : decode cX12_pour 35 = .ok (.getfield 17, 3) := by decide +kernel
theorem dX12_pour_38 : decode cX12_pour 38 = .ok (.iload_n 1, 1) := by decide +kernel
theorem dX12_pour_39 : decode cX12_pour 39 = .ok (.iaload, 1) := by decide +kernel
theorem dX12_pour_40 : decode cX12_pour 40 = .ok (.ifCond .lt 12, 3) := by decide +kernel
theorem dX12_pour_43 : decode cX12_pour 43 = .ok (.aload_n 0, 1) := by decide +kernel
theorem dX12_pour_44 : decode cX12_pour 44 = .ok (.getfield 17, 3) := by decide +kernel
theorem dX12_pour_47 : decode cX12_pour 47 = .ok (.iload_n 3, 1) := by decide +kernel
theorem dX12_pour_48 : decode cX12_pour 48 = .ok (.iaload, 1) := by decide +kernel
theorem dX12_pour_49 : decode cX12_pour 49 = .ok (.ifCond .ge 9, 3) := by decide +kernel
theorem dX12_pour_52 : decode cX12_pour 52 = .ok (.aload_n 0, 1) := by decide +kernel
theorem dX12_pour_53 : decode cX12_pour 53 = .ok (.iconst 3, 1) := by decide +kernel
theorem dX12_pour_54 : decode cX12_pour 54 = .ok (.invokevirtual 72, 3) := by decide +kernel
theorem dX12_pour_57 : decode cX12_pour 57 = .ok (.ireturn, 1) := by decide +kernel
theorem dX12_pour_58 : decode cX12_pour 58 = .ok (.aload_n 0, 1) := by decide +kernel
theorem dX12_pour_59 : decode cX12_pour 59 = .ok (.getfield 13, 3) := by decide +kernel
theorem dX12_pour_62 : decode cX12_pour 62 = .ok (.iload_n 1, 1) := by decide +kernel
theorem dX12_pour_63 : decode cX12_pour 63 = .ok (.iaload, 1) := by decide +kernel
theorem dX12_pour_64 : decode cX12_pour 64 = .ok (.aload_n 0, 1) := by decide +kernel
theorem dX12_pour_65 : decode cX12_pour 65 = .ok (.getfield 13, 3) := by decide +kernel
theorem dX12_pour_68 : decode cX12_pour 68 = .ok (.iload_n 3, 1) := by decide +kernel
theorem dX12_pour_69 : decode cX12_pour 69 = .ok (.iaload, 1) := by decide +kernel
theorem dX12_pour_70 : decode cX12_pour 70 = .ok (.if_icmp .eq 10, 3) := by decide +kernel
theorem dX12_pour_73 : decode cX12_pour 73 = .ok (.aload_n 0, 1) := by decide +kernel
theorem dX12_pour_74 : decode cX12_pour 74 = .ok (.bipush 11, 2) := by decide +kernel
theorem dX12_pour_76 : decode cX12_pour 76 = .ok (.invokevirtual 72, 3) := by decide +kernel
theorem dX12_pour_79 : decode cX12_pour 79 = .ok (.ireturn, 1) := by decide +kernel
theorem dX12_pour_80 : decode cX12_pour 80 = .ok (.iload 5, 2) := by decide +kernel
theorem dX12_pour_82 : decode cX12_pour 82 = .ok (.ifCond .ge 10, 3) := by decide +kernel
theorem dX12_pour_85 : decode cX12_pour 85 = .ok (.aload_n 0, 1) := by decide +kernel
theorem dX12_pour_86 : decode cX12_pour 86 = .ok (.bipush 6, 2) := by decide +kernel
theorem dX12_pour_88 : decode cX12_pour 88 = .ok (.invokevirtual 72, 3) := by decide +kernel
theorem dX12_pour_91 : decode cX12_pour 91 = .ok (.ireturn, 1) := by decide +kernel
theorem dX12_pour_92 : decode cX12_pour 92 = .ok (.iload_n 2, 1) := by decide +kernel
theorem dX12_pour_93 : decode cX12_pour 93 = .ok (.ifCond .lt 43, 3) := by decide +kernel
theorem dX12_pour_96 : decode cX12_pour 96 = .ok (.iload 4, 2) := by decide +kernel
theorem dX12_pour_98 : decode cX12_pour 98 = .ok (.ifCond .lt 38, 3) := by decide +kernel
theorem dX12_pour_101 : decode cX12_pour 101 = .ok (.iload_n 2, 1) := by decide +kernel
theorem dX12_pour_102 : decode cX12_pour 102 = .ok (.i2l, 1) := by decide +kernel
theorem dX12_pour_103 : decode cX12_pour 103 = .ok (.iload 5, 2) := by decide +kernel
theorem dX12_pour_105 : decode cX12_pour 105 = .ok (.i2l, 1) := by decide +kernel
theorem dX12_pour_106 : decode cX12_pour 106 = .ok (.ladd, 1) := by decide +kernel
theorem dX12_pour_107 : decode cX12_pour 107 = .ok (.aload_n 0, 1) := by decide +kernel
theorem dX12_pour_108 : decode cX12_pour 108 = .ok (.getfield 17, 3) := by decide +kernel
theorem dX12_pour_111 : decode cX12_pour 111 = .ok (.iload_n 1, 1) := by decide +kernel
theorem dX12_pour_112 : decode cX12_pour 112 = .ok (.iaload, 1) := by decide +kernel
theorem dX12_pour_113 : decode cX12_pour 113 = .ok (.i2l, 1) := by decide +kernel
theorem dX12_pour_114 : decode cX12_pour 114 = .ok (.lcmp, 1) := by decide +kernel
theorem dX12_pour_115 : decode cX12_pour 115 = .ok (.ifCond .gt 21, 3) := by decide +kernel
theorem dX12_pour_118 : decode cX12_pour 118 = .ok (.iload 4, 2) := by decide +kernel
theorem dX12_pour_120 : decode cX12_pour 120 = .ok (.i2l, 1) := by decide +kernel
theorem dX12_pour_121 : decode cX12_pour 121 = .ok (.iload 5, 2) := by decide +kernel
theorem dX12_pour_123 : decode cX12_pour 123 = .ok (.i2l, 1) := by decide +kernel
theorem dX12_pour_124 : decode cX12_pour 124 = .ok (.ladd, 1) := by decide +kernel
theorem dX12_pour_125 : decode cX12_pour 125 = .ok (.aload_n 0, 1) := by decide +kernel
theorem dX12_pour_126 : decode cX12_pour 126 = .ok (.getfield 17, 3) := by decide +kernel
theorem dX12_pour_129 : decode cX12_pour 129 = .ok (.iload_n 3, 1) := by decide +kernel
theorem dX12_pour_130 : decode cX12_pour 130 = .ok (.iaload, 1) := by decide +kernel
theorem dX12_pour_131 : decode cX12_pour 131 = .ok (.i2l, 1) := by decide +kernel
theorem dX12_pour_132 : decode cX12_pour 132 = .ok (.lcmp, 1) := by decide +kernel
theorem dX12_pour_133 : decode cX12_pour 133 = .ok (.ifCond .le 9, 3) := by decide +kernel
theorem dX12_pour_136 : decode cX12_pour 136 = .ok (.aload_n 0, 1) := by decide +kernel
theorem dX12_pour_137 : decode cX12_pour 137 = .ok (.iconst 4, 1) := by decide +kernel
theorem dX12_pour_138 : decode cX12_pour 138 = .ok (.invokevirtual 72, 3) := by decide +kernel
theorem dX12_pour_141 : decode cX12_pour 141 = .ok (.ireturn, 1) := by decide +kernel
theorem dX12_pour_142 : decode cX12_pour 142 = .ok (.iload_n 2, 1) := by decide +kernel
theorem dX12_pour_143 : decode cX12_pour 143 = .ok (.iload 4, 2) := by decide +kernel
theorem dX12_pour_145 : decode cX12_pour 145 = .ok (.if_icmp .ge 7, 3) := by decide +kernel
theorem dX12_pour_148 : decode cX12_pour 148 = .ok (.iconst 1, 1) := by decide +kernel
theorem dX12_pour_149 : decode cX12_pour 149 = .ok (.goto 4, 3) := by decide +kernel
theorem dX12_pour_152 : decode cX12_pour 152 = .ok (.iconst 0, 1) := by decide +kernel
theorem dX12_pour_153 : decode cX12_pour 153 = .ok (.istore 6, 2) := by decide +kernel
theorem dX12_pour_155 : decode cX12_pour 155 = .ok (.iconst 0, 1) := by decide +kernel
theorem dX12_pour_156 : decode cX12_pour 156 = .ok (.istore 7, 2) := by decide +kernel
theorem dX12_pour_158 : decode cX12_pour 158 = .ok (.iload 7, 2) := by decide +kernel
theorem dX12_pour_160 : decode cX12_pour 160 = .ok (.iload 5, 2) := by decide +kernel
theorem dX12_pour_162 : decode cX12_pour 162 = .ok (.if_icmp .ge 57, 3) := by decide +kernel
theorem dX12_pour_165 : decode cX12_pour 165 = .ok (.iload 6, 2) := by decide +kernel
theorem dX12_pour_167 : decode cX12_pour 167 = .ok (.ifCond .eq 13, 3) := by decide +kernel
theorem dX12_pour_170 : decode cX12_pour 170 = .ok (.iload 5, 2) := by decide +kernel
theorem dX12_pour_172 : decode cX12_pour 172 = .ok (.iconst 1, 1) := by decide +kernel
theorem dX12_pour_173 : decode cX12_pour 173 = .ok (.isub, 1) := by decide +kernel
theorem dX12_pour_174 : decode cX12_pour 174 = .ok (.iload 7, 2) := by decide +kernel
theorem dX12_pour_176 : decode cX12_pour 176 = .ok (.isub, 1) := by decide +kernel
theorem dX12_pour_177 : decode cX12_pour 177 = .ok (.goto 5, 3) := by decide +kernel
theorem dX12_pour_180 : decode cX12_pour 180 = .ok (.iload 7, 2) := by decide +kernel
theorem dX12_pour_182 : decode cX12_pour 182 = .ok (.istore 8, 2) := by decide +kernel
theorem dX12_pour_184 : decode cX12_pour 184 = .ok (.aload_n 0, 1) := by decide +kernel
theorem dX12_pour_185 : decode cX12_pour 185 = .ok (.getfield 20, 3) := by decide +kernel
theorem dX12_pour_188 : decode cX12_pour 188 = .ok (.bipush 60, 2) := by decide +kernel
theorem dX12_pour_190 : decode cX12_pour 190 = .ok (.iload_n 3, 1) := by decide +kernel
theorem dX12_pour_191 : decode cX12_pour 191 = .ok (.imul, 1) := by decide +kernel
theorem dX12_pour_192 : decode cX12_pour 192 = .ok (.iload 4, 2) := by decide +kernel
theorem dX12_pour_194 : decode cX12_pour 194 = .ok (.iadd, 1) := by decide +kernel
theorem dX12_pour_195 : decode cX12_pour 195 = .ok (.iload 8, 2) := by decide +kernel
theorem dX12_pour_197 : decode cX12_pour 197 = .ok (.iadd, 1) := by decide +kernel
theorem dX12_pour_198 : decode cX12_pour 198 = .ok (.aload_n 0, 1) := by decide +kernel
theorem dX12_pour_199 : decode cX12_pour 199 = .ok (.getfield 20, 3) := by decide +kernel
theorem dX12_pour_202 : decode cX12_pour 202 = .ok (.bipush 60, 2) := by decide +kernel
theorem dX12_pour_204 : decode cX12_pour 204 = .ok (.iload_n 1, 1) := by decide +kernel
theorem dX12_pour_205 : decode cX12_pour 205 = .ok (.imul, 1) := by decide +kernel
theorem dX12_pour_206 : decode cX12_pour 206 = .ok (.iload_n 2, 1) := by decide +kernel
theorem dX12_pour_207 : decode cX12_pour 207 = .ok (.iadd, 1) := by decide +kernel
theorem dX12_pour_208 : decode cX12_pour 208 = .ok (.iload 8, 2) := by decide +kernel
theorem dX12_pour_210 : decode cX12_pour 210 = .ok (.iadd, 1) := by decide +kernel
theorem dX12_pour_211 : decode cX12_pour 211 = .ok (.laload, 1) := by decide +kernel
theorem dX12_pour_212 : decode cX12_pour 212 = .ok (.lastore, 1) := by decide +kernel
theorem dX12_pour_213 : decode cX12_pour 213 = .ok (.iinc 7 1, 3) := by decide +kernel
theorem dX12_pour_216 : decode cX12_pour 216 = .ok (.goto (-58), 3) := by decide +kernel
theorem dX12_pour_219 : decode cX12_pour 219 = .ok (.iconst 1, 1) := by decide +kernel
theorem dX12_pour_220 : decode cX12_pour 220 = .ok (.ireturn, 1) := by decide +kernel
def L_X12_pour (w : Nat) : Nat → z_Mem → Int32 → Int32 → Int32 → Int32 → Int32 → Int32 → Int32 → Option (Bool × z_Mem)
  | 0, _, _, _, _, _, _, _, _ => none
  | c + 1, M, x1, x2, x3, x4, x5, x6, x7 =>
    if x5 ≤ x7 then
    some (true, M)
    else
    if x6 = (0 : Int32) then
    if ((((60 : Int32) * x1) + x2) + x7) < 0 ∨ 240 ≤ ((((60 : Int32) * x1) + x2) + x7).toNatClampNeg then none else
    if ((((60 : Int32) * x3) + x4) + x7) < 0 ∨ 240 ≤ ((((60 : Int32) * x3) + x4) + x7).toNatClampNeg then none else
    L_X12_pour w c (z_wL M 140 (((((60 : Int32) * x3) + x4) + x7).toNatClampNeg) (M.2 140 ((((60 : Int32) * x1) + x2) + x7).toNatClampNeg)) x1 x2 x3 x4 x5 x6 (x7 + (1 : Int32))
    else
    if ((((60 : Int32) * x1) + x2) + ((x5 - (1 : Int32)) - x7)) < 0 ∨ 240 ≤ ((((60 : Int32) * x1) + x2) + ((x5 - (1 : Int32)) - x7)).toNatClampNeg then none else
    if ((((60 : Int32) * x3) + x4) + ((x5 - (1 : Int32)) - x7)) < 0 ∨ 240 ≤ ((((60 : Int32) * x3) + x4) + ((x5 - (1 : Int32)) - x7)).toNatClampNeg then none else
    L_X12_pour w c (z_wL M 140 (((((60 : Int32) * x3) + x4) + ((x5 - (1 : Int32)) - x7)).toNatClampNeg) (M.2 140 ((((60 : Int32) * x1) + x2) + ((x5 - (1 : Int32)) - x7)).toNatClampNeg)) x1 x2 x3 x4 x5 x6 (x7 + (1 : Int32))
set_option maxHeartbeats 4000000 in
theorem AL_X12_pour {w : Nat} : ∀ (c : Nat), (∀ (M : z_Mem) (x1 : Int32) (x2 : Int32) (x3 : Int32) (x4 : Int32) (x5 : Int32) (x6 : Int32) (x7 : Int32) (r : Bool) (M' : z_Mem) (Q : Option Value → z_Mem → Prop), L_X12_pour w c M x1 x2 x3 x4 x5 x6 x7 = some (r, M') → Q (some (.int (z_tb r))) M' → z_G none 1 mX12_pour 158 [some (.ref 139), some (.int x1), some (.int x2), some (.int x3), some (.int x4), some (.int x5), some (.int x6), some (.int x7), none] [] M Q) := by
  intro c
  induction c with
  | zero => exact (fun M x1 x2 x3 x4 x5 x6 x7 r M' Q h hq => by rw [L_X12_pour] at h; cases h)
  | succ c ih =>
    intro M x1 x2 x3 x4 x5 x6 x7 r M' Q h hq
    rw [L_X12_pour] at h
    refine g_iload dX12_pour_158 rfl ?_
    refine g_iload dX12_pour_160 rfl ?_
    refine g_ic_ge (t := 219) dX12_pour_162 (by decide) (fun c1 => ?_) (fun c1 => ?_)
    · replace h := z_ift c1 h
      refine g_iconst (v := (1 : Int32)) dX12_pour_219 (by decide) ?_
      cases h
      exact g_iret dX12_pour_220 rfl rfl hq
    · replace h := z_iff c1 h
      refine g_iload dX12_pour_165 rfl ?_
      refine g_if_eq (t := 180) dX12_pour_167 (by decide) (fun c2 => ?_) (fun c2 => ?_)
      · replace h := z_ift c2 h
        refine g_iload dX12_pour_180 rfl ?_
        refine g_istore (ls' := [some (.ref 139), some (.int x1), some (.int x2), some (.int x3), some (.int x4), some (.int x5), some (.int x6), some (.int x7), some (.int x7)]) dX12_pour_182 (Nat.le_of_ble_eq_true rfl) rfl ?_
        refine g_aload_n dX12_pour_184 rfl rfl ?_
        refine g_get (a := 137) (v := .ref 142) dX12_pour_185 f_12_20 sh_137 rfl rfl ?_
        refine g_bipush (v := (60 : Int32)) dX12_pour_188 (by decide) ?_
        refine g_iload_n dX12_pour_190 rfl rfl ?_
        refine g_imul dX12_pour_191 ?_
        refine g_iload dX12_pour_192 rfl ?_
        refine g_iadd dX12_pour_194 ?_
        refine g_iload dX12_pour_195 rfl ?_
        refine g_iadd dX12_pour_197 ?_
        refine g_aload_n dX12_pour_198 rfl rfl ?_
        refine g_get (a := 137) (v := .ref 142) dX12_pour_199 f_12_20 sh_137 rfl rfl ?_
        refine g_bipush (v := (60 : Int32)) dX12_pour_202 (by decide) ?_
        refine g_iload_n dX12_pour_204 rfl rfl ?_
        refine g_imul dX12_pour_205 ?_
        refine g_iload_n dX12_pour_206 rfl rfl ?_
        refine g_iadd dX12_pour_207 ?_
        refine g_iload dX12_pour_208 rfl ?_
        refine g_iadd dX12_pour_210 ?_
        by_cases g3 : ((((60 : Int32) * x1) + x2) + x7) < 0 ∨ 240 ≤ ((((60 : Int32) * x1) + x2) + x7).toNatClampNeg
        · rw [if_pos g3] at h; cases h
        replace h := z_iff g3 h
        refine g_lald (a := 140) dX12_pour_211 sh_140 g3 ?_
        by_cases g4 : ((((60 : Int32) * x3) + x4) + x7) < 0 ∨ 240 ≤ ((((60 : Int32) * x3) + x4) + x7).toNatClampNeg
        · rw [if_pos g4] at h; cases h
        replace h := z_iff g4 h
        refine g_last (a := 140) dX12_pour_212 sh_140 g4 ?_
        refine g_iinc (v := x7 + (1 : Int32)) (ls' := [some (.ref 139), some (.int x1), some (.int x2), some (.int x3), some (.int x4), some (.int x5), some (.int x6), some (.int (x7 + (1 : Int32))), some (.int x7)]) dX12_pour_213 rfl rfl rfl ?_
        refine g_goto (t := 158) dX12_pour_216 (by decide) ?_
        exact g_sub (z_sub_s (z_sub_s (z_sub_s (z_sub_s (z_sub_s (z_sub_s (z_sub_s (z_sub_s (z_sub_n z_sub_nil))))))))) (ih _ _ _ _ _ _ _ _ _ _ _ h hq)
      · replace h := z_iff c2 h
        refine g_iload dX12_pour_170 rfl ?_
        refine g_iconst (v := (1 : Int32)) dX12_pour_172 (by decide) ?_
        refine g_isub dX12_pour_173 ?_
        refine g_iload dX12_pour_174 rfl ?_
        refine g_isub dX12_pour_176 ?_
        refine g_goto (t := 182) dX12_pour_177 (by decide) ?_
        refine g_istore (ls' := [some (.ref 139), some (.int x1), some (.int x2), some (.int x3), some (.int x4), some (.int x5), some (.int x6), some (.int x7), some (.int ((x5 - (1 : Int32)) - x7))]) dX12_pour_182 (Nat.le_of_ble_eq_true rfl) rfl ?_
        refine g_aload_n dX12_pour_184 rfl rfl ?_
        refine g_get (a := 137) (v := .ref 142) dX12_pour_185 f_12_20 sh_137 rfl rfl ?_
        refine g_bipush (v := (60 : Int32)) dX12_pour_188 (by decide) ?_
        refine g_iload_n dX12_pour_190 rfl rfl ?_
        refine g_imul dX12_pour_191 ?_
        refine g_iload dX12_pour_192 rfl ?_
        refine g_iadd dX12_pour_194 ?_
        refine g_iload dX12_pour_195 rfl ?_
        refine g_iadd dX12_pour_197 ?_
        refine g_aload_n dX12_pour_198 rfl rfl ?_
        refine g_get (a := 137) (v := .ref 142) dX12_pour_199 f_12_20 sh_137 rfl rfl ?_
        refine g_bipush (v := (60 : Int32)) dX12_pour_202 (by decide) ?_
        refine g_iload_n dX12_pour_204 rfl rfl ?_
        refine g_imul dX12_pour_205 ?_
        refine g_iload_n dX12_pour_206 rfl rfl ?_
        refine g_iadd dX12_pour_207 ?_
        refine g_iload dX12_pour_208 rfl ?_
        refine g_iadd dX12_pour_210 ?_
        by_cases g5 : ((((60 : Int32) * x1) + x2) + ((x5 - (1 : Int32)) - x7)) < 0 ∨ 240 ≤ ((((60 : Int32) * x1) + x2) + ((x5 - (1 : Int32)) - x7)).toNatClampNeg
        · rw [if_pos g5] at h; cases h
        replace h := z_iff g5 h
        refine g_lald (a := 140) dX12_pour_211 sh_140 g5 ?_
        by_cases g6 : ((((60 : Int32) * x3) + x4) + ((x5 - (1 : Int32)) - x7)) < 0 ∨ 240 ≤ ((((60 : Int32) * x3) + x4) + ((x5 - (1 : Int32)) - x7)).toNatClampNeg
        · rw [if_pos g6] at h; cases h
        replace h := z_iff g6 h
        refine g_last (a := 140) dX12_pour_212 sh_140 g6 ?_
        refine g_iinc (v := x7 + (1 : Int32)) (ls' := [some (.ref 139), some (.int x1), some (.int x2), some (.int x3), some (.int x4), some (.int x5), some (.int x6), some (.int (x7 + (1 : Int32))), some (.int ((x5 - (1 : Int32)) - x7))]) dX12_pour_213 rfl rfl rfl ?_
        refine g_goto (t := 158) dX12_pour_216 (by decide) ?_
        exact g_sub (z_sub_s (z_sub_s (z_sub_s (z_sub_s (z_sub_s (z_sub_s (z_sub_s (z_sub_s (z_sub_n z_sub_nil))))))))) (ih _ _ _ _ _ _ _ _ _ _ _ h hq)
def F_X12_pour (w : Nat) (M : z_Mem) (a1 : Int32) (a2 : Int32) (a3 : Int32) (a4 : Int32) (a5 : Int32) : Option (Bool × z_Mem) :=
  if a1 < (0 : Int32) then
  (F_X12_no w (z_wI (z_wI M 137 1 (0 : Int32)) 137 0 (0 : Int32)) (1 : Int32)).bind fun q8 =>
  some (q8.1, q8.2)
  else
  if (4 : Int32) ≤ a1 then
  (F_X12_no w (z_wI (z_wI M 137 1 (0 : Int32)) 137 0 (0 : Int32)) (1 : Int32)).bind fun q11 =>
  some (q11.1, q11.2)
  else
  if a3 < (0 : Int32) then
  (F_X12_no w (z_wI (z_wI M 137 1 (0 : Int32)) 137 0 (0 : Int32)) (1 : Int32)).bind fun q14 =>
  some (q14.1, q14.2)
  else
  if a3 < (4 : Int32) then
  if a1 < 0 ∨ 4 ≤ a1.toNatClampNeg then none else
  if ((z_wI (z_wI M 137 1 (0 : Int32)) 137 0 (0 : Int32)).1 139 a1.toNatClampNeg) < (0 : Int32) then
  (F_X12_no w (z_wI (z_wI M 137 1 (0 : Int32)) 137 0 (0 : Int32)) (3 : Int32)).bind fun q19 =>
  some (q19.1, q19.2)
  else
  if a3 < 0 ∨ 4 ≤ a3.toNatClampNeg then none else
  if (0 : Int32) ≤ ((z_wI (z_wI M 137 1 (0 : Int32)) 137 0 (0 : Int32)).1 139 a3.toNatClampNeg) then
  if a1 < 0 ∨ 4 ≤ a1.toNatClampNeg then none else
  if a3 < 0 ∨ 4 ≤ a3.toNatClampNeg then none else
  if ((z_wI (z_wI M 137 1 (0 : Int32)) 137 0 (0 : Int32)).1 138 a1.toNatClampNeg) = ((z_wI (z_wI M 137 1 (0 : Int32)) 137 0 (0 : Int32)).1 138 a3.toNatClampNeg) then
  if (0 : Int32) ≤ a5 then
  if a2 < (0 : Int32) then
  (F_X12_no w (z_wI (z_wI M 137 1 (0 : Int32)) 137 0 (0 : Int32)) (4 : Int32)).bind fun q28 =>
  some (q28.1, q28.2)
  else
  if a4 < (0 : Int32) then
  (F_X12_no w (z_wI (z_wI M 137 1 (0 : Int32)) 137 0 (0 : Int32)) (4 : Int32)).bind fun q31 =>
  some (q31.1, q31.2)
  else
  if a1 < 0 ∨ 4 ≤ a1.toNatClampNeg then none else
  if (0 : Int32) < (lg_cmp (a2.toInt64 + a5.toInt64) (((z_wI (z_wI M 137 1 (0 : Int32)) 137 0 (0 : Int32)).1 139 a1.toNatClampNeg).toInt64)) then
  (F_X12_no w (z_wI (z_wI M 137 1 (0 : Int32)) 137 0 (0 : Int32)) (4 : Int32)).bind fun q35 =>
  some (q35.1, q35.2)
  else
  if a3 < 0 ∨ 4 ≤ a3.toNatClampNeg then none else
  if (lg_cmp (a4.toInt64 + a5.toInt64) (((z_wI (z_wI M 137 1 (0 : Int32)) 137 0 (0 : Int32)).1 139 a3.toNatClampNeg).toInt64)) ≤ (0 : Int32) then
  if a4 ≤ a2 then
  L_X12_pour w w (z_wI (z_wI M 137 1 (0 : Int32)) 137 0 (0 : Int32)) a1 a2 a3 a4 a5 (0 : Int32) (0 : Int32)
  else
  L_X12_pour w w (z_wI (z_wI M 137 1 (0 : Int32)) 137 0 (0 : Int32)) a1 a2 a3 a4 a5 (1 : Int32) (0 : Int32)
  else
  (F_X12_no w (z_wI (z_wI M 137 1 (0 : Int32)) 137 0 (0 : Int32)) (4 : Int32)).bind fun q40 =>
  some (q40.1, q40.2)
  else
  (F_X12_no w (z_wI (z_wI M 137 1 (0 : Int32)) 137 0 (0 : Int32)) (6 : Int32)).bind fun q42 =>
  some (q42.1, q42.2)
  else
  (F_X12_no w (z_wI (z_wI M 137 1 (0 : Int32)) 137 0 (0 : Int32)) (11 : Int32)).bind fun q44 =>
  some (q44.1, q44.2)
  else
  (F_X12_no w (z_wI (z_wI M 137 1 (0 : Int32)) 137 0 (0 : Int32)) (3 : Int32)).bind fun q46 =>
  some (q46.1, q46.2)
  else
  (F_X12_no w (z_wI (z_wI M 137 1 (0 : Int32)) 137 0 (0 : Int32)) (1 : Int32)).bind fun q48 =>
  some (q48.1, q48.2)
set_option maxHeartbeats 4000000 in
theorem A_X12_pour {w : Nat} {M : z_Mem} {a1 : Int32} {a2 : Int32} {a3 : Int32} {a4 : Int32} {a5 : Int32} {r : Bool} {M' : z_Mem} {Q : Option Value → z_Mem → Prop} (h : F_X12_pour w M a1 a2 a3 a4 a5 = some (r, M')) (hq : Q (some (.int (z_tb r))) M') : z_Cl 1 mX12_pour [.ref 139, .int a1, .int a2, .int a3, .int a4, .int a5] M Q := by
  refine g_in (ls := [some (.ref 139), some (.int a1), some (.int a2), some (.int a3), some (.int a4), some (.int a5), none, none, none]) rfl ?_
  unfold F_X12_pour at h
  refine g_aload_n dX12_pour_0 rfl rfl ?_
  refine g_iconst (v := (0 : Int32)) dX12_pour_1 (by decide) ?_
  refine g_putI (a := 137) dX12_pour_2 f_12_57 sh_137 rfl rfl rfl ?_
  refine g_aload_n dX12_pour_5 rfl rfl ?_
  refine g_iconst (v := (0 : Int32)) dX12_pour_6 (by decide) ?_
  refine g_putI (a := 137) dX12_pour_7 f_12_60 sh_137 rfl rfl rfl ?_
  refine g_iload_n dX12_pour_10 rfl rfl ?_
  refine g_if_lt (t := 28) dX12_pour_11 (by decide) (fun c7 => ?_) (fun c7 => ?_)
  · replace h := z_ift c7 h
    refine g_aload_n dX12_pour_28 rfl rfl ?_
    refine g_iconst (v := (1 : Int32)) dX12_pour_29 (by decide) ?_
    obtain ⟨q8, e9, h⟩ := z_bd h
    refine g_callV (a := 137) (as := [.int (1 : Int32)]) (rest := []) (c := mX12_no) (k1 := 0) dX12_pour_30 rfl rfl rfl sh_137 rfl rfl (Nat.le_of_ble_eq_true rfl) (Nat.le_of_ble_eq_true rfl) (by decide) ?_
    refine A_X12_no e9 ?_
    show z_G none 1 mX12_pour 33 [some (.ref 139), some (.int a1), some (.int a2), some (.int a3), some (.int a4), some (.int a5), none, none, none] [.int (z_tb q8.1)] q8.2 Q
    cases h
    exact g_iret dX12_pour_33 rfl nb_tb hq
  · replace h := z_iff c7 h
    refine g_iload_n dX12_pour_14 rfl rfl ?_
    refine g_iconst (v := (4 : Int32)) dX12_pour_15 (by decide) ?_
    refine g_ic_ge (t := 28) dX12_pour_16 (by decide) (fun c10 => ?_) (fun c10 => ?_)
    · replace h := z_ift c10 h
      refine g_aload_n dX12_pour_28 rfl rfl ?_
      refine g_iconst (v := (1 : Int32)) dX12_pour_29 (by decide) ?_
      obtain ⟨q11, e12, h⟩ := z_bd h
      refine g_callV (a := 137) (as := [.int (1 : Int32)]) (rest := []) (c := mX12_no) (k1 := 0) dX12_pour_30 rfl rfl rfl sh_137 rfl rfl (Nat.le_of_ble_eq_true rfl) (Nat.le_of_ble_eq_true rfl) (by decide) ?_
      refine A_X12_no e12 ?_
      show z_G none 1 mX12_pour 33 [some (.ref 139), some (.int a1), some (.int a2), some (.int a3), some (.int a4), some (.int a5), none, none, none] [.int (z_tb q11.1)] q11.2 Q
      cases h
      exact g_iret dX12_pour_33 rfl nb_tb hq
    · replace h := z_iff c10 h
      refine g_iload_n dX12_pour_19 rfl rfl ?_
      refine g_if_lt (t := 28) dX12_pour_20 (by decide) (fun c13 => ?_) (fun c13 => ?_)
      · replace h := z_ift c13 h
        refine g_aload_n dX12_pour_28 rfl rfl ?_
        refine g_iconst (v := (1 : Int32)) dX12_pour_29 (by decide) ?_
        obtain ⟨q14, e15, h⟩ := z_bd h
        refine g_callV (a := 137) (as := [.int (1 : Int32)]) (rest := []) (c := mX12_no) (k1 := 0) dX12_pour_30 rfl rfl rfl sh_137 rfl rfl (Nat.le_of_ble_eq_true rfl) (Nat.le_of_ble_eq_true rfl) (by decide) ?_
        refine A_X12_no e15 ?_
        show z_G none 1 mX12_pour 33 [some (.ref 139), some (.int a1), some (.int a2), some (.int a3), some (.int a4), some (.int a5), none, none, none] [.int (z_tb q14.1)] q14.2 Q
        cases h
        exact g_iret dX12_pour_33 rfl nb_tb hq
      · replace h := z_iff c13 h
        refine g_iload_n dX12_pour_23 rfl rfl ?_
        refine g_iconst (v := (4 : Int32)) dX12_pour_24 (by decide) ?_
        refine g_ic_lt (t := 34) dX12_pour_25 (by decide) (fun c16 => ?_) (fun c16 => ?_)
        · replace h := z_ift c16 h
          refine g_aload_n dX12_pour_34 rfl rfl ?_
          refine g_get (a := 137) (v := .ref 141) dX12_pour_35 f_12_17 sh_137 rfl rfl ?_
          refine g_iload_n dX12_pour_38 rfl rfl ?_
          by_cases g17 : a1 < 0 ∨ 4 ≤ a1.toNatClampNeg
          · rw [if_pos g17] at h; cases h
          replace h := z_iff g17 h
          refine g_iald (a := 139) dX12_pour_39 sh_139 g17 ?_
          refine g_if_lt (t := 52) dX12_pour_40 (by decide) (fun c18 => ?_) (fun c18 => ?_)
          · replace h := z_ift c18 h
            refine g_aload_n dX12_pour_52 rfl rfl ?_
            refine g_iconst (v := (3 : Int32)) dX12_pour_53 (by decide) ?_
            obtain ⟨q19, e20, h⟩ := z_bd h
            refine g_callV (a := 137) (as := [.int (3 : Int32)]) (rest := []) (c := mX12_no) (k1 := 0) dX12_pour_54 rfl rfl rfl sh_137 rfl rfl (Nat.le_of_ble_eq_true rfl) (Nat.le_of_ble_eq_true rfl) (by decide) ?_
            refine A_X12_no e20 ?_
            show z_G none 1 mX12_pour 57 [some (.ref 139), some (.int a1), some (.int a2), some (.int a3), some (.int a4), some (.int a5), none, none, none] [.int (z_tb q19.1)] q19.2 Q
            cases h
            exact g_iret dX12_pour_57 rfl nb_tb hq
          · replace h := z_iff c18 h
            refine g_aload_n dX12_pour_43 rfl rfl ?_
            refine g_get (a := 137) (v := .ref 141) dX12_pour_44 f_12_17 sh_137 rfl rfl ?_
            refine g_iload_n dX12_pour_47 rfl rfl ?_
            by_cases g21 : a3 < 0 ∨ 4 ≤ a3.toNatClampNeg
            · rw [if_pos g21] at h; cases h
            replace h := z_iff g21 h
            refine g_iald (a := 139) dX12_pour_48 sh_139 g21 ?_
            refine g_if_ge (t := 58) dX12_pour_49 (by decide) (fun c22 => ?_) (fun c22 => ?_)
            · replace h := z_ift c22 h
              refine g_aload_n dX12_pour_58 rfl rfl ?_
              refine g_get (a := 137) (v := .ref 140) dX12_pour_59 f_12_13 sh_137 rfl rfl ?_
              refine g_iload_n dX12_pour_62 rfl rfl ?_
              by_cases g23 : a1 < 0 ∨ 4 ≤ a1.toNatClampNeg
              · rw [if_pos g23] at h; cases h
              replace h := z_iff g23 h
              refine g_iald (a := 138) dX12_pour_63 sh_138 g23 ?_
              refine g_aload_n dX12_pour_64 rfl rfl ?_
              refine g_get (a := 137) (v := .ref 140) dX12_pour_65 f_12_13 sh_137 rfl rfl ?_
              refine g_iload_n dX12_pour_68 rfl rfl ?_
              by_cases g24 : a3 < 0 ∨ 4 ≤ a3.toNatClampNeg
              · rw [if_pos g24] at h; cases h
              replace h := z_iff g24 h
              refine g_iald (a := 138) dX12_pour_69 sh_138 g24 ?_
              refine g_ic_eq (t := 80) dX12_pour_70 (by decide) (fun c25 => ?_) (fun c25 => ?_)
              · replace h := z_ift c25 h
                refine g_iload dX12_pour_80 rfl ?_
                refine g_if_ge (t := 92) dX12_pour_82 (by decide) (fun c26 => ?_) (fun c26 => ?_)
                · replace h := z_ift c26 h
                  refine g_iload_n dX12_pour_92 rfl rfl ?_
                  refine g_if_lt (t := 136) dX12_pour_93 (by decide) (fun c27 => ?_) (fun c27 => ?_)
                  · replace h := z_ift c27 h
                    refine g_aload_n dX12_pour_136 rfl rfl ?_
                    refine g_iconst (v := (4 : Int32)) dX12_pour_137 (by decide) ?_
                    obtain ⟨q28, e29, h⟩ := z_bd h
                    refine g_callV (a := 137) (as := [.int (4 : Int32)]) (rest := []) (c := mX12_no) (k1 := 0) dX12_pour_138 rfl rfl rfl sh_137 rfl rfl (Nat.le_of_ble_eq_true rfl) (Nat.le_of_ble_eq_true rfl) (by decide) ?_
                    refine A_X12_no e29 ?_
                    show z_G none 1 mX12_pour 141 [some (.ref 139), some (.int a1), some (.int a2), some (.int a3), some (.int a4), some (.int a5), none, none, none] [.int (z_tb q28.1)] q28.2 Q
                    cases h
                    exact g_iret dX12_pour_141 rfl nb_tb hq
                  · replace h := z_iff c27 h
                    refine g_iload dX12_pour_96 rfl ?_
                    refine g_if_lt (t := 136) dX12_pour_98 (by decide) (fun c30 => ?_) (fun c30 => ?_)
                    · replace h := z_ift c30 h
                      refine g_aload_n dX12_pour_136 rfl rfl ?_
                      refine g_iconst (v := (4 : Int32)) dX12_pour_137 (by decide) ?_
                      obtain ⟨q31, e32, h⟩ := z_bd h
                      refine g_callV (a := 137) (as := [.int (4 : Int32)]) (rest := []) (c := mX12_no) (k1 := 0) dX12_pour_138 rfl rfl rfl sh_137 rfl rfl (Nat.le_of_ble_eq_true rfl) (Nat.le_of_ble_eq_true rfl) (by decide) ?_
                      refine A_X12_no e32 ?_
                      show z_G none 1 mX12_pour 141 [some (.ref 139), some (.int a1), some (.int a2), some (.int a3), some (.int a4), some (.int a5), none, none, none] [.int (z_tb q31.1)] q31.2 Q
                      cases h
                      exact g_iret dX12_pour_141 rfl nb_tb hq
                    · replace h := z_iff c30 h
                      refine g_iload_n dX12_pour_101 rfl rfl ?_
                      refine g_i2l dX12_pour_102 ?_
                      refine g_iload dX12_pour_103 rfl ?_
                      refine g_i2l dX12_pour_105 ?_
                      refine g_ladd dX12_pour_106 ?_
                      refine g_aload_n dX12_pour_107 rfl rfl ?_
                      refine g_get (a := 137) (v := .ref 141) dX12_pour_108 f_12_17 sh_137 rfl rfl ?_
                      refine g_iload_n dX12_pour_111 rfl rfl ?_
                      by_cases g33 : a1 < 0 ∨ 4 ≤ a1.toNatClampNeg
                      · rw [if_pos g33] at h; cases h
                      replace h := z_iff g33 h
                      refine g_iald (a := 139) dX12_pour_112 sh_139 g33 ?_
                      refine g_i2l dX12_pour_113 ?_
                      refine g_lcmp dX12_pour_114 ?_
                      refine g_if_gt (t := 136) dX12_pour_115 (by decide) (fun c34 => ?_) (fun c34 => ?_)
                      · replace h := z_ift c34 h
                        refine g_aload_n dX12_pour_136 rfl rfl ?_
                        refine g_iconst (v := (4 : Int32)) dX12_pour_137 (by decide) ?_
                        obtain ⟨q35, e36, h⟩ := z_bd h
                        refine g_callV (a := 137) (as := [.int (4 : Int32)]) (rest := []) (c := mX12_no) (k1 := 0) dX12_pour_138 rfl rfl rfl sh_137 rfl rfl (Nat.le_of_ble_eq_true rfl) (Nat.le_of_ble_eq_true rfl) (by decide) ?_
                        refine A_X12_no e36 ?_
                        show z_G none 1 mX12_pour 141 [some (.ref 139), some (.int a1), some (.int a2), some (.int a3), some (.int a4), some (.int a5), none, none, none] [.int (z_tb q35.1)] q35.2 Q
                        cases h
                        exact g_iret dX12_pour_141 rfl nb_tb hq
                      · replace h := z_iff c34 h
                        refine g_iload dX12_pour_118 rfl ?_
                        refine g_i2l dX12_pour_120 ?_
                        refine g_iload dX12_pour_121 rfl ?_
                        refine g_i2l dX12_pour_123 ?_
                        refine g_ladd dX12_pour_124 ?_
                        refine g_aload_n dX12_pour_125 rfl rfl ?_
                        refine g_get (a := 137) (v := .ref 141) dX12_pour_126 f_12_17 sh_137 rfl rfl ?_
                        refine g_iload_n dX12_pour_129 rfl rfl ?_
                        by_cases g37 : a3 < 0 ∨ 4 ≤ a3.toNatClampNeg
                        · rw [if_pos g37] at h; cases h
                        replace h := z_iff g37 h
                        refine g_iald (a := 139) dX12_pour_130 sh_139 g37 ?_
                        refine g_i2l dX12_pour_131 ?_
                        refine g_lcmp dX12_pour_132 ?_
                        refine g_if_le (t := 142) dX12_pour_133 (by decide) (fun c38 => ?_) (fun c38 => ?_)
                        · replace h := z_ift c38 h
                          refine g_iload_n dX12_pour_142 rfl rfl ?_
                          refine g_iload dX12_pour_143 rfl ?_
                          refine g_ic_ge (t := 152) dX12_pour_145 (by decide) (fun c39 => ?_) (fun c39 => ?_)
                          · replace h := z_ift c39 h
                            refine g_iconst (v := (0 : Int32)) dX12_pour_152 (by decide) ?_
                            refine g_istore (ls' := [some (.ref 139), some (.int a1), some (.int a2), some (.int a3), some (.int a4), some (.int a5), some (.int (0 : Int32)), none, none]) dX12_pour_153 (Nat.le_of_ble_eq_true rfl) rfl ?_
                            refine g_iconst (v := (0 : Int32)) dX12_pour_155 (by decide) ?_
                            refine g_istore (ls' := [some (.ref 139), some (.int a1), some (.int a2), some (.int a3), some (.int a4), some (.int a5), some (.int (0 : Int32)), some (.int (0 : Int32)), none]) dX12_pour_156 (Nat.le_of_ble_eq_true rfl) rfl ?_
                            exact g_sub (z_sub_s (z_sub_s (z_sub_s (z_sub_s (z_sub_s (z_sub_s (z_sub_s (z_sub_s (z_sub_n z_sub_nil))))))))) ((AL_X12_pour (w := w) w) _ _ _ _ _ _ _ _ _ _ _ h hq)
                          · replace h := z_iff c39 h
                            refine g_iconst (v := (1 : Int32)) dX12_pour_148 (by decide) ?_
                            refine g_goto (t := 153) dX12_pour_149 (by decide) ?_
                            refine g_istore (ls' := [some (.ref 139), some (.int a1), some (.int a2), some (.int a3), some (.int a4), some (.int a5), some (.int (1 : Int32)), none, none]) dX12_pour_153 (Nat.le_of_ble_eq_true rfl) rfl ?_
                            refine g_iconst (v := (0 : Int32)) dX12_pour_155 (by decide) ?_
                            refine g_istore (ls' := [some (.ref 139), some (.int a1), some (.int a2), some (.int a3), some (.int a4), some (.int a5), some (.int (1 : Int32)), some (.int (0 : Int32)), none]) dX12_pour_156 (Nat.le_of_ble_eq_true rfl) rfl ?_
                            exact g_sub (z_sub_s (z_sub_s (z_sub_s (z_sub_s (z_sub_s (z_sub_s (z_sub_s (z_sub_s (z_sub_n z_sub_nil))))))))) ((AL_X12_pour (w := w) w) _ _ _ _ _ _ _ _ _ _ _ h hq)
                        · replace h := z_iff c38 h
                          refine g_aload_n dX12_pour_136 rfl rfl ?_
                          refine g_iconst (v := (4 : Int32)) dX12_pour_137 (by decide) ?_
                          obtain ⟨q40, e41, h⟩ := z_bd h
                          refine g_callV (a := 137) (as := [.int (4 : Int32)]) (rest := []) (c := mX12_no) (k1 := 0) dX12_pour_138 rfl rfl rfl sh_137 rfl rfl (Nat.le_of_ble_eq_true rfl) (Nat.le_of_ble_eq_true rfl) (by decide) ?_
                          refine A_X12_no e41 ?_
                          show z_G none 1 mX12_pour 141 [some (.ref 139), some (.int a1), some (.int a2), some (.int a3), some (.int a4), some (.int a5), none, none, none] [.int (z_tb q40.1)] q40.2 Q
                          cases h
                          exact g_iret dX12_pour_141 rfl nb_tb hq
                · replace h := z_iff c26 h
                  refine g_aload_n dX12_pour_85 rfl rfl ?_
                  refine g_bipush (v := (6 : Int32)) dX12_pour_86 (by decide) ?_
                  obtain ⟨q42, e43, h⟩ := z_bd h
                  refine g_callV (a := 137) (as := [.int (6 : Int32)]) (rest := []) (c := mX12_no) (k1 := 0) dX12_pour_88 rfl rfl rfl sh_137 rfl rfl (Nat.le_of_ble_eq_true rfl) (Nat.le_of_ble_eq_true rfl) (by decide) ?_
                  refine A_X12_no e43 ?_
                  show z_G none 1 mX12_pour 91 [some (.ref 139), some (.int a1), some (.int a2), some (.int a3), some (.int a4), some (.int a5), none, none, none] [.int (z_tb q42.1)] q42.2 Q
                  cases h
                  exact g_iret dX12_pour_91 rfl nb_tb hq
              · replace h := z_iff c25 h
                refine g_aload_n dX12_pour_73 rfl rfl ?_
                refine g_bipush (v := (11 : Int32)) dX12_pour_74 (by decide) ?_
                obtain ⟨q44, e45, h⟩ := z_bd h
                refine g_callV (a := 137) (as := [.int (11 : Int32)]) (rest := []) (c := mX12_no) (k1 := 0) dX12_pour_76 rfl rfl rfl sh_137 rfl rfl (Nat.le_of_ble_eq_true rfl) (Nat.le_of_ble_eq_true rfl) (by decide) ?_
                refine A_X12_no e45 ?_
                show z_G none 1 mX12_pour 79 [some (.ref 139), some (.int a1), some (.int a2), some (.int a3), some (.int a4), some (.int a5), none, none, none] [.int (z_tb q44.1)] q44.2 Q
                cases h
                exact g_iret dX12_pour_79 rfl nb_tb hq
            · replace h := z_iff c22 h
              refine g_aload_n dX12_pour_52 rfl rfl ?_
              refine g_iconst (v := (3 : Int32)) dX12_pour_53 (by decide) ?_
              obtain ⟨q46, e47, h⟩ := z_bd h
              refine g_callV (a := 137) (as := [.int (3 : Int32)]) (rest := []) (c := mX12_no) (k1 := 0) dX12_pour_54 rfl rfl rfl sh_137 rfl rfl (Nat.le_of_ble_eq_true rfl) (Nat.le_of_ble_eq_true rfl) (by decide) ?_
              refine A_X12_no e47 ?_
              show z_G none 1 mX12_pour 57 [some (.ref 139), some (.int a1), some (.int a2), some (.int a3), some (.int a4), some (.int a5), none, none, none] [.int (z_tb q46.1)] q46.2 Q
              cases h
              exact g_iret dX12_pour_57 rfl nb_tb hq
        · replace h := z_iff c16 h
          refine g_aload_n dX12_pour_28 rfl rfl ?_
          refine g_iconst (v := (1 : Int32)) dX12_pour_29 (by decide) ?_
          obtain ⟨q48, e49, h⟩ := z_bd h
          refine g_callV (a := 137) (as := [.int (1 : Int32)]) (rest := []) (c := mX12_no) (k1 := 0) dX12_pour_30 rfl rfl rfl sh_137 rfl rfl (Nat.le_of_ble_eq_true rfl) (Nat.le_of_ble_eq_true rfl) (by decide) ?_
          refine A_X12_no e49 ?_
          show z_G none 1 mX12_pour 33 [some (.ref 139), some (.int a1), some (.int a2), some (.int a3), some (.int a4), some (.int a5), none, none, none] [.int (z_tb q48.1)] q48.2 Q
          cases h
          exact g_iret dX12_pour_33 rfl nb_tb hq
theorem dX12_isTray_0 : decode cX12_isTray 0 = .ok (.iload_n 1, 1) := by decide +kernel
theorem dX12_isTray_1 : decode cX12_isTray 1 = .ok (.i2l, 1) := by decide +kernel
theorem dX12_isTray_2 : decode cX12_isTray 2 = .ok (.lconst 0, 1) := by decide +kernel
theorem dX12_isTray_3 : decode cX12_isTray 3 = .ok (.ldc2_w 90, 3) := by decide +kernel
theorem dX12_isTray_6 : decode cX12_isTray 6 = .ok (.invokestatic 92, 3) := by decide +kernel
theorem dX12_isTray_9 : decode cX12_isTray 9 = .ok (.ireturn, 1) := by decide +kernel
def F_X12_isTray (w : Nat) (M : z_Mem) (a1 : Int32) : Option (Bool × z_Mem) :=
  (F_X12_isIn w M a1.toInt64 (0 : Int64) (3 : Int64)).bind fun q1 =>
  some (q1.1, q1.2)
set_option maxHeartbeats 4000000 in
theorem A_X12_isTray {w : Nat} {M : z_Mem} {a1 : Int32} {r : Bool} {M' : z_Mem} {Q : Option Value → z_Mem → Prop} (h : F_X12_isTray w M a1 = some (r, M')) (hq : Q (some (.int (z_tb r))) M') : z_Cl 1 mX12_isTray [.ref 139, .int a1] M Q := by
  refine g_in (ls := [some (.ref 139), some (.int a1)]) rfl ?_
  unfold F_X12_isTray at h
  refine g_iload_n dX12_isTray_0 rfl rfl ?_
  refine g_i2l dX12_isTray_1 ?_
  refine g_lconst (v := (0 : Int64)) dX12_isTray_2 (by decide) ?_
  refine g_ldc2_w dX12_isTray_3 rfl ?_
  obtain ⟨q1, e2, h⟩ := z_bd h
  refine g_callS (as := [.long a1.toInt64, .long (0 : Int64), .long (3 : Int64)]) (rest := []) (c := mX12_isIn) (k1 := 0) dX12_isTray_6 rfl rfl rfl rfl rfl (Nat.le_of_ble_eq_true rfl) (Nat.le_of_ble_eq_true rfl) (by decide) ?_
  refine A_X12_isIn e2 ?_
  show z_G none 1 mX12_isTray 9 [some (.ref 139), some (.int a1)] [.int (z_tb q1.1)] q1.2 Q
  cases h
  exact g_iret dX12_isTray_9 rfl nb_tb hq
theorem dX12_has_0 : decode cX12_has 0 = .ok (.iload_n 0, 1) := by decide +kernel
theorem dX12_has_1 : decode cX12_has 1 = .ok (.iload_n 1, 1) := by decide +kernel
theorem dX12_has_2 : decode cX12_has 2 = .ok (.ishr, 1) := by decide +kernel
theorem dX12_has_3 : decode cX12_has 3 = .ok (.iconst 1, 1) := by decide +kernel
theorem dX12_has_4 : decode cX12_has 4 = .ok (.iand, 1) := by decide +kernel
theorem dX12_has_5 : decode cX12_has 5 = .ok (.iconst 1, 1) := by decide +kernel
theorem dX12_has_6 : decode cX12_has 6 = .ok (.if_icmp .ne 7, 3) := by decide +kernel
theorem dX12_has_9 : decode cX12_has 9 = .ok (.iconst 1, 1) := by decide +kernel
theorem dX12_has_10 : decode cX12_has 10 = .ok (.goto 4, 3) := by decide +kernel
theorem dX12_has_13 : decode cX12_has 13 = .ok (.iconst 0, 1) := by decide +kernel
theorem dX12_has_14 : decode cX12_has 14 = .ok (.ireturn, 1) := by decide +kernel
def F_X12_has (w : Nat) (M : z_Mem) (a0 : Int32) (a1 : Int32) : Option (Bool × z_Mem) :=
  if ((a0 >>> (a1 &&& 31)) &&& (1 : Int32)) = (1 : Int32) then
  some (true, M)
  else
  some (false, M)
set_option maxHeartbeats 4000000 in
theorem A_X12_has {w : Nat} {M : z_Mem} {a0 : Int32} {a1 : Int32} {r : Bool} {M' : z_Mem} {Q : Option Value → z_Mem → Prop} (h : F_X12_has w M a0 a1 = some (r, M')) (hq : Q (some (.int (z_tb r))) M') : z_Cl 0 mX12_has [.int a0, .int a1] M Q := by
  refine g_in (ls := [some (.int a0), some (.int a1)]) rfl ?_
  unfold F_X12_has at h
  refine g_iload_n dX12_has_0 rfl rfl ?_
  refine g_iload_n dX12_has_1 rfl rfl ?_
  refine g_ishr dX12_has_2 ?_
  refine g_iconst (v := (1 : Int32)) dX12_has_3 (by decide) ?_
  refine g_iand dX12_has_4 ?_
  refine g_iconst (v := (1 : Int32)) dX12_has_5 (by decide) ?_
  refine g_ic_ne (t := 13) dX12_has_6 (by decide) (fun c1 => ?_) (fun c1 => ?_)
  · replace h := z_iff c1 h
    refine g_iconst (v := (0 : Int32)) dX12_has_13 (by decide) ?_
    cases h
    exact g_iret dX12_has_14 rfl rfl hq
  · replace h := z_ift c1 h
    refine g_iconst (v := (1 : Int32)) dX12_has_9 (by decide) ?_
    refine g_goto (t := 14) dX12_has_10 (by decide) ?_
    cases h
    exact g_iret dX12_has_14 rfl rfl hq
theorem dX12_sizeOf_0 : decode cX12_sizeOf 0 = .ok (.iconst 0, 1) := by decide +kernel
theorem dX12_sizeOf_1 : decode cX12_sizeOf 1 = .ok (.istore_n 1, 1) := by decide +kernel
theorem dX12_sizeOf_2 : decode cX12_sizeOf 2 = .ok (.iconst 0, 1) := by decide +kernel
theorem dX12_sizeOf_3 : decode cX12_sizeOf 3 = .ok (.istore_n 2, 1) := by decide +kernel
theorem dX12_sizeOf_4 : decode cX12_sizeOf 4 = .ok (.iload_n 2, 1) := by decide +kernel
theorem dX12_sizeOf_5 : decode cX12_sizeOf 5 = .ok (.bipush 12, 2) := by decide +kernel
theorem dX12_sizeOf_7 : decode cX12_sizeOf 7 = .ok (.if_icmp .ge 25, 3) := by decide +kernel
theorem dX12_sizeOf_10 : decode cX12_sizeOf 10 = .ok (.iload_n 1, 1) := by decide +kernel
theorem dX12_sizeOf_11 : decode cX12_sizeOf 11 = .ok (.iload_n 0, 1) := by decide +kernel
theorem dX12_sizeOf_12 : decode cX12_sizeOf 12 = .ok (.iload_n 2, 1) := by decide +kernel
theorem dX12_sizeOf_13 : decode cX12_sizeOf 13 = .ok (.invokestatic 96, 3) := by decide +kernel
theorem dX12_sizeOf_16 : decode cX12_sizeOf 16 = .ok (.ifCond .eq 7, 3) := by decide +kernel
theorem dX12_sizeOf_19 : decode cX12_sizeOf 19 = .ok (.iconst 1, 1) := by decide +kernel
theorem dX12_sizeOf_20 : decode cX12_sizeOf 20 = .ok (.goto 4, 3) := by decide +kernel
theorem dX12_sizeOf_23 : decode cX12_sizeOf 23 = .ok (.iconst 0, 1) := by decide +kernel
theorem dX12_sizeOf_24 : decode cX12_sizeOf 24 = .ok (.iadd, 1) := by decide +kernel
theorem dX12_sizeOf_25 : decode cX12_sizeOf 25 = .ok (.istore_n 1, 1) := by decide +kernel
theorem dX12_sizeOf_26 : decode cX12_sizeOf 26 = .ok (.iinc 2 1, 3) := by decide +kernel
theorem dX12_sizeOf_29 : decode cX12_sizeOf 29 = .ok (.goto (-25), 3) := by decide +kernel
theorem dX12_sizeOf_32 : decode cX12_sizeOf 32 = .ok (.iload_n 1, 1) := by decide +kernel
theorem dX12_sizeOf_33 : decode cX12_sizeOf 33 = .ok (.ireturn, 1) := by decide +kernel
def L_X12_sizeOf (w : Nat) : Nat → z_Mem → Int32 → Int32 → Int32 → Option (Int32 × z_Mem)
  | 0, _, _, _, _ => none
  | c + 1, M, x0, x1, x2 =>
    if (12 : Int32) ≤ x2 then
    some (x1, M)
    else
    (F_X12_has w M x0 x2).bind fun q2 =>
    if q2.1 = true then
    L_X12_sizeOf w c q2.2 x0 (x1 + (1 : Int32)) (x2 + (1 : Int32))
    else
    L_X12_sizeOf w c q2.2 x0 (x1 + (0 : Int32)) (x2 + (1 : Int32))
set_option maxHeartbeats 4000000 in
theorem AL_X12_sizeOf {w : Nat} : ∀ (c : Nat), (∀ (M : z_Mem) (x0 : Int32) (x1 : Int32) (x2 : Int32) (r : Int32) (M' : z_Mem) (Q : Option Value → z_Mem → Prop), L_X12_sizeOf w c M x0 x1 x2 = some (r, M') → Q (some (.int r)) M' → z_G none 1 mX12_sizeOf 4 [some (.int x0), some (.int x1), some (.int x2)] [] M Q) := by
  intro c
  induction c with
  | zero => exact (fun M x0 x1 x2 r M' Q h hq => by rw [L_X12_sizeOf] at h; cases h)
  | succ c ih =>
    intro M x0 x1 x2 r M' Q h hq
    rw [L_X12_sizeOf] at h
    refine g_iload_n dX12_sizeOf_4 rfl rfl ?_
    refine g_bipush (v := (12 : Int32)) dX12_sizeOf_5 (by decide) ?_
    refine g_ic_ge (t := 32) dX12_sizeOf_7 (by decide) (fun c1 => ?_) (fun c1 => ?_)
    · replace h := z_ift c1 h
      refine g_iload_n dX12_sizeOf_32 rfl rfl ?_
      cases h
      exact g_iret dX12_sizeOf_33 rfl rfl hq
    · replace h := z_iff c1 h
      refine g_iload_n dX12_sizeOf_10 rfl rfl ?_
      refine g_iload_n dX12_sizeOf_11 rfl rfl ?_
      refine g_iload_n dX12_sizeOf_12 rfl rfl ?_
      obtain ⟨q2, e3, h⟩ := z_bd h
      refine g_callS (as := [.int x0, .int x2]) (rest := [.int x1]) (c := mX12_has) (k1 := 0) dX12_sizeOf_13 rfl rfl rfl rfl rfl (Nat.le_of_ble_eq_true rfl) (Nat.le_of_ble_eq_true rfl) (by decide) ?_
      refine A_X12_has e3 ?_
      show z_G none 1 mX12_sizeOf 16 [some (.int x0), some (.int x1), some (.int x2)] [.int (z_tb q2.1), .int x1] q2.2 Q
      refine g_if_eq (t := 23) dX12_sizeOf_16 (by decide) (fun c4 => ?_) (fun c4 => ?_)
      · replace h := z_iff (z_tb0.mp c4) h
        refine g_iconst (v := (0 : Int32)) dX12_sizeOf_23 (by decide) ?_
        refine g_iadd dX12_sizeOf_24 ?_
        refine g_istore_n (ls' := [some (.int x0), some (.int (x1 + (0 : Int32))), some (.int x2)]) dX12_sizeOf_25 rfl (Nat.le_of_ble_eq_true rfl) rfl ?_
        refine g_iinc (v := x2 + (1 : Int32)) (ls' := [some (.int x0), some (.int (x1 + (0 : Int32))), some (.int (x2 + (1 : Int32)))]) dX12_sizeOf_26 rfl rfl rfl ?_
        refine g_goto (t := 4) dX12_sizeOf_29 (by decide) ?_
        exact g_sub (z_sub_s (z_sub_s (z_sub_s z_sub_nil))) (ih _ _ _ _ _ _ _ h hq)
      · replace h := z_ift (z_tbn.mp c4) h
        refine g_iconst (v := (1 : Int32)) dX12_sizeOf_19 (by decide) ?_
        refine g_goto (t := 24) dX12_sizeOf_20 (by decide) ?_
        refine g_iadd dX12_sizeOf_24 ?_
        refine g_istore_n (ls' := [some (.int x0), some (.int (x1 + (1 : Int32))), some (.int x2)]) dX12_sizeOf_25 rfl (Nat.le_of_ble_eq_true rfl) rfl ?_
        refine g_iinc (v := x2 + (1 : Int32)) (ls' := [some (.int x0), some (.int (x1 + (1 : Int32))), some (.int (x2 + (1 : Int32)))]) dX12_sizeOf_26 rfl rfl rfl ?_
        refine g_goto (t := 4) dX12_sizeOf_29 (by decide) ?_
        exact g_sub (z_sub_s (z_sub_s (z_sub_s z_sub_nil))) (ih _ _ _ _ _ _ _ h hq)
def F_X12_sizeOf (w : Nat) (M : z_Mem) (a0 : Int32) : Option (Int32 × z_Mem) :=
  L_X12_sizeOf w w M a0 (0 : Int32) (0 : Int32)
set_option maxHeartbeats 4000000 in
theorem A_X12_sizeOf {w : Nat} {M : z_Mem} {a0 : Int32} {r : Int32} {M' : z_Mem} {Q : Option Value → z_Mem → Prop} (h : F_X12_sizeOf w M a0 = some (r, M')) (hq : Q (some (.int r)) M') : z_Cl 1 mX12_sizeOf [.int a0] M Q := by
  refine g_in (ls := [some (.int a0), none, none]) rfl ?_
  unfold F_X12_sizeOf at h
  refine g_iconst (v := (0 : Int32)) dX12_sizeOf_0 (by decide) ?_
  refine g_istore_n (ls' := [some (.int a0), some (.int (0 : Int32)), none]) dX12_sizeOf_1 rfl (Nat.le_of_ble_eq_true rfl) rfl ?_
  refine g_iconst (v := (0 : Int32)) dX12_sizeOf_2 (by decide) ?_
  refine g_istore_n (ls' := [some (.int a0), some (.int (0 : Int32)), some (.int (0 : Int32))]) dX12_sizeOf_3 rfl (Nat.le_of_ble_eq_true rfl) rfl ?_
  exact g_sub (z_sub_s (z_sub_s (z_sub_s z_sub_nil))) ((AL_X12_sizeOf (w := w) w) _ _ _ _ _ _ _ h hq)
theorem dX12_look2_0 : decode cX12_look2 0 = .ok (.iload_n 1, 1) := by decide +kernel
theorem dX12_look2_1 : decode cX12_look2 1 = .ok (.aload_n 0, 1) := by decide +kernel
theorem dX12_look2_2 : decode cX12_look2 2 = .ok (.getfield 100, 3) := by decide +kernel
theorem dX12_look2_5 : decode cX12_look2 5 = .ok (.if_icmp .ge 16, 3) := by decide +kernel
theorem dX12_look2_8 : decode cX12_look2 8 = .ok (.aload_n 0, 1) := by decide +kernel
theorem dX12_look2_9 : decode cX12_look2 9 = .ok (.getfield 24, 3) := by decide +kernel
theorem dX12_look2_12 : decode cX12_look2 12 = .ok (.iload_n 1, 1) := by decide +kernel
theorem dX12_look2_13 : decode cX12_look2 13 = .ok (.baload, 1) := by decide +kernel
theorem dX12_look2_14 : decode cX12_look2 14 = .ok (.sipush 255, 3) := by decide +kernel
theorem dX12_look2_17 : decode cX12_look2 17 = .ok (.iand, 1) := by decide +kernel
theorem dX12_look2_18 : decode cX12_look2 18 = .ok (.goto 4, 3) := by decide +kernel
theorem dX12_look2_21 : decode cX12_look2 21 = .ok (.iconst 0, 1) := by decide +kernel
theorem dX12_look2_22 : decode cX12_look2 22 = .ok (.ireturn, 1) := by decide +kernel
def F_X12_look2 (w : Nat) (M : z_Mem) (a1 : Int32) : Option (Int32 × z_Mem) :=
  if (M.1 137 9) ≤ a1 then
  some ((0 : Int32), M)
  else
  if a1 < 0 ∨ 900 ≤ a1.toNatClampNeg then none else
  some ((M.1 141 a1.toNatClampNeg) &&& (255 : Int32), M)
set_option maxHeartbeats 4000000 in
theorem A_X12_look2 {w : Nat} {M : z_Mem} {a1 : Int32} {r : Int32} {M' : z_Mem} {Q : Option Value → z_Mem → Prop} (h : F_X12_look2 w M a1 = some (r, M')) (hq : Q (some (.int r)) M') : z_Cl 0 mX12_look2 [.ref 139, .int a1] M Q := by
  refine g_in (ls := [some (.ref 139), some (.int a1)]) rfl ?_
  unfold F_X12_look2 at h
  refine g_iload_n dX12_look2_0 rfl rfl ?_
  refine g_aload_n dX12_look2_1 rfl rfl ?_
  refine g_get (a := 137) (v := .int (M.1 137 9)) dX12_look2_2 f_12_100 sh_137 rfl rfl ?_
  refine g_ic_ge (t := 21) dX12_look2_5 (by decide) (fun c1 => ?_) (fun c1 => ?_)
  · replace h := z_ift c1 h
    refine g_iconst (v := (0 : Int32)) dX12_look2_21 (by decide) ?_
    cases h
    exact g_iret dX12_look2_22 rfl rfl hq
  · replace h := z_iff c1 h
    refine g_aload_n dX12_look2_8 rfl rfl ?_
    refine g_get (a := 137) (v := .ref 143) dX12_look2_9 f_12_24 sh_137 rfl rfl ?_
    refine g_iload_n dX12_look2_12 rfl rfl ?_
    by_cases g2 : a1 < 0 ∨ 900 ≤ a1.toNatClampNeg
    · rw [if_pos g2] at h; cases h
    replace h := z_iff g2 h
    refine g_bald (a := 141) dX12_look2_13 sh_141 g2 ?_
    refine g_sipush (v := (255 : Int32)) dX12_look2_14 (by decide) ?_
    refine g_iand dX12_look2_17 ?_
    refine g_goto (t := 22) dX12_look2_18 (by decide) ?_
    cases h
    exact g_iret dX12_look2_22 rfl rfl hq
theorem dX12_isLetter_0 : decode cX12_isLetter 0 = .ok (.iload_n 0, 1) := by decide +kernel
theorem dX12_isLetter_1 : decode cX12_isLetter 1 = .ok (.bipush 97, 2) := by decide +kernel
theorem dX12_isLetter_3 : decode cX12_isLetter 3 = .ok (.if_icmp .lt 13, 3) := by decide +kernel
theorem dX12_isLetter_6 : decode cX12_isLetter 6 = .ok (.iload_n 0, 1) := by decide +kernel
theorem dX12_isLetter_7 : decode cX12_isLetter 7 = .ok (.bipush 122, 2) := by decide +kernel
theorem dX12_isLetter_9 : decode cX12_isLetter 9 = .ok (.if_icmp .gt 7, 3) := by decide +kernel
theorem dX12_isLetter_12 : decode cX12_isLetter 12 = .ok (.iconst 1, 1) := by decide +kernel
theorem dX12_isLetter_13 : decode cX12_isLetter 13 = .ok (.goto 4, 3) := by decide +kernel
theorem dX12_isLetter_16 : decode cX12_isLetter 16 = .ok (.iconst 0, 1) := by decide +kernel
theorem dX12_isLetter_17 : decode cX12_isLetter 17 = .ok (.ireturn, 1) := by decide +kernel
def F_X12_isLetter (w : Nat) (M : z_Mem) (a0 : Int32) : Option (Bool × z_Mem) :=
  if a0 < (97 : Int32) then
  some (false, M)
  else
  if (122 : Int32) < a0 then
  some (false, M)
  else
  some (true, M)
set_option maxHeartbeats 4000000 in
theorem A_X12_isLetter {w : Nat} {M : z_Mem} {a0 : Int32} {r : Bool} {M' : z_Mem} {Q : Option Value → z_Mem → Prop} (h : F_X12_isLetter w M a0 = some (r, M')) (hq : Q (some (.int (z_tb r))) M') : z_Cl 0 mX12_isLetter [.int a0] M Q := by
  refine g_in (ls := [some (.int a0)]) rfl ?_
  unfold F_X12_isLetter at h
  refine g_iload_n dX12_isLetter_0 rfl rfl ?_
  refine g_bipush (v := (97 : Int32)) dX12_isLetter_1 (by decide) ?_
  refine g_ic_lt (t := 16) dX12_isLetter_3 (by decide) (fun c1 => ?_) (fun c1 => ?_)
  · replace h := z_ift c1 h
    refine g_iconst (v := (0 : Int32)) dX12_isLetter_16 (by decide) ?_
    cases h
    exact g_iret dX12_isLetter_17 rfl rfl hq
  · replace h := z_iff c1 h
    refine g_iload_n dX12_isLetter_6 rfl rfl ?_
    refine g_bipush (v := (122 : Int32)) dX12_isLetter_7 (by decide) ?_
    refine g_ic_gt (t := 16) dX12_isLetter_9 (by decide) (fun c2 => ?_) (fun c2 => ?_)
    · replace h := z_ift c2 h
      refine g_iconst (v := (0 : Int32)) dX12_isLetter_16 (by decide) ?_
      cases h
      exact g_iret dX12_isLetter_17 rfl rfl hq
    · replace h := z_iff c2 h
      refine g_iconst (v := (1 : Int32)) dX12_isLetter_12 (by decide) ?_
      refine g_goto (t := 17) dX12_isLetter_13 (by decide) ?_
      cases h
      exact g_iret dX12_isLetter_17 rfl rfl hq
theorem dX12_isDigit_0 : decode cX12_isDigit 0 = .ok (.iload_n 0, 1) := by decide +kernel
theorem dX12_isDigit_1 : decode cX12_isDigit 1 = .ok (.bipush 48, 2) := by decide +kernel
theorem dX12_isDigit_3 : decode cX12_isDigit 3 = .ok (.if_icmp .lt 13, 3) := by decide +kernel
theorem dX12_isDigit_6 : decode cX12_isDigit 6 = .ok (.iload_n 0, 1) := by decide +kernel
theorem dX12_isDigit_7 : decode cX12_isDigit 7 = .ok (.bipush 57, 2) := by decide +kernel
theorem dX12_isDigit_9 : decode cX12_isDigit 9 = .ok (.if_icmp .gt 7, 3) := by decide +kernel
theorem dX12_isDigit_12 : decode cX12_isDigit 12 = .ok (.iconst 1, 1) := by decide +kernel
theorem dX12_isDigit_13 : decode cX12_isDigit 13 = .ok (.goto 4, 3) := by decide +kernel
theorem dX12_isDigit_16 : decode cX12_isDigit 16 = .ok (.iconst 0, 1) := by decide +kernel
theorem dX12_isDigit_17 : decode cX12_isDigit 17 = .ok (.ireturn, 1) := by decide +kernel
def F_X12_isDigit (w : Nat) (M : z_Mem) (a0 : Int32) : Option (Bool × z_Mem) :=
  if a0 < (48 : Int32) then
  some (false, M)
  else
  if (57 : Int32) < a0 then
  some (false, M)
  else
  some (true, M)
set_option maxHeartbeats 4000000 in
theorem A_X12_isDigit {w : Nat} {M : z_Mem} {a0 : Int32} {r : Bool} {M' : z_Mem} {Q : Option Value → z_Mem → Prop} (h : F_X12_isDigit w M a0 = some (r, M')) (hq : Q (some (.int (z_tb r))) M') : z_Cl 0 mX12_isDigit [.int a0] M Q := by
  refine g_in (ls := [some (.int a0)]) rfl ?_
  unfold F_X12_isDigit at h
  refine g_iload_n dX12_isDigit_0 rfl rfl ?_
  refine g_bipush (v := (48 : Int32)) dX12_isDigit_1 (by decide) ?_
  refine g_ic_lt (t := 16) dX12_isDigit_3 (by decide) (fun c1 => ?_) (fun c1 => ?_)
  · replace h := z_ift c1 h
    refine g_iconst (v := (0 : Int32)) dX12_isDigit_16 (by decide) ?_
    cases h
    exact g_iret dX12_isDigit_17 rfl rfl hq
  · replace h := z_iff c1 h
    refine g_iload_n dX12_isDigit_6 rfl rfl ?_
    refine g_bipush (v := (57 : Int32)) dX12_isDigit_7 (by decide) ?_
    refine g_ic_gt (t := 16) dX12_isDigit_9 (by decide) (fun c2 => ?_) (fun c2 => ?_)
    · replace h := z_ift c2 h
      refine g_iconst (v := (0 : Int32)) dX12_isDigit_16 (by decide) ?_
      cases h
      exact g_iret dX12_isDigit_17 rfl rfl hq
    · replace h := z_iff c2 h
      refine g_iconst (v := (1 : Int32)) dX12_isDigit_12 (by decide) ?_
      refine g_goto (t := 17) dX12_isDigit_13 (by decide) ?_
      cases h
      exact g_iret dX12_isDigit_17 rfl rfl hq
theorem dX12_isSignByte_0 : decode cX12_isSignByte 0 = .ok (.iload_n 1, 1) := by decide +kernel
theorem dX12_isSignByte_1 : decode cX12_isSignByte 1 = .ok (.bipush 59, 2) := by decide +kernel
theorem dX12_isSignByte_3 : decode cX12_isSignByte 3 = .ok (.if_icmp .eq 21, 3) := by decide +kernel
theorem dX12_isSignByte_6 : decode cX12_isSignByte 6 = .ok (.iload_n 1, 1) := by decide +kernel
theorem dX12_isSignByte_7 : decode cX12_isSignByte 7 = .ok (.bipush 60, 2) := by decide +kernel
theorem dX12_isSignByte_9 : decode cX12_isSignByte 9 = .ok (.if_icmp .eq 15, 3) := by decide +kernel
theorem dX12_isSignByte_12 : decode cX12_isSignByte 12 = .ok (.iload_n 1, 1) := by decide +kernel
theorem dX12_isSignByte_13 : decode cX12_isSignByte 13 = .ok (.bipush 62, 2) := by decide +kernel
theorem dX12_isSignByte_15 : decode cX12_isSignByte 15 = .ok (.if_icmp .eq 9, 3) := by decide +kernel
theorem dX12_isSignByte_18 : decode cX12_isSignByte 18 = .ok (.iload_n 1, 1) := by decide +kernel
theorem dX12_isSignByte_19 : decode cX12_isSignByte 19 = .ok (.bipush 61, 2) := by decide +kernel
theorem dX12_isSignByte_21 : decode cX12_isSignByte 21 = .ok (.if_icmp .ne 7, 3) := by decide +kernel
theorem dX12_isSignByte_24 : decode cX12_isSignByte 24 = .ok (.iconst 1, 1) := by decide +kernel
theorem dX12_isSignByte_25 : decode cX12_isSignByte 25 = .ok (.goto 4, 3) := by decide +kernel
theorem dX12_isSignByte_28 : decode cX12_isSignByte 28 = .ok (.iconst 0, 1) := by decide +kernel
theorem dX12_isSignByte_29 : decode cX12_isSignByte 29 = .ok (.ireturn, 1) := by decide +kernel
def F_X12_isSignByte (w : Nat) (M : z_Mem) (a1 : Int32) : Option (Bool × z_Mem) :=
  if a1 = (59 : Int32) then
  some (true, M)
  else
  if a1 = (60 : Int32) then
  some (true, M)
  else
  if a1 = (62 : Int32) then
  some (true, M)
  else
  if a1 = (61 : Int32) then
  some (true, M)
  else
  some (false, M)
set_option maxHeartbeats 4000000 in
theorem A_X12_isSignByte {w : Nat} {M : z_Mem} {a1 : Int32} {r : Bool} {M' : z_Mem} {Q : Option Value → z_Mem → Prop} (h : F_X12_isSignByte w M a1 = some (r, M')) (hq : Q (some (.int (z_tb r))) M') : z_Cl 0 mX12_isSignByte [.ref 139, .int a1] M Q := by
  refine g_in (ls := [some (.ref 139), some (.int a1)]) rfl ?_
  unfold F_X12_isSignByte at h
  refine g_iload_n dX12_isSignByte_0 rfl rfl ?_
  refine g_bipush (v := (59 : Int32)) dX12_isSignByte_1 (by decide) ?_
  refine g_ic_eq (t := 24) dX12_isSignByte_3 (by decide) (fun c1 => ?_) (fun c1 => ?_)
  · replace h := z_ift c1 h
    refine g_iconst (v := (1 : Int32)) dX12_isSignByte_24 (by decide) ?_
    refine g_goto (t := 29) dX12_isSignByte_25 (by decide) ?_
    cases h
    exact g_iret dX12_isSignByte_29 rfl rfl hq
  · replace h := z_iff c1 h
    refine g_iload_n dX12_isSignByte_6 rfl rfl ?_
    refine g_bipush (v := (60 : Int32)) dX12_isSignByte_7 (by decide) ?_
    refine g_ic_eq (t := 24) dX12_isSignByte_9 (by decide) (fun c2 => ?_) (fun c2 => ?_)
    · replace h := z_ift c2 h
      refine g_iconst (v := (1 : Int32)) dX12_isSignByte_24 (by decide) ?_
      refine g_goto (t := 29) dX12_isSignByte_25 (by decide) ?_
      cases h
      exact g_iret dX12_isSignByte_29 rfl rfl hq
    · replace h := z_iff c2 h
      refine g_iload_n dX12_isSignByte_12 rfl rfl ?_
      refine g_bipush (v := (62 : Int32)) dX12_isSignByte_13 (by decide) ?_
      refine g_ic_eq (t := 24) dX12_isSignByte_15 (by decide) (fun c3 => ?_) (fun c3 => ?_)
      · replace h := z_ift c3 h
        refine g_iconst (v := (1 : Int32)) dX12_isSignByte_24 (by decide) ?_
        refine g_goto (t := 29) dX12_isSignByte_25 (by decide) ?_
        cases h
        exact g_iret dX12_isSignByte_29 rfl rfl hq
      · replace h := z_iff c3 h
        refine g_iload_n dX12_isSignByte_18 rfl rfl ?_
        refine g_bipush (v := (61 : Int32)) dX12_isSignByte_19 (by decide) ?_
        refine g_ic_ne (t := 28) dX12_isSignByte_21 (by decide) (fun c4 => ?_) (fun c4 => ?_)
        · replace h := z_iff c4 h
          refine g_iconst (v := (0 : Int32)) dX12_isSignByte_28 (by decide) ?_
          cases h
          exact g_iret dX12_isSignByte_29 rfl rfl hq
        · replace h := z_ift c4 h
          refine g_iconst (v := (1 : Int32)) dX12_isSignByte_24 (by decide) ?_
          refine g_goto (t := 29) dX12_isSignByte_25 (by decide) ?_
          cases h
          exact g_iret dX12_isSignByte_29 rfl rfl hq
theorem dX12_advance_0 : decode cX12_advance 0 = .ok (.aload_n 0, 1) := by decide +kernel
theorem dX12_advance_1 : decode cX12_advance 1 = .ok (.aload_n 0, 1) := by decide +kernel
theorem dX12_advance_2 : decode cX12_advance 2 = .ok (.getfield 103, 3) := by decide +kernel
theorem dX12_advance_5 : decode cX12_advance 5 = .ok (.putfield 106, 3) := by decide +kernel
theorem dX12_advance_8 : decode cX12_advance 8 = .ok (.aload_n 0, 1) := by decide +kernel
theorem dX12_advance_9 : decode cX12_advance 9 = .ok (.getfield 106, 3) := by decide +kernel
theorem dX12_advance_12 : decode cX12_advance 12 = .ok (.aload_n 0, 1) := by decide +kernel
theorem dX12_advance_13 : decode cX12_advance 13 = .ok (.getfield 100, 3) := by decide +kernel
theorem dX12_advance_16 : decode cX12_advance 16 = .ok (.if_icmp .ge 42, 3) := by decide +kernel
theorem dX12_advance_19 : decode cX12_advance 19 = .ok (.aload_n 0, 1) := by decide +kernel
theorem dX12_advance_20 : decode cX12_advance 20 = .ok (.aload_n 0, 1) := by decide +kernel
theorem dX12_advance_21 : decode cX12_advance 21 = .ok (.getfield 106, 3) := by decide +kernel
theorem dX12_advance_24 : decode cX12_advance 24 = .ok (.invokevirtual 109, 3) := by decide +kernel
theorem dX12_advance_27 : decode cX12_advance 27 = .ok (.bipush 10, 2) := by decide +kernel
theorem dX12_advance_29 : decode cX12_advance 29 = .ok (.if_icmp .eq 16, 3) := by decide +kernel
theorem dX12_advance_32 : decode cX12_advance 32 = .ok (.aload_n 0, 1) := by decide +kernel
theorem dX12_advance_33 : decode cX12_advance 33 = .ok (.aload_n 0, 1) := by decide +kernel
theorem dX12_advance_34 : decode cX12_advance 34 = .ok (.getfield 106, 3) := by decide +kernel
theorem dX12_advance_37 : decode cX12_advance 37 = .ok (.invokevirtual 109, 3) := by decide +kernel
theorem dX12_advance_40 : decode cX12_advance 40 = .ok (.bipush 32, 2) := by decide +kernel
theorem dX12_advance_42 : decode cX12_advance 42 = .ok (.if_icmp .ne 16, 3) := by decide +kernel
theorem dX12_advance_45 : decode cX12_advance 45 = .ok (.aload_n 0, 1) := by decide +kernel
theorem dX12_advance_46 : decode cX12_advance 46 = .ok (.dup, 1) := by decide +kernel
theorem dX12_advance_47 : decode cX12_advance 47 = .ok (.getfield 106, 3) := by decide +kernel
theorem dX12_advance_50 : decode cX12_advance 50 = .ok (.iconst 1, 1) := by decide +kernel
theorem dX12_advance_51 : decode cX12_advance 51 = .ok (.iadd, 1) := by decide +kernel
theorem dX12_advance_52 : decode cX12_advance 52 = .ok (.putfield 106, 3) := by decide +kernel
theorem dX12_advance_55 : decode cX12_advance 55 = .ok (.goto (-47), 3) := by decide +kernel
theorem dX12_advance_58 : decode cX12_advance 58 = .ok (.aload_n 0, 1) := by decide +kernel
theorem dX12_advance_59 : decode cX12_advance 59 = .ok (.aload_n 0, 1) := by decide +kernel
theorem dX12_advance_60 : decode cX12_advance 60 = .ok (.getfield 106, 3) := by decide +kernel
theorem dX12_advance_63 : decode cX12_advance 63 = .ok (.putfield 103, 3) := by decide +kernel
theorem dX12_advance_66 : decode cX12_advance 66 = .ok (.aload_n 0, 1) := by decide +kernel
theorem dX12_advance_67 : decode cX12_advance 67 = .ok (.getfield 106, 3) := by decide +kernel
theorem dX12_advance_70 : decode cX12_advance 70 = .ok (.aload_n 0, 1) := by decide +kernel
theorem dX12_advance_71 : decode cX12_advance 71 = .ok (.getfield 100, 3) := by decide +kernel
theorem dX12_advance_74 : decode cX12_advance 74 = .ok (.if_icmp .lt 9, 3) := by decide +kernel
theorem dX12_advance_77 : decode cX12_advance 77 = .ok (.aload_n 0, 1) := by decide +kernel
theorem dX12_advance_78 : decode cX12_advance 78 = .ok (.iconst 0, 1) := by decide +kernel
theorem dX12_advance_79 : decode cX12_advance 79 = .ok (.putfield 112, 3) := by decide +kernel
theorem dX12_advance_82 : decode cX12_advance 82 = .ok (.return_, 1) := by decide +kernel
theorem dX12_advance_83 : decode cX12_advance 83 = .ok (.aload_n 0, 1) := by decide +kernel
theorem dX12_advance_84 : decode cX12_advance 84 = .ok (.aload_n 0, 1) := by decide +kernel
theorem dX12_advance_85 : decode cX12_advance 85 = .ok (.getfield 106, 3) := by decide +kernel
theorem dX12_advance_88 : decode cX12_advance 88 = .ok (.invokevirtual 109, 3) := by decide +kernel
theorem dX12_advance_91 : decode cX12_advance 91 = .ok (.istore_n 1, 1) := by decide +kernel
theorem dX12_advance_92 : decode cX12_advance 92 = .ok (.iload_n 1, 1) := by decide +kernel
theorem dX12_advance_93 : decode cX12_advance 93 = .ok (.invokestatic 115, 3) := by decide +kernel
theorem dX12_advance_96 : decode cX12_advance 96 = .ok (.ifCond .eq 102, 3) := by decide +kernel
theorem dX12_advance_99 : decode cX12_advance 99 = .ok (.aload_n 0, 1) := by decide +kernel
theorem dX12_advance_100 : decode cX12_advance 100 = .ok (.iconst 1, 1) := by decide +kernel
theorem dX12_advance_101 : decode cX12_advance 101 = .ok (.putfield 112, 3) := by decide +kernel
theorem dX12_advance_104 : decode cX12_advance 104 = .ok (.aload_n 0, 1) := by decide +kernel
theorem dX12_advance_105 : decode cX12_advance 105 = .ok (.lconst 0, 1) := by decide +kernel
theorem dX12_advance_106 : decode cX12_advance 106 = .ok (.putfield 118, 3) := by decide +kernel
theorem dX12_advance_109 : decode cX12_advance 109 = .ok (.aload_n 0, 1) := by decide +kernel
theorem dX12_advance_110 : decode cX12_advance 110 = .ok (.aload_n 0, 1) := by decide +kernel
theorem dX12_advance_111 : decode cX12_advance 111 = .ok (.getfield 103, 3) := by decide +kernel
theorem dX12_advance_114 : decode cX12_advance 114 = .ok (.invokevirtual 109, 3) := by decide +kernel
theorem dX12_advance_117 : decode cX12_advance 117 = .ok (.invokestatic 115, 3) := by decide +kernel
theorem dX12_advance_120 : decode cX12_advance 120 = .ok (.ifCond .eq 62, 3) := by decide +kernel
theorem dX12_advance_123 : decode cX12_advance 123 = .ok (.aload_n 0, 1) := by decide +kernel
theorem dX12_advance_124 : decode cX12_advance 124 = .ok (.aload_n 0, 1) := by decide +kernel
theorem dX12_advance_125 : decode cX12_advance 125 = .ok (.getfield 103, 3) := by decide +kernel
theorem dX12_advance_128 : decode cX12_advance 128 = .ok (.aload_n 0, 1) := by decide +kernel
theorem dX12_advance_129 : decode cX12_advance 129 = .ok (.getfield 106, 3) := by decide +kernel
theorem dX12_advance_132 : decode cX12_advance 132 = .ok (.isub, 1) := by decide +kernel
theorem dX12_advance_133 : decode cX12_advance 133 = .ok (.bipush 8, 2) := by decide +kernel
theorem dX12_advance_135 : decode cX12_advance 135 = .ok (.if_icmp .ge 28, 3) := by decide +kernel
theorem dX12_advance_138 : decode cX12_advance 138 = .ok (.aload_n 0, 1) := by decide +kernel
theorem dX12_advance_139 : decode cX12_advance 139 = .ok (.getfield 118, 3) := by decide +kernel
theorem dX12_advance_142 : decode cX12_advance 142 = .ok (.ldc2_w 121, 3) := by decide +kernel
theorem dX12_advance_145 : decode cX12_advance 145 = .ok (.lmul, 1) := by decide +kernel
theorem dX12_advance_146 : decode cX12_advance 146 = .ok (.aload_n 0, 1) := by decide +kernel
theorem dX12_advance_147 : decode cX12_advance 147 = .ok (.aload_n 0, 1) := by decide +kernel
theorem dX12_advance_148 : decode cX12_advance 148 = .ok (.getfield 103, 3) := by decide +kernel
theorem dX12_advance_151 : decode cX12_advance 151 = .ok (.invokevirtual 109, 3) := by decide +kernel
theorem dX12_advance_154 : decode cX12_advance 154 = .ok (.i2l, 1) := by decide +kernel
theorem dX12_advance_155 : decode cX12_advance 155 = .ok (.ladd, 1) := by decide +kernel
theorem dX12_advance_156 : decode cX12_advance 156 = .ok (.ldc2_w 123, 3) := by decide +kernel
theorem dX12_advance_159 : decode cX12_advance 159 = .ok (.lsub, 1) := by decide +kernel
theorem dX12_advance_160 : decode cX12_advance 160 = .ok (.goto 6, 3) := by decide +kernel
theorem dX12_advance_163 : decode cX12_advance 163 = .ok (.ldc2_w 88, 3) := by decide +kernel
theorem dX12_advance_166 : decode cX12_advance 166 = .ok (.putfield 118, 3) := by decide +kernel
theorem dX12_advance_169 : decode cX12_advance 169 = .ok (.aload_n 0, 1) := by decide +kernel
theorem dX12_advance_170 : decode cX12_advance 170 = .ok (.dup, 1) := by decide +kernel
theorem dX12_advance_171 : decode cX12_advance 171 = .ok (.getfield 103, 3) := by decide +kernel
theorem dX12_advance_174 : decode cX12_advance 174 = .ok (.iconst 1, 1) := by decide +kernel
theorem dX12_advance_175 : decode cX12_advance 175 = .ok (.iadd, 1) := by decide +kernel
theorem dX12_advance_176 : decode cX12_advance 176 = .ok (.putfield 103, 3) := by decide +kernel
theorem dX12_advance_179 : decode cX12_advance 179 = .ok (.goto (-70), 3) := by decide +kernel
theorem dX12_advance_182 : decode cX12_advance 182 = .ok (.aload_n 0, 1) := by decide +kernel
theorem dX12_advance_183 : decode cX12_advance 183 = .ok (.aload_n 0, 1) := by decide +kernel
theorem dX12_advance_184 : decode cX12_advance 184 = .ok (.getfield 103, 3) := by decide +kernel
theorem dX12_advance_187 : decode cX12_advance 187 = .ok (.aload_n 0, 1) := by decide +kernel
theorem dX12_advance_188 : decode cX12_advance 188 = .ok (.getfield 106, 3) := by decide +kernel
theorem dX12_advance_191 : decode cX12_advance 191 = .ok (.isub, 1) := by decide +kernel
theorem dX12_advance_192 : decode cX12_advance 192 = .ok (.putfield 125, 3) := by decide +kernel
theorem dX12_advance_195 : decode cX12_advance 195 = .ok (.goto 135, 3) := by decide +kernel
theorem dX12_advance_198 : decode cX12_advance 198 = .ok (.iload_n 1, 1) := by decide +kernel
theorem dX12_advance_199 : decode cX12_advance 199 = .ok (.invokestatic 128, 3) := by decide +kernel
theorem dX12_advance_202 : decode cX12_advance 202 = .ok (.ifCond .eq 96, 3) := by decide +kernel
theorem dX12_advance_205 : decode cX12_advance 205 = .ok (.aload_n 0, 1) := by decide +kernel
theorem dX12_advance_206 : decode cX12_advance 206 = .ok (.iconst 0, 1) := by decide +kernel
theorem dX12_advance_207 : decode cX12_advance 207 = .ok (.putfield 131, 3) := by decide +kernel
theorem dX12_advance_210 : decode cX12_advance 210 = .ok (.aload_n 0, 1) := by decide +kernel
theorem dX12_advance_211 : decode cX12_advance 211 = .ok (.aload_n 0, 1) := by decide +kernel
theorem dX12_advance_212 : decode cX12_advance 212 = .ok (.getfield 103, 3) := by decide +kernel
theorem dX12_advance_215 : decode cX12_advance 215 = .ok (.invokevirtual 109, 3) := by decide +kernel
theorem dX12_advance_218 : decode cX12_advance 218 = .ok (.invokestatic 128, 3) := by decide +kernel
theorem dX12_advance_221 : decode cX12_advance 221 = .ok (.ifCond .eq 52, 3) := by decide +kernel
theorem dX12_advance_224 : decode cX12_advance 224 = .ok (.aload_n 0, 1) := by decide +kernel
theorem dX12_advance_225 : decode cX12_advance 225 = .ok (.getfield 103, 3) := by decide +kernel
theorem dX12_advance_228 : decode cX12_advance 228 = .ok (.aload_n 0, 1) := by decide +kernel
theorem dX12_advance_229 : decode cX12_advance 229 = .ok (.getfield 106, 3) := by decide +kernel
theorem dX12_advance_232 : decode cX12_advance 232 = .ok (.isub, 1) := by decide +kernel
theorem dX12_advance_233 : decode cX12_advance 233 = .ok (.iconst 4, 1) := by decide +kernel
theorem dX12_advance_234 : decode cX12_advance 234 = .ok (.if_icmp .ge 26, 3) := by decide +kernel
theorem dX12_advance_237 : decode cX12_advance 237 = .ok (.aload_n 0, 1) := by decide +kernel
theorem dX12_advance_238 : decode cX12_advance 238 = .ok (.bipush 10, 2) := by decide +kernel
theorem dX12_advance_240 : decode cX12_advance 240 = .ok (.aload_n 0, 1) := by decide +kernel
theorem dX12_advance_241 : decode cX12_advance 241 = .ok (.getfield 131, 3) := by decide +kernel
theorem dX12_advance_244 : decode cX12_advance 244 = .ok (.imul, 1) := by decide +kernel
theorem dX12_advance_245 : decode cX12_advance 245 = .ok (.aload_n 0, 1) := by decide +kernel
theorem dX12_advance_246 : decode cX12_advance 246 = .ok (.aload_n 0, 1) := by decide +kernel
theorem dX12_advance_247 : decode cX12_advance 247 = .ok (.getfield 103, 3) := by decide +kernel
theorem dX12_advance_250 : decode cX12_advance 250 = .ok (.invokevirtual 109, 3) := by decide +kernel
theorem dX12_advance_253 : decode cX12_advance 253 = .ok (.iadd, 1) := by decide +kernel
theorem dX12_advance_254 : decode cX12_advance 254 = .ok (.bipush 48, 2) := by decide +kernel
theorem dX12_advance_256 : decode cX12_advance 256 = .ok (.isub, 1) := by decide +kernel
theorem dX12_advance_257 : decode cX12_advance 257 = .ok (.putfield 131, 3) := by decide +kernel
theorem dX12_advance_260 : decode cX12_advance 260 = .ok (.aload_n 0, 1) := by decide +kernel
theorem dX12_advance_261 : decode cX12_advance 261 = .ok (.dup, 1) := by decide +kernel
theorem dX12_advance_262 : decode cX12_advance 262 = .ok (.getfield 103, 3) := by decide +kernel
theorem dX12_advance_265 : decode cX12_advance 265 = .ok (.iconst 1, 1) := by decide +kernel
theorem dX12_advance_266 : decode cX12_advance 266 = .ok (.iadd, 1) := by decide +kernel
theorem dX12_advance_267 : decode cX12_advance 267 = .ok (.putfield 103, 3) := by decide +kernel
theorem dX12_advance_270 : decode cX12_advance 270 = .ok (.goto (-60), 3) := by decide +kernel
theorem dX12_advance_273 : decode cX12_advance 273 = .ok (.aload_n 0, 1) := by decide +kernel
theorem dX12_advance_274 : decode cX12_advance 274 = .ok (.aload_n 0, 1) := by decide +kernel
theorem dX12_advance_275 : decode cX12_advance 275 = .ok (.getfield 103, 3) := by decide +kernel
theorem dX12_advance_278 : decode cX12_advance 278 = .ok (.aload_n 0, 1) := by decide +kernel
theorem dX12_advance_279 : decode cX12_advance 279 = .ok (.getfield 106, 3) := by decide +kernel
theorem dX12_advance_282 : decode cX12_advance 282 = .ok (.isub, 1) := by decide +kernel
theorem dX12_advance_283 : decode cX12_advance 283 = .ok (.iconst 4, 1) := by decide +kernel
theorem dX12_advance_284 : decode cX12_advance 284 = .ok (.if_icmp .le 7, 3) := by decide +kernel
theorem dX12_advance_287 : decode cX12_advance 287 = .ok (.iconst 4, 1) := by decide +kernel
theorem dX12_advance_288 : decode cX12_advance 288 = .ok (.goto 4, 3) := by decide +kernel
theorem dX12_advance_291 : decode cX12_advance 291 = .ok (.iconst 2, 1) := by decide +kernel
theorem dX12_advance_292 : decode cX12_advance 292 = .ok (.putfield 112, 3) := by decide +kernel
theorem dX12_advance_295 : decode cX12_advance 295 = .ok (.goto 35, 3) := by decide +kernel
theorem dX12_advance_298 : decode cX12_advance 298 = .ok (.aload_n 0, 1) := by decide +kernel
theorem dX12_advance_299 : decode cX12_advance 299 = .ok (.aload_n 0, 1) := by decide +kernel
theorem dX12_advance_300 : decode cX12_advance 300 = .ok (.getfield 106, 3) := by decide +kernel
theorem dX12_advance_303 : decode cX12_advance 303 = .ok (.iconst 1, 1) := by decide +kernel
theorem dX12_advance_304 : decode cX12_advance 304 = .ok (.iadd, 1) := by decide +kernel
theorem dX12_advance_305 : decode cX12_advance 305 = .ok (.putfield 103, 3) := by decide +kernel
theorem dX12_advance_308 : decode cX12_advance 308 = .ok (.aload_n 0, 1) := by decide +kernel
theorem dX12_advance_309 : decode cX12_advance 309 = .ok (.iload_n 1, 1) := by decide +kernel
theorem dX12_advance_310 : decode cX12_advance 310 = .ok (.putfield 131, 3) := by decide +kernel
theorem dX12_advance_313 : decode cX12_advance 313 = .ok (.aload_n 0, 1) := by decide +kernel
theorem dX12_advance_314 : decode cX12_advance 314 = .ok (.aload_n 0, 1) := by decide +kernel
theorem dX12_advance_315 : decode cX12_advance 315 = .ok (.iload_n 1, 1) := by decide +kernel
theorem dX12_advance_316 : decode cX12_advance 316 = .ok (.invokevirtual 134, 3) := by decide +kernel
theorem dX12_advance_319 : decode cX12_advance 319 = .ok (.ifCond .eq 7, 3) := by decide +kernel
theorem dX12_advance_322 : decode cX12_advance 322 = .ok (.iconst 3, 1) := by decide +kernel
theorem dX12_advance_323 : decode cX12_advance 323 = .ok (.goto 4, 3) := by decide +kernel
theorem dX12_advance_326 : decode cX12_advance 326 = .ok (.iconst 4, 1) := by decide +kernel
theorem dX12_advance_327 : decode cX12_advance 327 = .ok (.putfield 112, 3) := by decide +kernel
theorem dX12_advance_330 : decode cX12_advance 330 = .ok (.return_, 1) := by decide +kernel
def L_X12_advance (w : Nat) : Nat → Nat → z_Mem → Option (Unit × z_Mem)
  | 0, _, _ => none
  | c + 1, hd, M =>
    if hd = 0 then
      if (M.1 137 9) ≤ (M.1 137 15) then
      if (M.1 137 15) < (M.1 137 9) then
      (F_X12_look2 w (z_wI M 137 16 (M.1 137 15)) (M.1 137 15)).bind fun q3 =>
      (F_X12_isLetter w q3.2 q3.1).bind fun q5 =>
      if q5.1 = true then
      L_X12_advance w c 1 (z_wL (z_wI q5.2 137 14 (1 : Int32)) 137 19 (0 : Int64))
      else
      (F_X12_isDigit w q5.2 q3.1).bind fun q8 =>
      if q8.1 = true then
      L_X12_advance w c 2 (z_wI q8.2 137 17 (0 : Int32))
      else
      (F_X12_isSignByte w (z_wI (z_wI q8.2 137 16 ((q8.2.1 137 15) + (1 : Int32))) 137 17 q3.1) q3.1).bind fun q11 =>
      if q11.1 = true then
      some ((), (z_wI q11.2 137 14 (3 : Int32)))
      else
      some ((), (z_wI q11.2 137 14 (4 : Int32)))
      else
      some ((), (z_wI (z_wI M 137 16 (M.1 137 15)) 137 14 (0 : Int32)))
      else
      (F_X12_look2 w M (M.1 137 15)).bind fun q14 =>
      if q14.1 = (10 : Int32) then
      L_X12_advance w c 0 (z_wI q14.2 137 15 ((q14.2.1 137 15) + (1 : Int32)))
      else
      (F_X12_look2 w q14.2 (q14.2.1 137 15)).bind fun q17 =>
      if q17.1 = (32 : Int32) then
      L_X12_advance w c 0 (z_wI q17.2 137 15 ((q17.2.1 137 15) + (1 : Int32)))
      else
      if (q17.2.1 137 15) < (q17.2.1 137 9) then
      (F_X12_look2 w (z_wI q17.2 137 16 (q17.2.1 137 15)) (q17.2.1 137 15)).bind fun q21 =>
      (F_X12_isLetter w q21.2 q21.1).bind fun q23 =>
      if q23.1 = true then
      L_X12_advance w c 1 (z_wL (z_wI q23.2 137 14 (1 : Int32)) 137 19 (0 : Int64))
      else
      (F_X12_isDigit w q23.2 q21.1).bind fun q26 =>
      if q26.1 = true then
      L_X12_advance w c 2 (z_wI q26.2 137 17 (0 : Int32))
      else
      (F_X12_isSignByte w (z_wI (z_wI q26.2 137 16 ((q26.2.1 137 15) + (1 : Int32))) 137 17 q21.1) q21.1).bind fun q29 =>
      if q29.1 = true then
      some ((), (z_wI q29.2 137 14 (3 : Int32)))
      else
      some ((), (z_wI q29.2 137 14 (4 : Int32)))
      else
      some ((), (z_wI (z_wI q17.2 137 16 (q17.2.1 137 15)) 137 14 (0 : Int32)))
    else
    if hd = 1 then
      (F_X12_look2 w M (M.1 137 16)).bind fun q32 =>
      (F_X12_isLetter w q32.2 q32.1).bind fun q34 =>
      if q34.1 = true then
      if (8 : Int32) ≤ ((q34.2.1 137 16) - (q34.2.1 137 15)) then
      L_X12_advance w c 1 (z_wI (z_wL q34.2 137 19 (-1 : Int64)) 137 16 ((q34.2.1 137 16) + (1 : Int32)))
      else
      (F_X12_look2 w q34.2 (q34.2.1 137 16)).bind fun q38 =>
      L_X12_advance w c 1 (z_wI (z_wL q38.2 137 19 ((((q34.2.2 137 19) * (32 : Int64)) + q38.1.toInt64) - (96 : Int64))) 137 16 ((q38.2.1 137 16) + (1 : Int32)))
      else
      some ((), (z_wI q34.2 137 18 ((q34.2.1 137 16) - (q34.2.1 137 15))))
    else
    if hd = 2 then
      (F_X12_look2 w M (M.1 137 16)).bind fun q40 =>
      (F_X12_isDigit w q40.2 q40.1).bind fun q42 =>
      if q42.1 = true then
      if (4 : Int32) ≤ ((q42.2.1 137 16) - (q42.2.1 137 15)) then
      L_X12_advance w c 2 (z_wI q42.2 137 16 ((q42.2.1 137 16) + (1 : Int32)))
      else
      (F_X12_look2 w q42.2 (q42.2.1 137 16)).bind fun q47 =>
      L_X12_advance w c 2 (z_wI (z_wI q47.2 137 17 ((((10 : Int32) * (q42.2.1 137 17)) + q47.1) - (48 : Int32))) 137 16 ((q47.2.1 137 16) + (1 : Int32)))
      else
      if ((q42.2.1 137 16) - (q42.2.1 137 15)) ≤ (4 : Int32) then
      some ((), (z_wI q42.2 137 14 (2 : Int32)))
      else
      some ((), (z_wI q42.2 137 14 (4 : Int32)))
    else
    none
set_option maxHeartbeats 4000000 in
theorem AL_X12_advance {w : Nat} : ∀ (c : Nat), (∀ (M : z_Mem) (r : Unit) (M' : z_Mem) (Q : Option Value → z_Mem → Prop), L_X12_advance w c 0 M = some (r, M') → Q none M' → z_G none 1 mX12_advance 8 [some (.ref 139), none] [] M Q) ∧ (∀ (M : z_Mem) (r : Unit) (M' : z_Mem) (Q : Option Value → z_Mem → Prop), L_X12_advance w c 1 M = some (r, M') → Q none M' → z_G none 1 mX12_advance 109 [some (.ref 139), none] [] M Q) ∧ (∀ (M : z_Mem) (r : Unit) (M' : z_Mem) (Q : Option Value → z_Mem → Prop), L_X12_advance w c 2 M = some (r, M') → Q none M' → z_G none 1 mX12_advance 210 [some (.ref 139), none] [] M Q) := by
  intro c
  induction c with
  | zero => exact ⟨(fun M r M' Q h hq => by rw [L_X12_advance] at h; cases h), (fun M r M' Q h hq => by rw [L_X12_advance] at h; cases h), (fun M r M' Q h hq => by rw [L_X12_advance] at h; cases h)⟩
  | succ c ih =>
    refine ⟨fun M r M' Q h hq => ?_, fun M r M' Q h hq => ?_, fun M r M' Q h hq => ?_⟩
    · rw [L_X12_advance] at h
      replace h := z_ift rfl h
      refine g_aload_n dX12_advance_8 rfl rfl ?_
      refine g_get (a := 137) (v := .int (M.1 137 15)) dX12_advance_9 f_12_106 sh_137 rfl rfl ?_
      refine g_aload_n dX12_advance_12 rfl rfl ?_
      refine g_get (a := 137) (v := .int (M.1 137 9)) dX12_advance_13 f_12_100 sh_137 rfl rfl ?_
      refine g_ic_ge (t := 58) dX12_advance_16 (by decide) (fun c1 => ?_) (fun c1 => ?_)
      · replace h := z_ift c1 h
        refine g_aload_n dX12_advance_58 rfl rfl ?_
        refine g_aload_n dX12_advance_59 rfl rfl ?_
        refine g_get (a := 137) (v := .int (M.1 137 15)) dX12_advance_60 f_12_106 sh_137 rfl rfl ?_
        refine g_putI (a := 137) dX12_advance_63 f_12_103 sh_137 rfl rfl rfl ?_
        refine g_aload_n dX12_advance_66 rfl rfl ?_
        refine g_get (a := 137) (v := .int (M.1 137 15)) dX12_advance_67 f_12_106 sh_137 rfl (by simp [z_fv, z_wI, z_wL, z_wLs, upd, vp_updL]) ?_
        refine g_aload_n dX12_advance_70 rfl rfl ?_
        refine g_get (a := 137) (v := .int (M.1 137 9)) dX12_advance_71 f_12_100 sh_137 rfl (by simp [z_fv, z_wI, z_wL, z_wLs, upd, vp_updL]) ?_
        refine g_ic_lt (t := 83) dX12_advance_74 (by decide) (fun c2 => ?_) (fun c2 => ?_)
        · replace h := z_ift c2 h
          refine g_aload_n dX12_advance_83 rfl rfl ?_
          refine g_aload_n dX12_advance_84 rfl rfl ?_
          refine g_get (a := 137) (v := .int (M.1 137 15)) dX12_advance_85 f_12_106 sh_137 rfl (by simp [z_fv, z_wI, z_wL, z_wLs, upd, vp_updL]) ?_
          obtain ⟨q3, e4, h⟩ := z_bd h
          refine g_callV (a := 137) (as := [.int (M.1 137 15)]) (rest := []) (c := mX12_look2) (k1 := 0) dX12_advance_88 rfl rfl rfl sh_137 rfl rfl (Nat.le_of_ble_eq_true rfl) (Nat.le_of_ble_eq_true rfl) (by decide) ?_
          refine A_X12_look2 e4 ?_
          show z_G none 1 mX12_advance 91 [some (.ref 139), none] [.int q3.1] q3.2 Q
          refine g_istore_n (ls' := [some (.ref 139), some (.int q3.1)]) dX12_advance_91 rfl (Nat.le_of_ble_eq_true rfl) rfl ?_
          refine g_iload_n dX12_advance_92 rfl rfl ?_
          obtain ⟨q5, e6, h⟩ := z_bd h
          refine g_callS (as := [.int q3.1]) (rest := []) (c := mX12_isLetter) (k1 := 0) dX12_advance_93 rfl rfl rfl rfl rfl (Nat.le_of_ble_eq_true rfl) (Nat.le_of_ble_eq_true rfl) (by decide) ?_
          refine A_X12_isLetter e6 ?_
          show z_G none 1 mX12_advance 96 [some (.ref 139), some (.int q3.1)] [.int (z_tb q5.1)] q5.2 Q
          refine g_if_eq (t := 198) dX12_advance_96 (by decide) (fun c7 => ?_) (fun c7 => ?_)
          · replace h := z_iff (z_tb0.mp c7) h
            refine g_iload_n dX12_advance_198 rfl rfl ?_
            obtain ⟨q8, e9, h⟩ := z_bd h
            refine g_callS (as := [.int q3.1]) (rest := []) (c := mX12_isDigit) (k1 := 0) dX12_advance_199 rfl rfl rfl rfl rfl (Nat.le_of_ble_eq_true rfl) (Nat.le_of_ble_eq_true rfl) (by decide) ?_
            refine A_X12_isDigit e9 ?_
            show z_G none 1 mX12_advance 202 [some (.ref 139), some (.int q3.1)] [.int (z_tb q8.1)] q8.2 Q
            refine g_if_eq (t := 298) dX12_advance_202 (by decide) (fun c10 => ?_) (fun c10 => ?_)
            · replace h := z_iff (z_tb0.mp c10) h
              refine g_aload_n dX12_advance_298 rfl rfl ?_
              refine g_aload_n dX12_advance_299 rfl rfl ?_
              refine g_get (a := 137) (v := .int (q8.2.1 137 15)) dX12_advance_300 f_12_106 sh_137 rfl rfl ?_
              refine g_iconst (v := (1 : Int32)) dX12_advance_303 (by decide) ?_
              refine g_iadd dX12_advance_304 ?_
              refine g_putI (a := 137) dX12_advance_305 f_12_103 sh_137 rfl rfl rfl ?_
              refine g_aload_n dX12_advance_308 rfl rfl ?_
              refine g_iload_n dX12_advance_309 rfl rfl ?_
              refine g_putI (a := 137) dX12_advance_310 f_12_131 sh_137 rfl rfl rfl ?_
              refine g_aload_n dX12_advance_313 rfl rfl ?_
              refine g_aload_n dX12_advance_314 rfl rfl ?_
              refine g_iload_n dX12_advance_315 rfl rfl ?_
              obtain ⟨q11, e12, h⟩ := z_bd h
              refine g_callV (a := 137) (as := [.int q3.1]) (rest := [.ref 139]) (c := mX12_isSignByte) (k1 := 0) dX12_advance_316 rfl rfl rfl sh_137 rfl rfl (Nat.le_of_ble_eq_true rfl) (Nat.le_of_ble_eq_true rfl) (by decide) ?_
              refine A_X12_isSignByte e12 ?_
              show z_G none 1 mX12_advance 319 [some (.ref 139), some (.int q3.1)] [.int (z_tb q11.1), .ref 139] q11.2 Q
              refine g_if_eq (t := 326) dX12_advance_319 (by decide) (fun c13 => ?_) (fun c13 => ?_)
              · replace h := z_iff (z_tb0.mp c13) h
                refine g_iconst (v := (4 : Int32)) dX12_advance_326 (by decide) ?_
                refine g_putI (a := 137) dX12_advance_327 f_12_112 sh_137 rfl rfl rfl ?_
                cases h
                exact g_vret dX12_advance_330 rfl hq
              · replace h := z_ift (z_tbn.mp c13) h
                refine g_iconst (v := (3 : Int32)) dX12_advance_322 (by decide) ?_
                refine g_goto (t := 327) dX12_advance_323 (by decide) ?_
                refine g_putI (a := 137) dX12_advance_327 f_12_112 sh_137 rfl rfl rfl ?_
                cases h
                exact g_vret dX12_advance_330 rfl hq
            · replace h := z_ift (z_tbn.mp c10) h
              refine g_aload_n dX12_advance_205 rfl rfl ?_
              refine g_iconst (v := (0 : Int32)) dX12_advance_206 (by decide) ?_
              refine g_putI (a := 137) dX12_advance_207 f_12_131 sh_137 rfl rfl rfl ?_
              exact g_sub (z_sub_s (z_sub_n z_sub_nil)) (ih.2.2 _ _ _ _ h hq)
          · replace h := z_ift (z_tbn.mp c7) h
            refine g_aload_n dX12_advance_99 rfl rfl ?_
            refine g_iconst (v := (1 : Int32)) dX12_advance_100 (by decide) ?_
            refine g_putI (a := 137) dX12_advance_101 f_12_112 sh_137 rfl rfl rfl ?_
            refine g_aload_n dX12_advance_104 rfl rfl ?_
            refine g_lconst (v := (0 : Int64)) dX12_advance_105 (by decide) ?_
            refine g_putL (a := 137) dX12_advance_106 f_12_118 sh_137 rfl rfl rfl ?_
            exact g_sub (z_sub_s (z_sub_n z_sub_nil)) (ih.2.1 _ _ _ _ h hq)
        · replace h := z_iff c2 h
          refine g_aload_n dX12_advance_77 rfl rfl ?_
          refine g_iconst (v := (0 : Int32)) dX12_advance_78 (by decide) ?_
          refine g_putI (a := 137) dX12_advance_79 f_12_112 sh_137 rfl rfl rfl ?_
          cases h
          exact g_vret dX12_advance_82 rfl hq
      · replace h := z_iff c1 h
        refine g_aload_n dX12_advance_19 rfl rfl ?_
        refine g_aload_n dX12_advance_20 rfl rfl ?_
        refine g_get (a := 137) (v := .int (M.1 137 15)) dX12_advance_21 f_12_106 sh_137 rfl rfl ?_
        obtain ⟨q14, e15, h⟩ := z_bd h
        refine g_callV (a := 137) (as := [.int (M.1 137 15)]) (rest := []) (c := mX12_look2) (k1 := 0) dX12_advance_24 rfl rfl rfl sh_137 rfl rfl (Nat.le_of_ble_eq_true rfl) (Nat.le_of_ble_eq_true rfl) (by decide) ?_
        refine A_X12_look2 e15 ?_
        show z_G none 1 mX12_advance 27 [some (.ref 139), none] [.int q14.1] q14.2 Q
        refine g_bipush (v := (10 : Int32)) dX12_advance_27 (by decide) ?_
        refine g_ic_eq (t := 45) dX12_advance_29 (by decide) (fun c16 => ?_) (fun c16 => ?_)
        · replace h := z_ift c16 h
          refine g_aload_n dX12_advance_45 rfl rfl ?_
          refine g_dup dX12_advance_46 rfl ?_
          refine g_get (a := 137) (v := .int (q14.2.1 137 15)) dX12_advance_47 f_12_106 sh_137 rfl rfl ?_
          refine g_iconst (v := (1 : Int32)) dX12_advance_50 (by decide) ?_
          refine g_iadd dX12_advance_51 ?_
          refine g_putI (a := 137) dX12_advance_52 f_12_106 sh_137 rfl rfl rfl ?_
          refine g_goto (t := 8) dX12_advance_55 (by decide) ?_
          exact g_sub (z_sub_s (z_sub_n z_sub_nil)) (ih.1 _ _ _ _ h hq)
        · replace h := z_iff c16 h
          refine g_aload_n dX12_advance_32 rfl rfl ?_
          refine g_aload_n dX12_advance_33 rfl rfl ?_
          refine g_get (a := 137) (v := .int (q14.2.1 137 15)) dX12_advance_34 f_12_106 sh_137 rfl rfl ?_
          obtain ⟨q17, e18, h⟩ := z_bd h
          refine g_callV (a := 137) (as := [.int (q14.2.1 137 15)]) (rest := []) (c := mX12_look2) (k1 := 0) dX12_advance_37 rfl rfl rfl sh_137 rfl rfl (Nat.le_of_ble_eq_true rfl) (Nat.le_of_ble_eq_true rfl) (by decide) ?_
          refine A_X12_look2 e18 ?_
          show z_G none 1 mX12_advance 40 [some (.ref 139), none] [.int q17.1] q17.2 Q
          refine g_bipush (v := (32 : Int32)) dX12_advance_40 (by decide) ?_
          refine g_ic_ne (t := 58) dX12_advance_42 (by decide) (fun c19 => ?_) (fun c19 => ?_)
          · replace h := z_iff c19 h
            refine g_aload_n dX12_advance_58 rfl rfl ?_
            refine g_aload_n dX12_advance_59 rfl rfl ?_
            refine g_get (a := 137) (v := .int (q17.2.1 137 15)) dX12_advance_60 f_12_106 sh_137 rfl rfl ?_
            refine g_putI (a := 137) dX12_advance_63 f_12_103 sh_137 rfl rfl rfl ?_
            refine g_aload_n dX12_advance_66 rfl rfl ?_
            refine g_get (a := 137) (v := .int (q17.2.1 137 15)) dX12_advance_67 f_12_106 sh_137 rfl (by simp [z_fv, z_wI, z_wL, z_wLs, upd, vp_updL]) ?_
            refine g_aload_n dX12_advance_70 rfl rfl ?_
            refine g_get (a := 137) (v := .int (q17.2.1 137 9)) dX12_advance_71 f_12_100 sh_137 rfl (by simp [z_fv, z_wI, z_wL, z_wLs, upd, vp_updL]) ?_
            refine g_ic_lt (t := 83) dX12_advance_74 (by decide) (fun c20 => ?_) (fun c20 => ?_)
            · replace h := z_ift c20 h
              refine g_aload_n dX12_advance_83 rfl rfl ?_
              refine g_aload_n dX12_advance_84 rfl rfl ?_
              refine g_get (a := 137) (v := .int (q17.2.1 137 15)) dX12_advance_85 f_12_106 sh_137 rfl (by simp [z_fv, z_wI, z_wL, z_wLs, upd, vp_updL]) ?_
              obtain ⟨q21, e22, h⟩ := z_bd h
              refine g_callV (a := 137) (as := [.int (q17.2.1 137 15)]) (rest := []) (c := mX12_look2) (k1 := 0) dX12_advance_88 rfl rfl rfl sh_137 rfl rfl (Nat.le_of_ble_eq_true rfl) (Nat.le_of_ble_eq_true rfl) (by decide) ?_
              refine A_X12_look2 e22 ?_
              show z_G none 1 mX12_advance 91 [some (.ref 139), none] [.int q21.1] q21.2 Q
              refine g_istore_n (ls' := [some (.ref 139), some (.int q21.1)]) dX12_advance_91 rfl (Nat.le_of_ble_eq_true rfl) rfl ?_
              refine g_iload_n dX12_advance_92 rfl rfl ?_
              obtain ⟨q23, e24, h⟩ := z_bd h
              refine g_callS (as := [.int q21.1]) (rest := []) (c := mX12_isLetter) (k1 := 0) dX12_advance_93 rfl rfl rfl rfl rfl (Nat.le_of_ble_eq_true rfl) (Nat.le_of_ble_eq_true rfl) (by decide) ?_
              refine A_X12_isLetter e24 ?_
              show z_G none 1 mX12_advance 96 [some (.ref 139), some (.int q21.1)] [.int (z_tb q23.1)] q23.2 Q
              refine g_if_eq (t := 198) dX12_advance_96 (by decide) (fun c25 => ?_) (fun c25 => ?_)
              · replace h := z_iff (z_tb0.mp c25) h
                refine g_iload_n dX12_advance_198 rfl rfl ?_
                obtain ⟨q26, e27, h⟩ := z_bd h
                refine g_callS (as := [.int q21.1]) (rest := []) (c := mX12_isDigit) (k1 := 0) dX12_advance_199 rfl rfl rfl rfl rfl (Nat.le_of_ble_eq_true rfl) (Nat.le_of_ble_eq_true rfl) (by decide) ?_
                refine A_X12_isDigit e27 ?_
                show z_G none 1 mX12_advance 202 [some (.ref 139), some (.int q21.1)] [.int (z_tb q26.1)] q26.2 Q
                refine g_if_eq (t := 298) dX12_advance_202 (by decide) (fun c28 => ?_) (fun c28 => ?_)
                · replace h := z_iff (z_tb0.mp c28) h
                  refine g_aload_n dX12_advance_298 rfl rfl ?_
                  refine g_aload_n dX12_advance_299 rfl rfl ?_
                  refine g_get (a := 137) (v := .int (q26.2.1 137 15)) dX12_advance_300 f_12_106 sh_137 rfl rfl ?_
                  refine g_iconst (v := (1 : Int32)) dX12_advance_303 (by decide) ?_
                  refine g_iadd dX12_advance_304 ?_
                  refine g_putI (a := 137) dX12_advance_305 f_12_103 sh_137 rfl rfl rfl ?_
                  refine g_aload_n dX12_advance_308 rfl rfl ?_
                  refine g_iload_n dX12_advance_309 rfl rfl ?_
                  refine g_putI (a := 137) dX12_advance_310 f_12_131 sh_137 rfl rfl rfl ?_
                  refine g_aload_n dX12_advance_313 rfl rfl ?_
                  refine g_aload_n dX12_advance_314 rfl rfl ?_
                  refine g_iload_n dX12_advance_315 rfl rfl ?_
                  obtain ⟨q29, e30, h⟩ := z_bd h
                  refine g_callV (a := 137) (as := [.int q21.1]) (rest := [.ref 139]) (c := mX12_isSignByte) (k1 := 0) dX12_advance_316 rfl rfl rfl sh_137 rfl rfl (Nat.le_of_ble_eq_true rfl) (Nat.le_of_ble_eq_true rfl) (by decide) ?_
                  refine A_X12_isSignByte e30 ?_
                  show z_G none 1 mX12_advance 319 [some (.ref 139), some (.int q21.1)] [.int (z_tb q29.1), .ref 139] q29.2 Q
                  refine g_if_eq (t := 326) dX12_advance_319 (by decide) (fun c31 => ?_) (fun c31 => ?_)
                  · replace h := z_iff (z_tb0.mp c31) h
                    refine g_iconst (v := (4 : Int32)) dX12_advance_326 (by decide) ?_
                    refine g_putI (a := 137) dX12_advance_327 f_12_112 sh_137 rfl rfl rfl ?_
                    cases h
                    exact g_vret dX12_advance_330 rfl hq
                  · replace h := z_ift (z_tbn.mp c31) h
                    refine g_iconst (v := (3 : Int32)) dX12_advance_322 (by decide) ?_
                    refine g_goto (t := 327) dX12_advance_323 (by decide) ?_
                    refine g_putI (a := 137) dX12_advance_327 f_12_112 sh_137 rfl rfl rfl ?_
                    cases h
                    exact g_vret dX12_advance_330 rfl hq
                · replace h := z_ift (z_tbn.mp c28) h
                  refine g_aload_n dX12_advance_205 rfl rfl ?_
                  refine g_iconst (v := (0 : Int32)) dX12_advance_206 (by decide) ?_
                  refine g_putI (a := 137) dX12_advance_207 f_12_131 sh_137 rfl rfl rfl ?_
                  exact g_sub (z_sub_s (z_sub_n z_sub_nil)) (ih.2.2 _ _ _ _ h hq)
              · replace h := z_ift (z_tbn.mp c25) h
                refine g_aload_n dX12_advance_99 rfl rfl ?_
                refine g_iconst (v := (1 : Int32)) dX12_advance_100 (by decide) ?_
                refine g_putI (a := 137) dX12_advance_101 f_12_112 sh_137 rfl rfl rfl ?_
                refine g_aload_n dX12_advance_104 rfl rfl ?_
                refine g_lconst (v := (0 : Int64)) dX12_advance_105 (by decide) ?_
                refine g_putL (a := 137) dX12_advance_106 f_12_118 sh_137 rfl rfl rfl ?_
                exact g_sub (z_sub_s (z_sub_n z_sub_nil)) (ih.2.1 _ _ _ _ h hq)
            · replace h := z_iff c20 h
              refine g_aload_n dX12_advance_77 rfl rfl ?_
              refine g_iconst (v := (0 : Int32)) dX12_advance_78 (by decide) ?_
              refine g_putI (a := 137) dX12_advance_79 f_12_112 sh_137 rfl rfl rfl ?_
              cases h
              exact g_vret dX12_advance_82 rfl hq
          · replace h := z_ift c19 h
            refine g_aload_n dX12_advance_45 rfl rfl ?_
            refine g_dup dX12_advance_46 rfl ?_
            refine g_get (a := 137) (v := .int (q17.2.1 137 15)) dX12_advance_47 f_12_106 sh_137 rfl rfl ?_
            refine g_iconst (v := (1 : Int32)) dX12_advance_50 (by decide) ?_
            refine g_iadd dX12_advance_51 ?_
            refine g_putI (a := 137) dX12_advance_52 f_12_106 sh_137 rfl rfl rfl ?_
            refine g_goto (t := 8) dX12_advance_55 (by decide) ?_
            exact g_sub (z_sub_s (z_sub_n z_sub_nil)) (ih.1 _ _ _ _ h hq)
    · rw [L_X12_advance] at h
      replace h := z_iff (by decide) h
      replace h := z_ift rfl h
      refine g_aload_n dX12_advance_109 rfl rfl ?_
      refine g_aload_n dX12_advance_110 rfl rfl ?_
      refine g_get (a := 137) (v := .int (M.1 137 16)) dX12_advance_111 f_12_103 sh_137 rfl rfl ?_
      obtain ⟨q32, e33, h⟩ := z_bd h
      refine g_callV (a := 137) (as := [.int (M.1 137 16)]) (rest := []) (c := mX12_look2) (k1 := 0) dX12_advance_114 rfl rfl rfl sh_137 rfl rfl (Nat.le_of_ble_eq_true rfl) (Nat.le_of_ble_eq_true rfl) (by decide) ?_
      refine A_X12_look2 e33 ?_
      show z_G none 1 mX12_advance 117 [some (.ref 139), none] [.int q32.1] q32.2 Q
      obtain ⟨q34, e35, h⟩ := z_bd h
      refine g_callS (as := [.int q32.1]) (rest := []) (c := mX12_isLetter) (k1 := 0) dX12_advance_117 rfl rfl rfl rfl rfl (Nat.le_of_ble_eq_true rfl) (Nat.le_of_ble_eq_true rfl) (by decide) ?_
      refine A_X12_isLetter e35 ?_
      show z_G none 1 mX12_advance 120 [some (.ref 139), none] [.int (z_tb q34.1)] q34.2 Q
      refine g_if_eq (t := 182) dX12_advance_120 (by decide) (fun c36 => ?_) (fun c36 => ?_)
      · replace h := z_iff (z_tb0.mp c36) h
        refine g_aload_n dX12_advance_182 rfl rfl ?_
        refine g_aload_n dX12_advance_183 rfl rfl ?_
        refine g_get (a := 137) (v := .int (q34.2.1 137 16)) dX12_advance_184 f_12_103 sh_137 rfl rfl ?_
        refine g_aload_n dX12_advance_187 rfl rfl ?_
        refine g_get (a := 137) (v := .int (q34.2.1 137 15)) dX12_advance_188 f_12_106 sh_137 rfl rfl ?_
        refine g_isub dX12_advance_191 ?_
        refine g_putI (a := 137) dX12_advance_192 f_12_125 sh_137 rfl rfl rfl ?_
        refine g_goto (t := 330) dX12_advance_195 (by decide) ?_
        cases h
        exact g_vret dX12_advance_330 rfl hq
      · replace h := z_ift (z_tbn.mp c36) h
        refine g_aload_n dX12_advance_123 rfl rfl ?_
        refine g_aload_n dX12_advance_124 rfl rfl ?_
        refine g_get (a := 137) (v := .int (q34.2.1 137 16)) dX12_advance_125 f_12_103 sh_137 rfl rfl ?_
        refine g_aload_n dX12_advance_128 rfl rfl ?_
        refine g_get (a := 137) (v := .int (q34.2.1 137 15)) dX12_advance_129 f_12_106 sh_137 rfl rfl ?_
        refine g_isub dX12_advance_132 ?_
        refine g_bipush (v := (8 : Int32)) dX12_advance_133 (by decide) ?_
        refine g_ic_ge (t := 163) dX12_advance_135 (by decide) (fun c37 => ?_) (fun c37 => ?_)
        · replace h := z_ift c37 h
          refine g_ldc2_w dX12_advance_163 rfl ?_
          refine g_putL (a := 137) dX12_advance_166 f_12_118 sh_137 rfl rfl rfl ?_
          refine g_aload_n dX12_advance_169 rfl rfl ?_
          refine g_dup dX12_advance_170 rfl ?_
          refine g_get (a := 137) (v := .int (q34.2.1 137 16)) dX12_advance_171 f_12_103 sh_137 rfl (by simp [z_fv, z_wI, z_wL, z_wLs, upd, vp_updL]) ?_
          refine g_iconst (v := (1 : Int32)) dX12_advance_174 (by decide) ?_
          refine g_iadd dX12_advance_175 ?_
          refine g_putI (a := 137) dX12_advance_176 f_12_103 sh_137 rfl rfl rfl ?_
          refine g_goto (t := 109) dX12_advance_179 (by decide) ?_
          exact g_sub (z_sub_s (z_sub_n z_sub_nil)) (ih.2.1 _ _ _ _ h hq)
        · replace h := z_iff c37 h
          refine g_aload_n dX12_advance_138 rfl rfl ?_
          refine g_get (a := 137) (v := .long (q34.2.2 137 19)) dX12_advance_139 f_12_118 sh_137 rfl rfl ?_
          refine g_ldc2_w dX12_advance_142 rfl ?_
          refine g_lmul dX12_advance_145 ?_
          refine g_aload_n dX12_advance_146 rfl rfl ?_
          refine g_aload_n dX12_advance_147 rfl rfl ?_
          refine g_get (a := 137) (v := .int (q34.2.1 137 16)) dX12_advance_148 f_12_103 sh_137 rfl rfl ?_
          obtain ⟨q38, e39, h⟩ := z_bd h
          refine g_callV (a := 137) (as := [.int (q34.2.1 137 16)]) (rest := [.long ((q34.2.2 137 19) * (32 : Int64)), .ref 139]) (c := mX12_look2) (k1 := 0) dX12_advance_151 rfl rfl rfl sh_137 rfl rfl (Nat.le_of_ble_eq_true rfl) (Nat.le_of_ble_eq_true rfl) (by decide) ?_
          refine A_X12_look2 e39 ?_
          show z_G none 1 mX12_advance 154 [some (.ref 139), none] [.int q38.1, .long ((q34.2.2 137 19) * (32 : Int64)), .ref 139] q38.2 Q
          refine g_i2l dX12_advance_154 ?_
          refine g_ladd dX12_advance_155 ?_
          refine g_ldc2_w dX12_advance_156 rfl ?_
          refine g_lsub dX12_advance_159 ?_
          refine g_goto (t := 166) dX12_advance_160 (by decide) ?_
          refine g_putL (a := 137) dX12_advance_166 f_12_118 sh_137 rfl rfl rfl ?_
          refine g_aload_n dX12_advance_169 rfl rfl ?_
          refine g_dup dX12_advance_170 rfl ?_
          refine g_get (a := 137) (v := .int (q38.2.1 137 16)) dX12_advance_171 f_12_103 sh_137 rfl (by simp [z_fv, z_wI, z_wL, z_wLs, upd, vp_updL]) ?_
          refine g_iconst (v := (1 : Int32)) dX12_advance_174 (by decide) ?_
          refine g_iadd dX12_advance_175 ?_
          refine g_putI (a := 137) dX12_advance_176 f_12_103 sh_137 rfl rfl rfl ?_
          refine g_goto (t := 109) dX12_advance_179 (by decide) ?_
          exact g_sub (z_sub_s (z_sub_n z_sub_nil)) (ih.2.1 _ _ _ _ h hq)
    · rw [L_X12_advance] at h
      replace h := z_iff (by decide) h
      replace h := z_iff (by decide) h
      replace h := z_ift rfl h
      refine g_aload_n dX12_advance_210 rfl rfl ?_
      refine g_aload_n dX12_advance_211 rfl rfl ?_
      refine g_get (a := 137) (v := .int (M.1 137 16)) dX12_advance_212 f_12_103 sh_137 rfl rfl ?_
      obtain ⟨q40, e41, h⟩ := z_bd h
      refine g_callV (a := 137) (as := [.int (M.1 137 16)]) (rest := []) (c := mX12_look2) (k1 := 0) dX12_advance_215 rfl rfl rfl sh_137 rfl rfl (Nat.le_of_ble_eq_true rfl) (Nat.le_of_ble_eq_true rfl) (by decide) ?_
      refine A_X12_look2 e41 ?_
      show z_G none 1 mX12_advance 218 [some (.ref 139), none] [.int q40.1] q40.2 Q
      obtain ⟨q42, e43, h⟩ := z_bd h
      refine g_callS (as := [.int q40.1]) (rest := []) (c := mX12_isDigit) (k1 := 0) dX12_advance_218 rfl rfl rfl rfl rfl (Nat.le_of_ble_eq_true rfl) (Nat.le_of_ble_eq_true rfl) (by decide) ?_
      refine A_X12_isDigit e43 ?_
      show z_G none 1 mX12_advance 221 [some (.ref 139), none] [.int (z_tb q42.1)] q42.2 Q
      refine g_if_eq (t := 273) dX12_advance_221 (by decide) (fun c44 => ?_) (fun c44 => ?_)
      · replace h := z_iff (z_tb0.mp c44) h
        refine g_aload_n dX12_advance_273 rfl rfl ?_
        refine g_aload_n dX12_advance_274 rfl rfl ?_
        refine g_get (a := 137) (v := .int (q42.2.1 137 16)) dX12_advance_275 f_12_103 sh_137 rfl rfl ?_
        refine g_aload_n dX12_advance_278 rfl rfl ?_
        refine g_get (a := 137) (v := .int (q42.2.1 137 15)) dX12_advance_279 f_12_106 sh_137 rfl rfl ?_
        refine g_isub dX12_advance_282 ?_
        refine g_iconst (v := (4 : Int32)) dX12_advance_283 (by decide) ?_
        refine g_ic_le (t := 291) dX12_advance_284 (by decide) (fun c45 => ?_) (fun c45 => ?_)
        · replace h := z_ift c45 h
          refine g_iconst (v := (2 : Int32)) dX12_advance_291 (by decide) ?_
          refine g_putI (a := 137) dX12_advance_292 f_12_112 sh_137 rfl rfl rfl ?_
          refine g_goto (t := 330) dX12_advance_295 (by decide) ?_
          cases h
          exact g_vret dX12_advance_330 rfl hq
        · replace h := z_iff c45 h
          refine g_iconst (v := (4 : Int32)) dX12_advance_287 (by decide) ?_
          refine g_goto (t := 292) dX12_advance_288 (by decide) ?_
          refine g_putI (a := 137) dX12_advance_292 f_12_112 sh_137 rfl rfl rfl ?_
          refine g_goto (t := 330) dX12_advance_295 (by decide) ?_
          cases h
          exact g_vret dX12_advance_330 rfl hq
      · replace h := z_ift (z_tbn.mp c44) h
        refine g_aload_n dX12_advance_224 rfl rfl ?_
        refine g_get (a := 137) (v := .int (q42.2.1 137 16)) dX12_advance_225 f_12_103 sh_137 rfl rfl ?_
        refine g_aload_n dX12_advance_228 rfl rfl ?_
        refine g_get (a := 137) (v := .int (q42.2.1 137 15)) dX12_advance_229 f_12_106 sh_137 rfl rfl ?_
        refine g_isub dX12_advance_232 ?_
        refine g_iconst (v := (4 : Int32)) dX12_advance_233 (by decide) ?_
        refine g_ic_ge (t := 260) dX12_advance_234 (by decide) (fun c46 => ?_) (fun c46 => ?_)
        · replace h := z_ift c46 h
          refine g_aload_n dX12_advance_260 rfl rfl ?_
          refine g_dup dX12_advance_261 rfl ?_
          refine g_get (a := 137) (v := .int (q42.2.1 137 16)) dX12_advance_262 f_12_103 sh_137 rfl rfl ?_
          refine g_iconst (v := (1 : Int32)) dX12_advance_265 (by decide) ?_
          refine g_iadd dX12_advance_266 ?_
          refine g_putI (a := 137) dX12_advance_267 f_12_103 sh_137 rfl rfl rfl ?_
          refine g_goto (t := 210) dX12_advance_270 (by decide) ?_
          exact g_sub (z_sub_s (z_sub_n z_sub_nil)) (ih.2.2 _ _ _ _ h hq)
        · replace h := z_iff c46 h
          refine g_aload_n dX12_advance_237 rfl rfl ?_
          refine g_bipush (v := (10 : Int32)) dX12_advance_238 (by decide) ?_
          refine g_aload_n dX12_advance_240 rfl rfl ?_
          refine g_get (a := 137) (v := .int (q42.2.1 137 17)) dX12_advance_241 f_12_131 sh_137 rfl rfl ?_
          refine g_imul dX12_advance_244 ?_
          refine g_aload_n dX12_advance_245 rfl rfl ?_
          refine g_aload_n dX12_advance_246 rfl rfl ?_
          refine g_get (a := 137) (v := .int (q42.2.1 137 16)) dX12_advance_247 f_12_103 sh_137 rfl rfl ?_
          obtain ⟨q47, e48, h⟩ := z_bd h
          refine g_callV (a := 137) (as := [.int (q42.2.1 137 16)]) (rest := [.int ((10 : Int32) * (q42.2.1 137 17)), .ref 139]) (c := mX12_look2) (k1 := 0) dX12_advance_250 rfl rfl rfl sh_137 rfl rfl (Nat.le_of_ble_eq_true rfl) (Nat.le_of_ble_eq_true rfl) (by decide) ?_
          refine A_X12_look2 e48 ?_
          show z_G none 1 mX12_advance 253 [some (.ref 139), none] [.int q47.1, .int ((10 : Int32) * (q42.2.1 137 17)), .ref 139] q47.2 Q
          refine g_iadd dX12_advance_253 ?_
          refine g_bipush (v := (48 : Int32)) dX12_advance_254 (by decide) ?_
          refine g_isub dX12_advance_256 ?_
          refine g_putI (a := 137) dX12_advance_257 f_12_131 sh_137 rfl rfl rfl ?_
          refine g_aload_n dX12_advance_260 rfl rfl ?_
          refine g_dup dX12_advance_261 rfl ?_
          refine g_get (a := 137) (v := .int (q47.2.1 137 16)) dX12_advance_262 f_12_103 sh_137 rfl (by simp [z_fv, z_wI, z_wL, z_wLs, upd, vp_updL]) ?_
          refine g_iconst (v := (1 : Int32)) dX12_advance_265 (by decide) ?_
          refine g_iadd dX12_advance_266 ?_
          refine g_putI (a := 137) dX12_advance_267 f_12_103 sh_137 rfl rfl rfl ?_
          refine g_goto (t := 210) dX12_advance_270 (by decide) ?_
          exact g_sub (z_sub_s (z_sub_n z_sub_nil)) (ih.2.2 _ _ _ _ h hq)
def F_X12_advance (w : Nat) (M : z_Mem) : Option (Unit × z_Mem) :=
  L_X12_advance w w 0 (z_wI M 137 15 (M.1 137 16))
set_option maxHeartbeats 4000000 in
theorem A_X12_advance {w : Nat} {M : z_Mem} {r : Unit} {M' : z_Mem} {Q : Option Value → z_Mem → Prop} (h : F_X12_advance w M = some (r, M')) (hq : Q none M') : z_Cl 1 mX12_advance [.ref 139] M Q := by
  refine g_in (ls := [some (.ref 139), none]) rfl ?_
  unfold F_X12_advance at h
  refine g_aload_n dX12_advance_0 rfl rfl ?_
  refine g_aload_n dX12_advance_1 rfl rfl ?_
  refine g_get (a := 137) (v := .int (M.1 137 16)) dX12_advance_2 f_12_103 sh_137 rfl rfl ?_
  refine g_putI (a := 137) dX12_advance_5 f_12_106 sh_137 rfl rfl rfl ?_
  exact g_sub (z_sub_s (z_sub_n z_sub_nil)) ((AL_X12_advance (w := w) w).1 _ _ _ _ h hq)
theorem dX12_isSign_0 : decode cX12_isSign 0 = .ok (.aload_n 0, 1) := by decide +kernel
theorem dX12_isSign_1 : decode cX12_isSign 1 = .ok (.getfield 112, 3) := by decide +kernel
theorem dX12_isSign_4 : decode cX12_isSign 4 = .ok (.iconst 3, 1) := by decide +kernel
theorem dX12_isSign_5 : decode cX12_isSign 5 = .ok (.if_icmp .ne 15, 3) := by decide +kernel
theorem dX12_isSign_8 : decode cX12_isSign 8 = .ok (.aload_n 0, 1) := by decide +kernel
theorem dX12_isSign_9 : decode cX12_isSign 9 = .ok (.getfield 131, 3) := by decide +kernel
theorem dX12_isSign_12 : decode cX12_isSign 12 = .ok (.iload_n 1, 1) := by decide +kernel
theorem dX12_isSign_13 : decode cX12_isSign 13 = .ok (.if_icmp .ne 7, 3) := by decide +kernel
theorem dX12_isSign_16 : decode cX12_isSign 16 = .ok (.iconst 1, 1) := by decide +kernel
theorem dX12_isSign_17 : decode cX12_isSign 17 = .ok (.goto 4, 3) := by decide +kernel
theorem dX12_isSign_20 : decode cX12_isSign 20 = .ok (.iconst 0, 1) := by decide +kernel
theorem dX12_isSign_21 : decode cX12_isSign 21 = .ok (.ireturn, 1) := by decide +kernel
def F_X12_isSign (w : Nat) (M : z_Mem) (a1 : Int32) : Option (Bool × z_Mem) :=
  if (M.1 137 14) = (3 : Int32) then
  if (M.1 137 17) = a1 then
  some (true, M)
  else
  some (false, M)
  else
  some (false, M)
set_option maxHeartbeats 4000000 in
theorem A_X12_isSign {w : Nat} {M : z_Mem} {a1 : Int32} {r : Bool} {M' : z_Mem} {Q : Option Value → z_Mem → Prop} (h : F_X12_isSign w M a1 = some (r, M')) (hq : Q (some (.int (z_tb r))) M') : z_Cl 0 mX12_isSign [.ref 139, .int a1] M Q := by
  refine g_in (ls := [some (.ref 139), some (.int a1)]) rfl ?_
  unfold F_X12_isSign at h
  refine g_aload_n dX12_isSign_0 rfl rfl ?_
  refine g_get (a := 137) (v := .int (M.1 137 14)) dX12_isSign_1 f_12_112 sh_137 rfl rfl ?_
  refine g_iconst (v := (3 : Int32)) dX12_isSign_4 (by decide) ?_
  refine g_ic_ne (t := 20) dX12_isSign_5 (by decide) (fun c1 => ?_) (fun c1 => ?_)
  · replace h := z_iff c1 h
    refine g_iconst (v := (0 : Int32)) dX12_isSign_20 (by decide) ?_
    cases h
    exact g_iret dX12_isSign_21 rfl rfl hq
  · replace h := z_ift c1 h
    refine g_aload_n dX12_isSign_8 rfl rfl ?_
    refine g_get (a := 137) (v := .int (M.1 137 17)) dX12_isSign_9 f_12_131 sh_137 rfl rfl ?_
    refine g_iload_n dX12_isSign_12 rfl rfl ?_
    refine g_ic_ne (t := 20) dX12_isSign_13 (by decide) (fun c2 => ?_) (fun c2 => ?_)
    · replace h := z_iff c2 h
      refine g_iconst (v := (0 : Int32)) dX12_isSign_20 (by decide) ?_
      cases h
      exact g_iret dX12_isSign_21 rfl rfl hq
    · replace h := z_ift c2 h
      refine g_iconst (v := (1 : Int32)) dX12_isSign_16 (by decide) ?_
      refine g_goto (t := 21) dX12_isSign_17 (by decide) ?_
      cases h
      exact g_iret dX12_isSign_21 rfl rfl hq
theorem dX12_spelled_0 : decode cX12_spelled 0 = .ok (.iload_n 0, 1) := by decide +kernel
theorem dX12_spelled_1 : decode cX12_spelled 1 = .ok (.i2l, 1) := by decide +kernel
theorem dX12_spelled_2 : decode cX12_spelled 2 = .ok (.ldc2_w 123, 3) := by decide +kernel
theorem dX12_spelled_5 : decode cX12_spelled 5 = .ok (.lsub, 1) := by decide +kernel
theorem dX12_spelled_6 : decode cX12_spelled 6 = .ok (.ldc2_w 121, 3) := by decide +kernel
theorem dX12_spelled_9 : decode cX12_spelled 9 = .ok (.lmul, 1) := by decide +kernel
theorem dX12_spelled_10 : decode cX12_spelled 10 = .ok (.iload_n 1, 1) := by decide +kernel
theorem dX12_spelled_11 : decode cX12_spelled 11 = .ok (.i2l, 1) := by decide +kernel
theorem dX12_spelled_12 : decode cX12_spelled 12 = .ok (.ladd, 1) := by decide +kernel
theorem dX12_spelled_13 : decode cX12_spelled 13 = .ok (.ldc2_w 123, 3) := by decide +kernel
theorem dX12_spelled_16 : decode cX12_spelled 16 = .ok (.lsub, 1) := by decide +kernel
theorem dX12_spelled_17 : decode cX12_spelled 17 = .ok (.lstore 6, 2) := by decide +kernel
theorem dX12_spelled_19 : decode cX12_spelled 19 = .ok (.iload_n 2, 1) := by decide +kernel
theorem dX12_spelled_20 : decode cX12_spelled 20 = .ok (.ifCond .le 19, 3) := by decide +kernel
theorem dX12_spelled_23 : decode cX12_spelled 23 = .ok (.lload 6, 2) := by decide +kernel
theorem dX12_spelled_25 : decode cX12_spelled 25 = .ok (.ldc2_w 121, 3) := by decide +kernel
theorem dX12_spelled_28 : decode cX12_spelled 28 = .ok (.lmul, 1) := by decide +kernel
theorem dX12_spelled_29 : decode cX12_spelled 29 = .ok (.iload_n 2, 1) := by decide +kernel
theorem dX12_spelled_30 : decode cX12_spelled 30 = .ok (.i2l, 1) := by decide +kernel
theorem dX12_spelled_31 : decode cX12_spelled 31 = .ok (.ladd, 1) := by decide +kernel
theorem dX12_spelled_32 : decode cX12_spelled 32 = .ok (.ldc2_w 123, 3) := by decide +kernel
theorem dX12_spelled_35 : decode cX12_spelled 35 = .ok (.lsub, 1) := by decide +kernel
theorem dX12_spelled_36 : decode cX12_spelled 36 = .ok (.goto 5, 3) := by decide +kernel
theorem dX12_spelled_39 : decode cX12_spelled 39 = .ok (.lload 6, 2) := by decide +kernel
theorem dX12_spelled_41 : decode cX12_spelled 41 = .ok (.lstore 6, 2) := by decide +kernel
theorem dX12_spelled_43 : decode cX12_spelled 43 = .ok (.iload_n 3, 1) := by decide +kernel
theorem dX12_spelled_44 : decode cX12_spelled 44 = .ok (.ifCond .le 19, 3) := by decide +kernel
theorem dX12_spelled_47 : decode cX12_spelled 47 = .ok (.lload 6, 2) := by decide +kernel
theorem dX12_spelled_49 : decode cX12_spelled 49 = .ok (.ldc2_w 121, 3) := by decide +kernel
theorem dX12_spelled_52 : decode cX12_spelled 52 = .ok (.lmul, 1) := by decide +kernel
theorem dX12_spelled_53 : decode cX12_spelled 53 = .ok (.iload_n 3, 1) := by decide +kernel
theorem dX12_spelled_54 : decode cX12_spelled 54 = .ok (.i2l, 1) := by decide +kernel
theorem dX12_spelled_55 : decode cX12_spelled 55 = .ok (.ladd, 1) := by decide +kernel
theorem dX12_spelled_56 : decode cX12_spelled 56 = .ok (.ldc2_w 123, 3) := by decide +kernel
theorem dX12_spelled_59 : decode cX12_spelled 59 = .ok (.lsub, 1) := by decide +kernel
theorem dX12_spelled_60 : decode cX12_spelled 60 = .ok (.goto 5, 3) := by decide +kernel
theorem dX12_spelled_63 : decode cX12_spelled 63 = .ok (.lload 6, 2) := by decide +kernel
theorem dX12_spelled_65 : decode cX12_spelled 65 = .ok (.lstore 6, 2) := by decide +kernel
theorem dX12_spelled_67 : decode cX12_spelled 67 = .ok (.iload 4, 2) := by decide +kernel
theorem dX12_spelled_69 : decode cX12_spelled 69 = .ok (.ifCond .le 20, 3) := by decide +kernel
theorem dX12_spelled_72 : decode cX12_spelled 72 = .ok (.lload 6, 2) := by decide +kernel
theorem dX12_spelled_74 : decode cX12_spelled 74 = .ok (.ldc2_w 121, 3) := by decide +kernel
theorem dX12_spelled_77 : decode cX12_spelled 77 = .ok (.lmul, 1) := by decide +kernel
theorem dX12_spelled_78 : decode cX12_spelled 78 = .ok (.iload 4, 2) := by decide +kernel
theorem dX12_spelled_80 : decode cX12_spelled 80 = .ok (.i2l, 1) := by decide +kernel
theorem dX12_spelled_81 : decode cX12_spelled 81 = .ok (.ladd, 1) := by decide +kernel
theorem dX12_spelled_82 : decode cX12_spelled 82 = .ok (.ldc2_w 123, 3) := by decide +kernel
theorem dX12_spelled_85 : decode cX12_spelled 85 = .ok (.lsub, 1) := by decide +kernel
theorem dX12_spelled_86 : decode cX12_spelled 86 = .ok (.goto 5, 3) := by decide +kernel
theorem dX12_spelled_89 : decode cX12_spelled 89 = .ok (.lload 6, 2) := by decide +kernel
theorem dX12_spelled_91 : decode cX12_spelled 91 = .ok (.lstore 6, 2) := by decide +kernel
theorem dX12_spelled_93 : decode cX12_spelled 93 = .ok (.iload 5, 2) := by decide +kernel
theorem dX12_spelled_95 : decode cX12_spelled 95 = .ok (.ifCond .le 20, 3) := by decide +kernel
theorem dX12_spelled_98 : decode cX12_spelled 98 = .ok (.lload 6, 2) := by decide +kernel
theorem dX12_spelled_100 : decode cX12_spelled 100 = .ok (.ldc2_w 121, 3) := by decide +kernel
theorem dX12_spelled_103 : decode cX12_spelled 103 = .ok (.lmul, 1) := by decide +kernel
theorem dX12_spelled_104 : decode cX12_spelled 104 = .ok (.iload 5, 2) := by decide +kernel
theorem dX12_spelled_106 : decode cX12_spelled 106 = .ok (.i2l, 1) := by decide +kernel
theorem dX12_spelled_107 : decode cX12_spelled 107 = .ok (.ladd, 1) := by decide +kernel
theorem dX12_spelled_108 : decode cX12_spelled 108 = .ok (.ldc2_w 123, 3) := by decide +kernel
theorem dX12_spelled_111 : decode cX12_spelled 111 = .ok (.lsub, 1) := by decide +kernel
theorem dX12_spelled_112 : decode cX12_spelled 112 = .ok (.goto 5, 3) := by decide +kernel
theorem dX12_spelled_115 : decode cX12_spelled 115 = .ok (.lload 6, 2) := by decide +kernel
theorem dX12_spelled_117 : decode cX12_spelled 117 = .ok (.lreturn, 1) := by decide +kernel
def F_X12_spelled (w : Nat) (M : z_Mem) (a0 : Int32) (a1 : Int32) (a2 : Int32) (a3 : Int32) (a4 : Int32) (a5 : Int32) : Option (Int64 × z_Mem) :=
  if a2 ≤ (0 : Int32) then
  if a3 ≤ (0 : Int32) then
  if a4 ≤ (0 : Int32) then
  if a5 ≤ (0 : Int32) then
  some ((((a0.toInt64 - (96 : Int64)) * (32 : Int64)) + a1.toInt64) - (96 : Int64), M)
  else
  some (((((((a0.toInt64 - (96 : Int64)) * (32 : Int64)) + a1.toInt64) - (96 : Int64)) * (32 : Int64)) + a5.toInt64) - (96 : Int64), M)
  else
  if a5 ≤ (0 : Int32) then
  some (((((((a0.toInt64 - (96 : Int64)) * (32 : Int64)) + a1.toInt64) - (96 : Int64)) * (32 : Int64)) + a4.toInt64) - (96 : Int64), M)
  else
  some ((((((((((a0.toInt64 - (96 : Int64)) * (32 : Int64)) + a1.toInt64) - (96 : Int64)) * (32 : Int64)) + a4.toInt64) - (96 : Int64)) * (32 : Int64)) + a5.toInt64) - (96 : Int64), M)
  else
  if a4 ≤ (0 : Int32) then
  if a5 ≤ (0 : Int32) then
  some (((((((a0.toInt64 - (96 : Int64)) * (32 : Int64)) + a1.toInt64) - (96 : Int64)) * (32 : Int64)) + a3.toInt64) - (96 : Int64), M)
  else
  some ((((((((((a0.toInt64 - (96 : Int64)) * (32 : Int64)) + a1.toInt64) - (96 : Int64)) * (32 : Int64)) + a3.toInt64) - (96 : Int64)) * (32 : Int64)) + a5.toInt64) - (96 : Int64), M)
  else
  if a5 ≤ (0 : Int32) then
  some ((((((((((a0.toInt64 - (96 : Int64)) * (32 : Int64)) + a1.toInt64) - (96 : Int64)) * (32 : Int64)) + a3.toInt64) - (96 : Int64)) * (32 : Int64)) + a4.toInt64) - (96 : Int64), M)
  else
  some (((((((((((((a0.toInt64 - (96 : Int64)) * (32 : Int64)) + a1.toInt64) - (96 : Int64)) * (32 : Int64)) + a3.toInt64) - (96 : Int64)) * (32 : Int64)) + a4.toInt64) - (96 : Int64)) * (32 : Int64)) + a5.toInt64) - (96 : Int64), M)
  else
  if a3 ≤ (0 : Int32) then
  if a4 ≤ (0 : Int32) then
  if a5 ≤ (0 : Int32) then
  some (((((((a0.toInt64 - (96 : Int64)) * (32 : Int64)) + a1.toInt64) - (96 : Int64)) * (32 : Int64)) + a2.toInt64) - (96 : Int64), M)
  else
  some ((((((((((a0.toInt64 - (96 : Int64)) * (32 : Int64)) + a1.toInt64) - (96 : Int64)) * (32 : Int64)) + a2.toInt64) - (96 : Int64)) * (32 : Int64)) + a5.toInt64) - (96 : Int64), M)
  else
  if a5 ≤ (0 : Int32) then
  some ((((((((((a0.toInt64 - (96 : Int64)) * (32 : Int64)) + a1.toInt64) - (96 : Int64)) * (32 : Int64)) + a2.toInt64) - (96 : Int64)) * (32 : Int64)) + a4.toInt64) - (96 : Int64), M)
  else
  some (((((((((((((a0.toInt64 - (96 : Int64)) * (32 : Int64)) + a1.toInt64) - (96 : Int64)) * (32 : Int64)) + a2.toInt64) - (96 : Int64)) * (32 : Int64)) + a4.toInt64) - (96 : Int64)) * (32 : Int64)) + a5.toInt64) - (96 : Int64), M)
  else
  if a4 ≤ (0 : Int32) then
  if a5 ≤ (0 : Int32) then
  some ((((((((((a0.toInt64 - (96 : Int64)) * (32 : Int64)) + a1.toInt64) - (96 : Int64)) * (32 : Int64)) + a2.toInt64) - (96 : Int64)) * (32 : Int64)) + a3.toInt64) - (96 : Int64), M)
  else
  some (((((((((((((a0.toInt64 - (96 : Int64)) * (32 : Int64)) + a1.toInt64) - (96 : Int64)) * (32 : Int64)) + a2.toInt64) - (96 : Int64)) * (32 : Int64)) + a3.toInt64) - (96 : Int64)) * (32 : Int64)) + a5.toInt64) - (96 : Int64), M)
  else
  if a5 ≤ (0 : Int32) then
  some (((((((((((((a0.toInt64 - (96 : Int64)) * (32 : Int64)) + a1.toInt64) - (96 : Int64)) * (32 : Int64)) + a2.toInt64) - (96 : Int64)) * (32 : Int64)) + a3.toInt64) - (96 : Int64)) * (32 : Int64)) + a4.toInt64) - (96 : Int64), M)
  else
  some ((((((((((((((((a0.toInt64 - (96 : Int64)) * (32 : Int64)) + a1.toInt64) - (96 : Int64)) * (32 : Int64)) + a2.toInt64) - (96 : Int64)) * (32 : Int64)) + a3.toInt64) - (96 : Int64)) * (32 : Int64)) + a4.toInt64) - (96 : Int64)) * (32 : Int64)) + a5.toInt64) - (96 : Int64), M)
set_option maxHeartbeats 4000000 in
theorem A_X12_spelled {w : Nat} {M : z_Mem} {a0 : Int32} {a1 : Int32} {a2 : Int32} {a3 : Int32} {a4 : Int32} {a5 : Int32} {r : Int64} {M' : z_Mem} {Q : Option Value → z_Mem → Prop} (h : F_X12_spelled w M a0 a1 a2 a3 a4 a5 = some (r, M')) (hq : Q (some (.long r)) M') : z_Cl 0 mX12_spelled [.int a0, .int a1, .int a2, .int a3, .int a4, .int a5] M Q := by
  refine g_in (ls := [some (.int a0), some (.int a1), some (.int a2), some (.int a3), some (.int a4), some (.int a5), none, none]) rfl ?_
  unfold F_X12_spelled at h
  refine g_iload_n dX12_spelled_0 rfl rfl ?_
  refine g_i2l dX12_spelled_1 ?_
  refine g_ldc2_w dX12_spelled_2 rfl ?_
  refine g_lsub dX12_spelled_5 ?_
  refine g_ldc2_w dX12_spelled_6 rfl ?_
  refine g_lmul dX12_spelled_9 ?_
  refine g_iload_n dX12_spelled_10 rfl rfl ?_
  refine g_i2l dX12_spelled_11 ?_
  refine g_ladd dX12_spelled_12 ?_
  refine g_ldc2_w dX12_spelled_13 rfl ?_
  refine g_lsub dX12_spelled_16 ?_
  refine g_lstore (ls' := [some (.int a0), some (.int a1), some (.int a2), some (.int a3), some (.int a4), some (.int a5), some (.long ((((a0.toInt64 - (96 : Int64)) * (32 : Int64)) + a1.toInt64) - (96 : Int64))), none]) dX12_spelled_17 (Nat.le_of_ble_eq_true rfl) rfl ?_
  refine g_iload_n dX12_spelled_19 rfl rfl ?_
  refine g_if_le (t := 39) dX12_spelled_20 (by decide) (fun c1 => ?_) (fun c1 => ?_)
  · replace h := z_ift c1 h
    refine g_lload dX12_spelled_39 rfl ?_
    refine g_lstore (ls' := [some (.int a0), some (.int a1), some (.int a2), some (.int a3), some (.int a4), some (.int a5), some (.long ((((a0.toInt64 - (96 : Int64)) * (32 : Int64)) + a1.toInt64) - (96 : Int64))), none]) dX12_spelled_41 (Nat.le_of_ble_eq_true rfl) rfl ?_
    refine g_iload_n dX12_spelled_43 rfl rfl ?_
    refine g_if_le (t := 63) dX12_spelled_44 (by decide) (fun c2 => ?_) (fun c2 => ?_)
    · replace h := z_ift c2 h
      refine g_lload dX12_spelled_63 rfl ?_
      refine g_lstore (ls' := [some (.int a0), some (.int a1), some (.int a2), some (.int a3), some (.int a4), some (.int a5), some (.long ((((a0.toInt64 - (96 : Int64)) * (32 : Int64)) + a1.toInt64) - (96 : Int64))), none]) dX12_spelled_65 (Nat.le_of_ble_eq_true rfl) rfl ?_
      refine g_iload dX12_spelled_67 rfl ?_
      refine g_if_le (t := 89) dX12_spelled_69 (by decide) (fun c3 => ?_) (fun c3 => ?_)
      · replace h := z_ift c3 h
        refine g_lload dX12_spelled_89 rfl ?_
        refine g_lstore (ls' := [some (.int a0), some (.int a1), some (.int a2), some (.int a3), some (.int a4), some (.int a5), some (.long ((((a0.toInt64 - (96 : Int64)) * (32 : Int64)) + a1.toInt64) - (96 : Int64))), none]) dX12_spelled_91 (Nat.le_of_ble_eq_true rfl) rfl ?_
        refine g_iload dX12_spelled_93 rfl ?_
        refine g_if_le (t := 115) dX12_spelled_95 (by decide) (fun c4 => ?_) (fun c4 => ?_)
        · replace h := z_ift c4 h
          refine g_lload dX12_spelled_115 rfl ?_
          cases h
          exact g_lret dX12_spelled_117 rfl hq
        · replace h := z_iff c4 h
          refine g_lload dX12_spelled_98 rfl ?_
          refine g_ldc2_w dX12_spelled_100 rfl ?_
          refine g_lmul dX12_spelled_103 ?_
          refine g_iload dX12_spelled_104 rfl ?_
          refine g_i2l dX12_spelled_106 ?_
          refine g_ladd dX12_spelled_107 ?_
          refine g_ldc2_w dX12_spelled_108 rfl ?_
          refine g_lsub dX12_spelled_111 ?_
          refine g_goto (t := 117) dX12_spelled_112 (by decide) ?_
          cases h
          exact g_lret dX12_spelled_117 rfl hq
      · replace h := z_iff c3 h
        refine g_lload dX12_spelled_72 rfl ?_
        refine g_ldc2_w dX12_spelled_74 rfl ?_
        refine g_lmul dX12_spelled_77 ?_
        refine g_iload dX12_spelled_78 rfl ?_
        refine g_i2l dX12_spelled_80 ?_
        refine g_ladd dX12_spelled_81 ?_
        refine g_ldc2_w dX12_spelled_82 rfl ?_
        refine g_lsub dX12_spelled_85 ?_
        refine g_goto (t := 91) dX12_spelled_86 (by decide) ?_
        refine g_lstore (ls' := [some (.int a0), some (.int a1), some (.int a2), some (.int a3), some (.int a4), some (.int a5), some (.long (((((((a0.toInt64 - (96 : Int64)) * (32 : Int64)) + a1.toInt64) - (96 : Int64)) * (32 : Int64)) + a4.toInt64) - (96 : Int64))), none]) dX12_spelled_91 (Nat.le_of_ble_eq_true rfl) rfl ?_
        refine g_iload dX12_spelled_93 rfl ?_
        refine g_if_le (t := 115) dX12_spelled_95 (by decide) (fun c5 => ?_) (fun c5 => ?_)
        · replace h := z_ift c5 h
          refine g_lload dX12_spelled_115 rfl ?_
          cases h
          exact g_lret dX12_spelled_117 rfl hq
        · replace h := z_iff c5 h
          refine g_lload dX12_spelled_98 rfl ?_
          refine g_ldc2_w dX12_spelled_100 rfl ?_
          refine g_lmul dX12_spelled_103 ?_
          refine g_iload dX12_spelled_104 rfl ?_
          refine g_i2l dX12_spelled_106 ?_
          refine g_ladd dX12_spelled_107 ?_
          refine g_ldc2_w dX12_spelled_108 rfl ?_
          refine g_lsub dX12_spelled_111 ?_
          refine g_goto (t := 117) dX12_spelled_112 (by decide) ?_
          cases h
          exact g_lret dX12_spelled_117 rfl hq
    · replace h := z_iff c2 h
      refine g_lload dX12_spelled_47 rfl ?_
      refine g_ldc2_w dX12_spelled_49 rfl ?_
      refine g_lmul dX12_spelled_52 ?_
      refine g_iload_n dX12_spelled_53 rfl rfl ?_
      refine g_i2l dX12_spelled_54 ?_
      refine g_ladd dX12_spelled_55 ?_
      refine g_ldc2_w dX12_spelled_56 rfl ?_
      refine g_lsub dX12_spelled_59 ?_
      refine g_goto (t := 65) dX12_spelled_60 (by decide) ?_
      refine g_lstore (ls' := [some (.int a0), some (.int a1), some (.int a2), some (.int a3), some (.int a4), some (.int a5), some (.long (((((((a0.toInt64 - (96 : Int64)) * (32 : Int64)) + a1.toInt64) - (96 : Int64)) * (32 : Int64)) + a3.toInt64) - (96 : Int64))), none]) dX12_spelled_65 (Nat.le_of_ble_eq_true rfl) rfl ?_
      refine g_iload dX12_spelled_67 rfl ?_
      refine g_if_le (t := 89) dX12_spelled_69 (by decide) (fun c6 => ?_) (fun c6 => ?_)
      · replace h := z_ift c6 h
        refine g_lload dX12_spelled_89 rfl ?_
        refine g_lstore (ls' := [some (.int a0), some (.int a1), some (.int a2), some (.int a3), some (.int a4), some (.int a5), some (.long (((((((a0.toInt64 - (96 : Int64)) * (32 : Int64)) + a1.toInt64) - (96 : Int64)) * (32 : Int64)) + a3.toInt64) - (96 : Int64))), none]) dX12_spelled_91 (Nat.le_of_ble_eq_true rfl) rfl ?_
        refine g_iload dX12_spelled_93 rfl ?_
        refine g_if_le (t := 115) dX12_spelled_95 (by decide) (fun c7 => ?_) (fun c7 => ?_)
        · replace h := z_ift c7 h
          refine g_lload dX12_spelled_115 rfl ?_
          cases h
          exact g_lret dX12_spelled_117 rfl hq
        · replace h := z_iff c7 h
          refine g_lload dX12_spelled_98 rfl ?_
          refine g_ldc2_w dX12_spelled_100 rfl ?_
          refine g_lmul dX12_spelled_103 ?_
          refine g_iload dX12_spelled_104 rfl ?_
          refine g_i2l dX12_spelled_106 ?_
          refine g_ladd dX12_spelled_107 ?_
          refine g_ldc2_w dX12_spelled_108 rfl ?_
          refine g_lsub dX12_spelled_111 ?_
          refine g_goto (t := 117) dX12_spelled_112 (by decide) ?_
          cases h
          exact g_lret dX12_spelled_117 rfl hq
      · replace h := z_iff c6 h
        refine g_lload dX12_spelled_72 rfl ?_
        refine g_ldc2_w dX12_spelled_74 rfl ?_
        refine g_lmul dX12_spelled_77 ?_
        refine g_iload dX12_spelled_78 rfl ?_
        refine g_i2l dX12_spelled_80 ?_
        refine g_ladd dX12_spelled_81 ?_
        refine g_ldc2_w dX12_spelled_82 rfl ?_
        refine g_lsub dX12_spelled_85 ?_
        refine g_goto (t := 91) dX12_spelled_86 (by decide) ?_
        refine g_lstore (ls' := [some (.int a0), some (.int a1), some (.int a2), some (.int a3), some (.int a4), some (.int a5), some (.long ((((((((((a0.toInt64 - (96 : Int64)) * (32 : Int64)) + a1.toInt64) - (96 : Int64)) * (32 : Int64)) + a3.toInt64) - (96 : Int64)) * (32 : Int64)) + a4.toInt64) - (96 : Int64))), none]) dX12_spelled_91 (Nat.le_of_ble_eq_true rfl) rfl ?_
        refine g_iload dX12_spelled_93 rfl ?_
        refine g_if_le (t := 115) dX12_spelled_95 (by decide) (fun c8 => ?_) (fun c8 => ?_)
        · replace h := z_ift c8 h
          refine g_lload dX12_spelled_115 rfl ?_
          cases h
          exact g_lret dX12_spelled_117 rfl hq
        · replace h := z_iff c8 h
          refine g_lload dX12_spelled_98 rfl ?_
          refine g_ldc2_w dX12_spelled_100 rfl ?_
          refine g_lmul dX12_spelled_103 ?_
          refine g_iload dX12_spelled_104 rfl ?_
          refine g_i2l dX12_spelled_106 ?_
          refine g_ladd dX12_spelled_107 ?_
          refine g_ldc2_w dX12_spelled_108 rfl ?_
          refine g_lsub dX12_spelled_111 ?_
          refine g_goto (t := 117) dX12_spelled_112 (by decide) ?_
          cases h
          exact g_lret dX12_spelled_117 rfl hq
  · replace h := z_iff c1 h
    refine g_lload dX12_spelled_23 rfl ?_
    refine g_ldc2_w dX12_spelled_25 rfl ?_
    refine g_lmul dX12_spelled_28 ?_
    refine g_iload_n dX12_spelled_29 rfl rfl ?_
    refine g_i2l dX12_spelled_30 ?_
    refine g_ladd dX12_spelled_31 ?_
    refine g_ldc2_w dX12_spelled_32 rfl ?_
    refine g_lsub dX12_spelled_35 ?_
    refine g_goto (t := 41) dX12_spelled_36 (by decide) ?_
    refine g_lstore (ls' := [some (.int a0), some (.int a1), some (.int a2), some (.int a3), some (.int a4), some (.int a5), some (.long (((((((a0.toInt64 - (96 : Int64)) * (32 : Int64)) + a1.toInt64) - (96 : Int64)) * (32 : Int64)) + a2.toInt64) - (96 : Int64))), none]) dX12_spelled_41 (Nat.le_of_ble_eq_true rfl) rfl ?_
    refine g_iload_n dX12_spelled_43 rfl rfl ?_
    refine g_if_le (t := 63) dX12_spelled_44 (by decide) (fun c9 => ?_) (fun c9 => ?_)
    · replace h := z_ift c9 h
      refine g_lload dX12_spelled_63 rfl ?_
      refine g_lstore (ls' := [some (.int a0), some (.int a1), some (.int a2), some (.int a3), some (.int a4), some (.int a5), some (.long (((((((a0.toInt64 - (96 : Int64)) * (32 : Int64)) + a1.toInt64) - (96 : Int64)) * (32 : Int64)) + a2.toInt64) - (96 : Int64))), none]) dX12_spelled_65 (Nat.le_of_ble_eq_true rfl) rfl ?_
      refine g_iload dX12_spelled_67 rfl ?_
      refine g_if_le (t := 89) dX12_spelled_69 (by decide) (fun c10 => ?_) (fun c10 => ?_)
      · replace h := z_ift c10 h
        refine g_lload dX12_spelled_89 rfl ?_
        refine g_lstore (ls' := [some (.int a0), some (.int a1), some (.int a2), some (.int a3), some (.int a4), some (.int a5), some (.long (((((((a0.toInt64 - (96 : Int64)) * (32 : Int64)) + a1.toInt64) - (96 : Int64)) * (32 : Int64)) + a2.toInt64) - (96 : Int64))), none]) dX12_spelled_91 (Nat.le_of_ble_eq_true rfl) rfl ?_
        refine g_iload dX12_spelled_93 rfl ?_
        refine g_if_le (t := 115) dX12_spelled_95 (by decide) (fun c11 => ?_) (fun c11 => ?_)
        · replace h := z_ift c11 h
          refine g_lload dX12_spelled_115 rfl ?_
          cases h
          exact g_lret dX12_spelled_117 rfl hq
        · replace h := z_iff c11 h
          refine g_lload dX12_spelled_98 rfl ?_
          refine g_ldc2_w dX12_spelled_100 rfl ?_
          refine g_lmul dX12_spelled_103 ?_
          refine g_iload dX12_spelled_104 rfl ?_
          refine g_i2l dX12_spelled_106 ?_
          refine g_ladd dX12_spelled_107 ?_
          refine g_ldc2_w dX12_spelled_108 rfl ?_
          refine g_lsub dX12_spelled_111 ?_
          refine g_goto (t := 117) dX12_spelled_112 (by decide) ?_
          cases h
          exact g_lret dX12_spelled_117 rfl hq
      · replace h := z_iff c10 h
        refine g_lload dX12_spelled_72 rfl ?_
        refine g_ldc2_w dX12_spelled_74 rfl ?_
        refine g_lmul dX12_spelled_77 ?_
        refine g_iload dX12_spelled_78 rfl ?_
        refine g_i2l dX12_spelled_80 ?_
        refine g_ladd dX12_spelled_81 ?_
        refine g_ldc2_w dX12_spelled_82 rfl ?_
        refine g_lsub dX12_spelled_85 ?_
        refine g_goto (t := 91) dX12_spelled_86 (by decide) ?_
        refine g_lstore (ls' := [some (.int a0), some (.int a1), some (.int a2), some (.int a3), some (.int a4), some (.int a5), some (.long ((((((((((a0.toInt64 - (96 : Int64)) * (32 : Int64)) + a1.toInt64) - (96 : Int64)) * (32 : Int64)) + a2.toInt64) - (96 : Int64)) * (32 : Int64)) + a4.toInt64) - (96 : Int64))), none]) dX12_spelled_91 (Nat.le_of_ble_eq_true rfl) rfl ?_
        refine g_iload dX12_spelled_93 rfl ?_
        refine g_if_le (t := 115) dX12_spelled_95 (by decide) (fun c12 => ?_) (fun c12 => ?_)
        · replace h := z_ift c12 h
          refine g_lload dX12_spelled_115 rfl ?_
          cases h
          exact g_lret dX12_spelled_117 rfl hq
        · replace h := z_iff c12 h
          refine g_lload dX12_spelled_98 rfl ?_
          refine g_ldc2_w dX12_spelled_100 rfl ?_
          refine g_lmul dX12_spelled_103 ?_
          refine g_iload dX12_spelled_104 rfl ?_
          refine g_i2l dX12_spelled_106 ?_
          refine g_ladd dX12_spelled_107 ?_
          refine g_ldc2_w dX12_spelled_108 rfl ?_
          refine g_lsub dX12_spelled_111 ?_
          refine g_goto (t := 117) dX12_spelled_112 (by decide) ?_
          cases h
          exact g_lret dX12_spelled_117 rfl hq
    · replace h := z_iff c9 h
      refine g_lload dX12_spelled_47 rfl ?_
      refine g_ldc2_w dX12_spelled_49 rfl ?_
      refine g_lmul dX12_spelled_52 ?_
      refine g_iload_n dX12_spelled_53 rfl rfl ?_
      refine g_i2l dX12_spelled_54 ?_
      refine g_ladd dX12_spelled_55 ?_
      refine g_ldc2_w dX12_spelled_56 rfl ?_
      refine g_lsub dX12_spelled_59 ?_
      refine g_goto (t := 65) dX12_spelled_60 (by decide) ?_
      refine g_lstore (ls' := [some (.int a0), some (.int a1), some (.int a2), some (.int a3), some (.int a4), some (.int a5), some (.long ((((((((((a0.toInt64 - (96 : Int64)) * (32 : Int64)) + a1.toInt64) - (96 : Int64)) * (32 : Int64)) + a2.toInt64) - (96 : Int64)) * (32 : Int64)) + a3.toInt64) - (96 : Int64))), none]) dX12_spelled_65 (Nat.le_of_ble_eq_true rfl) rfl ?_
      refine g_iload dX12_spelled_67 rfl ?_
      refine g_if_le (t := 89) dX12_spelled_69 (by decide) (fun c13 => ?_) (fun c13 => ?_)
      · replace h := z_ift c13 h
        refine g_lload dX12_spelled_89 rfl ?_
        refine g_lstore (ls' := [some (.int a0), some (.int a1), some (.int a2), some (.int a3), some (.int a4), some (.int a5), some (.long ((((((((((a0.toInt64 - (96 : Int64)) * (32 : Int64)) + a1.toInt64) - (96 : Int64)) * (32 : Int64)) + a2.toInt64) - (96 : Int64)) * (32 : Int64)) + a3.toInt64) - (96 : Int64))), none]) dX12_spelled_91 (Nat.le_of_ble_eq_true rfl) rfl ?_
        refine g_iload dX12_spelled_93 rfl ?_
        refine g_if_le (t := 115) dX12_spelled_95 (by decide) (fun c14 => ?_) (fun c14 => ?_)
        · replace h := z_ift c14 h
          refine g_lload dX12_spelled_115 rfl ?_
          cases h
          exact g_lret dX12_spelled_117 rfl hq
        · replace h := z_iff c14 h
          refine g_lload dX12_spelled_98 rfl ?_
          refine g_ldc2_w dX12_spelled_100 rfl ?_
          refine g_lmul dX12_spelled_103 ?_
          refine g_iload dX12_spelled_104 rfl ?_
          refine g_i2l dX12_spelled_106 ?_
          refine g_ladd dX12_spelled_107 ?_
          refine g_ldc2_w dX12_spelled_108 rfl ?_
          refine g_lsub dX12_spelled_111 ?_
          refine g_goto (t := 117) dX12_spelled_112 (by decide) ?_
          cases h
          exact g_lret dX12_spelled_117 rfl hq
      · replace h := z_iff c13 h
        refine g_lload dX12_spelled_72 rfl ?_
        refine g_ldc2_w dX12_spelled_74 rfl ?_
        refine g_lmul dX12_spelled_77 ?_
        refine g_iload dX12_spelled_78 rfl ?_
        refine g_i2l dX12_spelled_80 ?_
        refine g_ladd dX12_spelled_81 ?_
        refine g_ldc2_w dX12_spelled_82 rfl ?_
        refine g_lsub dX12_spelled_85 ?_
        refine g_goto (t := 91) dX12_spelled_86 (by decide) ?_
        refine g_lstore (ls' := [some (.int a0), some (.int a1), some (.int a2), some (.int a3), some (.int a4), some (.int a5), some (.long (((((((((((((a0.toInt64 - (96 : Int64)) * (32 : Int64)) + a1.toInt64) - (96 : Int64)) * (32 : Int64)) + a2.toInt64) - (96 : Int64)) * (32 : Int64)) + a3.toInt64) - (96 : Int64)) * (32 : Int64)) + a4.toInt64) - (96 : Int64))), none]) dX12_spelled_91 (Nat.le_of_ble_eq_true rfl) rfl ?_
        refine g_iload dX12_spelled_93 rfl ?_
        refine g_if_le (t := 115) dX12_spelled_95 (by decide) (fun c15 => ?_) (fun c15 => ?_)
        · replace h := z_ift c15 h
          refine g_lload dX12_spelled_115 rfl ?_
          cases h
          exact g_lret dX12_spelled_117 rfl hq
        · replace h := z_iff c15 h
          refine g_lload dX12_spelled_98 rfl ?_
          refine g_ldc2_w dX12_spelled_100 rfl ?_
          refine g_lmul dX12_spelled_103 ?_
          refine g_iload dX12_spelled_104 rfl ?_
          refine g_i2l dX12_spelled_106 ?_
          refine g_ladd dX12_spelled_107 ?_
          refine g_ldc2_w dX12_spelled_108 rfl ?_
          refine g_lsub dX12_spelled_111 ?_
          refine g_goto (t := 117) dX12_spelled_112 (by decide) ?_
          cases h
          exact g_lret dX12_spelled_117 rfl hq
theorem dX12_isWord_0 : decode cX12_isWord 0 = .ok (.aload_n 0, 1) := by decide +kernel
theorem dX12_isWord_1 : decode cX12_isWord 1 = .ok (.getfield 112, 3) := by decide +kernel
theorem dX12_isWord_4 : decode cX12_isWord 4 = .ok (.iconst 1, 1) := by decide +kernel
theorem dX12_isWord_5 : decode cX12_isWord 5 = .ok (.if_icmp .ne 16, 3) := by decide +kernel
theorem dX12_isWord_8 : decode cX12_isWord 8 = .ok (.aload_n 0, 1) := by decide +kernel
theorem dX12_isWord_9 : decode cX12_isWord 9 = .ok (.getfield 118, 3) := by decide +kernel
theorem dX12_isWord_12 : decode cX12_isWord 12 = .ok (.lload_n 1, 1) := by decide +kernel
theorem dX12_isWord_13 : decode cX12_isWord 13 = .ok (.lcmp, 1) := by decide +kernel
theorem dX12_isWord_14 : decode cX12_isWord 14 = .ok (.ifCond .ne 7, 3) := by decide +kernel
theorem dX12_isWord_17 : decode cX12_isWord 17 = .ok (.iconst 1, 1) := by decide +kernel
theorem dX12_isWord_18 : decode cX12_isWord 18 = .ok (.goto 4, 3) := by decide +kernel
theorem dX12_isWord_21 : decode cX12_isWord 21 = .ok (.iconst 0, 1) := by decide +kernel
theorem dX12_isWord_22 : decode cX12_isWord 22 = .ok (.ireturn, 1) := by decide +kernel
def F_X12_isWord (w : Nat) (M : z_Mem) (a1 : Int64) : Option (Bool × z_Mem) :=
  if (M.1 137 14) = (1 : Int32) then
  if (lg_cmp (M.2 137 19) a1) = (0 : Int32) then
  some (true, M)
  else
  some (false, M)
  else
  some (false, M)
set_option maxHeartbeats 4000000 in
theorem A_X12_isWord {w : Nat} {M : z_Mem} {a1 : Int64} {r : Bool} {M' : z_Mem} {Q : Option Value → z_Mem → Prop} (h : F_X12_isWord w M a1 = some (r, M')) (hq : Q (some (.int (z_tb r))) M') : z_Cl 0 mX12_isWord [.ref 139, .long a1] M Q := by
  refine g_in (ls := [some (.ref 139), some (.long a1), none]) rfl ?_
  unfold F_X12_isWord at h
  refine g_aload_n dX12_isWord_0 rfl rfl ?_
  refine g_get (a := 137) (v := .int (M.1 137 14)) dX12_isWord_1 f_12_112 sh_137 rfl rfl ?_
  refine g_iconst (v := (1 : Int32)) dX12_isWord_4 (by decide) ?_
  refine g_ic_ne (t := 21) dX12_isWord_5 (by decide) (fun c1 => ?_) (fun c1 => ?_)
  · replace h := z_iff c1 h
    refine g_iconst (v := (0 : Int32)) dX12_isWord_21 (by decide) ?_
    cases h
    exact g_iret dX12_isWord_22 rfl rfl hq
  · replace h := z_ift c1 h
    refine g_aload_n dX12_isWord_8 rfl rfl ?_
    refine g_get (a := 137) (v := .long (M.2 137 19)) dX12_isWord_9 f_12_118 sh_137 rfl rfl ?_
    refine g_lload_n dX12_isWord_12 rfl rfl ?_
    refine g_lcmp dX12_isWord_13 ?_
    refine g_if_ne (t := 21) dX12_isWord_14 (by decide) (fun c2 => ?_) (fun c2 => ?_)
    · replace h := z_iff c2 h
      refine g_iconst (v := (0 : Int32)) dX12_isWord_21 (by decide) ?_
      cases h
      exact g_iret dX12_isWord_22 rfl rfl hq
    · replace h := z_ift c2 h
      refine g_iconst (v := (1 : Int32)) dX12_isWord_17 (by decide) ?_
      refine g_goto (t := 22) dX12_isWord_18 (by decide) ?_
      cases h
      exact g_iret dX12_isWord_22 rfl rfl hq
theorem dX12_isOdds_0 : decode cX12_isOdds 0 = .ok (.aload_n 0, 1) := by decide +kernel
theorem dX12_isOdds_1 : decode cX12_isOdds 1 = .ok (.bipush 111, 2) := by decide +kernel
theorem dX12_isOdds_3 : decode cX12_isOdds 3 = .ok (.bipush 100, 2) := by decide +kernel
theorem dX12_isOdds_5 : decode cX12_isOdds 5 = .ok (.bipush 100, 2) := by decide +kernel
theorem dX12_isOdds_7 : decode cX12_isOdds 7 = .ok (.bipush 115, 2) := by decide +kernel
theorem dX12_isOdds_9 : decode cX12_isOdds 9 = .ok (.iconst 0, 1) := by decide +kernel
theorem dX12_isOdds_10 : decode cX12_isOdds 10 = .ok (.iconst 0, 1) := by decide +kernel
theorem dX12_isOdds_11 : decode cX12_isOdds 11 = .ok (.invokestatic 137, 3) := by decide +kernel
theorem dX12_isOdds_14 : decode cX12_isOdds 14 = .ok (.invokevirtual 141, 3) := by decide +kernel
theorem dX12_isOdds_17 : decode cX12_isOdds 17 = .ok (.ireturn, 1) := by decide +kernel
def F_X12_isOdds (w : Nat) (M : z_Mem) : Option (Bool × z_Mem) :=
  (F_X12_spelled w M (111 : Int32) (100 : Int32) (100 : Int32) (115 : Int32) (0 : Int32) (0 : Int32)).bind fun q1 =>
  (F_X12_isWord w q1.2 q1.1).bind fun q3 =>
  some (q3.1, q3.2)
set_option maxHeartbeats 4000000 in
theorem A_X12_isOdds {w : Nat} {M : z_Mem} {r : Bool} {M' : z_Mem} {Q : Option Value → z_Mem → Prop} (h : F_X12_isOdds w M = some (r, M')) (hq : Q (some (.int (z_tb r))) M') : z_Cl 1 mX12_isOdds [.ref 139] M Q := by
  refine g_in (ls := [some (.ref 139)]) rfl ?_
  unfold F_X12_isOdds at h
  refine g_aload_n dX12_isOdds_0 rfl rfl ?_
  refine g_bipush (v := (111 : Int32)) dX12_isOdds_1 (by decide) ?_
  refine g_bipush (v := (100 : Int32)) dX12_isOdds_3 (by decide) ?_
  refine g_bipush (v := (100 : Int32)) dX12_isOdds_5 (by decide) ?_
  refine g_bipush (v := (115 : Int32)) dX12_isOdds_7 (by decide) ?_
  refine g_iconst (v := (0 : Int32)) dX12_isOdds_9 (by decide) ?_
  refine g_iconst (v := (0 : Int32)) dX12_isOdds_10 (by decide) ?_
  obtain ⟨q1, e2, h⟩ := z_bd h
  refine g_callS (as := [.int (111 : Int32), .int (100 : Int32), .int (100 : Int32), .int (115 : Int32), .int (0 : Int32), .int (0 : Int32)]) (rest := [.ref 139]) (c := mX12_spelled) (k1 := 0) dX12_isOdds_11 rfl rfl rfl rfl rfl (Nat.le_of_ble_eq_true rfl) (Nat.le_of_ble_eq_true rfl) (by decide) ?_
  refine A_X12_spelled e2 ?_
  show z_G none 1 mX12_isOdds 14 [some (.ref 139)] [.long q1.1, .ref 139] q1.2 Q
  obtain ⟨q3, e4, h⟩ := z_bd h
  refine g_callV (a := 137) (as := [.long q1.1]) (rest := []) (c := mX12_isWord) (k1 := 0) dX12_isOdds_14 rfl rfl rfl sh_137 rfl rfl (Nat.le_of_ble_eq_true rfl) (Nat.le_of_ble_eq_true rfl) (by decide) ?_
  refine A_X12_isWord e4 ?_
  show z_G none 1 mX12_isOdds 17 [some (.ref 139)] [.int (z_tb q3.1)] q3.2 Q
  cases h
  exact g_iret dX12_isOdds_17 rfl nb_tb hq
theorem dX12_isToll_0 : decode cX12_isToll 0 = .ok (.aload_n 0, 1) := by decide +kernel
theorem dX12_isToll_1 : decode cX12_isToll 1 = .ok (.bipush 116, 2) := by decide +kernel
theorem dX12_isToll_3 : decode cX12_isToll 3 = .ok (.bipush 111, 2) := by decide +kernel
theorem dX12_isToll_5 : decode cX12_isToll 5 = .ok (.bipush 108, 2) := by decide +kernel
theorem dX12_isToll_7 : decode cX12_isToll 7 = .ok (.bipush 108, 2) := by decide +kernel
theorem dX12_isToll_9 : decode cX12_isToll 9 = .ok (.iconst 0, 1) := by decide +kernel
theorem dX12_isToll_10 : decode cX12_isToll 10 = .ok (.iconst 0, 1) := by decide +kernel
theorem dX12_isToll_11 : decode cX12_isToll 11 = .ok (.invokestatic 137, 3) := by decide +kernel
theorem dX12_isToll_14 : decode cX12_isToll 14 = .ok (.invokevirtual 141, 3) := by decide +kernel
theorem dX12_isToll_17 : decode cX12_isToll 17 = .ok (.ireturn, 1) := by decide +kernel
def F_X12_isToll (w : Nat) (M : z_Mem) : Option (Bool × z_Mem) :=
  (F_X12_spelled w M (116 : Int32) (111 : Int32) (108 : Int32) (108 : Int32) (0 : Int32) (0 : Int32)).bind fun q1 =>
  (F_X12_isWord w q1.2 q1.1).bind fun q3 =>
  some (q3.1, q3.2)
set_option maxHeartbeats 4000000 in
theorem A_X12_isToll {w : Nat} {M : z_Mem} {r : Bool} {M' : z_Mem} {Q : Option Value → z_Mem → Prop} (h : F_X12_isToll w M = some (r, M')) (hq : Q (some (.int (z_tb r))) M') : z_Cl 1 mX12_isToll [.ref 139] M Q := by
  refine g_in (ls := [some (.ref 139)]) rfl ?_
  unfold F_X12_isToll at h
  refine g_aload_n dX12_isToll_0 rfl rfl ?_
  refine g_bipush (v := (116 : Int32)) dX12_isToll_1 (by decide) ?_
  refine g_bipush (v := (111 : Int32)) dX12_isToll_3 (by decide) ?_
  refine g_bipush (v := (108 : Int32)) dX12_isToll_5 (by decide) ?_
  refine g_bipush (v := (108 : Int32)) dX12_isToll_7 (by decide) ?_
  refine g_iconst (v := (0 : Int32)) dX12_isToll_9 (by decide) ?_
  refine g_iconst (v := (0 : Int32)) dX12_isToll_10 (by decide) ?_
  obtain ⟨q1, e2, h⟩ := z_bd h
  refine g_callS (as := [.int (116 : Int32), .int (111 : Int32), .int (108 : Int32), .int (108 : Int32), .int (0 : Int32), .int (0 : Int32)]) (rest := [.ref 139]) (c := mX12_spelled) (k1 := 0) dX12_isToll_11 rfl rfl rfl rfl rfl (Nat.le_of_ble_eq_true rfl) (Nat.le_of_ble_eq_true rfl) (by decide) ?_
  refine A_X12_spelled e2 ?_
  show z_G none 1 mX12_isToll 14 [some (.ref 139)] [.long q1.1, .ref 139] q1.2 Q
  obtain ⟨q3, e4, h⟩ := z_bd h
  refine g_callV (a := 137) (as := [.long q1.1]) (rest := []) (c := mX12_isWord) (k1 := 0) dX12_isToll_14 rfl rfl rfl sh_137 rfl rfl (Nat.le_of_ble_eq_true rfl) (Nat.le_of_ble_eq_true rfl) (by decide) ?_
  refine A_X12_isWord e4 ?_
  show z_G none 1 mX12_isToll 17 [some (.ref 139)] [.int (z_tb q3.1)] q3.2 Q
  cases h
  exact g_iret dX12_isToll_17 rfl nb_tb hq
theorem dX12_isWar_0 : decode cX12_isWar 0 = .ok (.aload_n 0, 1) := by decide +kernel
theorem dX12_isWar_1 : decode cX12_isWar 1 = .ok (.bipush 119, 2) := by decide +kernel
theorem dX12_isWar_3 : decode cX12_isWar 3 = .ok (.bipush 97, 2) := by decide +kernel
theorem dX12_isWar_5 : decode cX12_isWar 5 = .ok (.bipush 114, 2) := by decide +kernel
theorem dX12_isWar_7 : decode cX12_isWar 7 = .ok (.iconst 0, 1) := by decide +kernel
theorem dX12_isWar_8 : decode cX12_isWar 8 = .ok (.iconst 0, 1) := by decide +kernel
theorem dX12_isWar_9 : decode cX12_isWar 9 = .ok (.iconst 0, 1) := by decide +kernel
theorem dX12_isWar_10 : decode cX12_isWar 10 = .ok (.invokestatic 137, 3) := by decide +kernel
theorem dX12_isWar_13 : decode cX12_isWar 13 = .ok (.invokevirtual 141, 3) := by decide +kernel
theorem dX12_isWar_16 : decode cX12_isWar 16 = .ok (.ireturn, 1) := by decide +kernel
def F_X12_isWar (w : Nat) (M : z_Mem) : Option (Bool × z_Mem) :=
  (F_X12_spelled w M (119 : Int32) (97 : Int32) (114 : Int32) (0 : Int32) (0 : Int32) (0 : Int32)).bind fun q1 =>
  (F_X12_isWord w q1.2 q1.1).bind fun q3 =>
  some (q3.1, q3.2)
set_option maxHeartbeats 4000000 in
theorem A_X12_isWar {w : Nat} {M : z_Mem} {r : Bool} {M' : z_Mem} {Q : Option Value → z_Mem → Prop} (h : F_X12_isWar w M = some (r, M')) (hq : Q (some (.int (z_tb r))) M') : z_Cl 1 mX12_isWar [.ref 139] M Q := by
  refine g_in (ls := [some (.ref 139)]) rfl ?_
  unfold F_X12_isWar at h
  refine g_aload_n dX12_isWar_0 rfl rfl ?_
  refine g_bipush (v := (119 : Int32)) dX12_isWar_1 (by decide) ?_
  refine g_bipush (v := (97 : Int32)) dX12_isWar_3 (by decide) ?_
  refine g_bipush (v := (114 : Int32)) dX12_isWar_5 (by decide) ?_
  refine g_iconst (v := (0 : Int32)) dX12_isWar_7 (by decide) ?_
  refine g_iconst (v := (0 : Int32)) dX12_isWar_8 (by decide) ?_
  refine g_iconst (v := (0 : Int32)) dX12_isWar_9 (by decide) ?_
  obtain ⟨q1, e2, h⟩ := z_bd h
  refine g_callS (as := [.int (119 : Int32), .int (97 : Int32), .int (114 : Int32), .int (0 : Int32), .int (0 : Int32), .int (0 : Int32)]) (rest := [.ref 139]) (c := mX12_spelled) (k1 := 0) dX12_isWar_10 rfl rfl rfl rfl rfl (Nat.le_of_ble_eq_true rfl) (Nat.le_of_ble_eq_true rfl) (by decide) ?_
  refine A_X12_spelled e2 ?_
  show z_G none 1 mX12_isWar 13 [some (.ref 139)] [.long q1.1, .ref 139] q1.2 Q
  obtain ⟨q3, e4, h⟩ := z_bd h
  refine g_callV (a := 137) (as := [.long q1.1]) (rest := []) (c := mX12_isWord) (k1 := 0) dX12_isWar_13 rfl rfl rfl sh_137 rfl rfl (Nat.le_of_ble_eq_true rfl) (Nat.le_of_ble_eq_true rfl) (by decide) ?_
  refine A_X12_isWord e4 ?_
  show z_G none 1 mX12_isWar 16 [some (.ref 139)] [.int (z_tb q3.1)] q3.2 Q
  cases h
  exact g_iret dX12_isWar_16 rfl nb_tb hq
theorem dX12_isLies_0 : decode cX12_isLies 0 = .ok (.aload_n 0, 1) := by decide +kernel
theorem dX12_isLies_1 : decode cX12_isLies 1 = .ok (.bipush 108, 2) := by decide +kernel
theorem dX12_isLies_3 : decode cX12_isLies 3 = .ok (.bipush 105, 2) := by decide +kernel
theorem dX12_isLies_5 : decode cX12_isLies 5 = .ok (.bipush 101, 2) := by decide +kernel
theorem dX12_isLies_7 : decode cX12_isLies 7 = .ok (.bipush 115, 2) := by decide +kernel
theorem dX12_isLies_9 : decode cX12_isLies 9 = .ok (.iconst 0, 1) := by decide +kernel
theorem dX12_isLies_10 : decode cX12_isLies 10 = .ok (.iconst 0, 1) := by decide +kernel
theorem dX12_isLies_11 : decode cX12_isLies 11 = .ok (.invokestatic 137, 3) := by decide +kernel
theorem dX12_isLies_14 : decode cX12_isLies 14 = .ok (.invokevirtual 141, 3) := by decide +kernel
theorem dX12_isLies_17 : decode cX12_isLies 17 = .ok (.ireturn, 1) := by decide +kernel
def F_X12_isLies (w : Nat) (M : z_Mem) : Option (Bool × z_Mem) :=
  (F_X12_spelled w M (108 : Int32) (105 : Int32) (101 : Int32) (115 : Int32) (0 : Int32) (0 : Int32)).bind fun q1 =>
  (F_X12_isWord w q1.2 q1.1).bind fun q3 =>
  some (q3.1, q3.2)
set_option maxHeartbeats 4000000 in
theorem A_X12_isLies {w : Nat} {M : z_Mem} {r : Bool} {M' : z_Mem} {Q : Option Value → z_Mem → Prop} (h : F_X12_isLies w M = some (r, M')) (hq : Q (some (.int (z_tb r))) M') : z_Cl 1 mX12_isLies [.ref 139] M Q := by
  refine g_in (ls := [some (.ref 139)]) rfl ?_
  unfold F_X12_isLies at h
  refine g_aload_n dX12_isLies_0 rfl rfl ?_
  refine g_bipush (v := (108 : Int32)) dX12_isLies_1 (by decide) ?_
  refine g_bipush (v := (105 : Int32)) dX12_isLies_3 (by decide) ?_
  refine g_bipush (v := (101 : Int32)) dX12_isLies_5 (by decide) ?_
  refine g_bipush (v := (115 : Int32)) dX12_isLies_7 (by decide) ?_
  refine g_iconst (v := (0 : Int32)) dX12_isLies_9 (by decide) ?_
  refine g_iconst (v := (0 : Int32)) dX12_isLies_10 (by decide) ?_
  obtain ⟨q1, e2, h⟩ := z_bd h
  refine g_callS (as := [.int (108 : Int32), .int (105 : Int32), .int (101 : Int32), .int (115 : Int32), .int (0 : Int32), .int (0 : Int32)]) (rest := [.ref 139]) (c := mX12_spelled) (k1 := 0) dX12_isLies_11 rfl rfl rfl rfl rfl (Nat.le_of_ble_eq_true rfl) (Nat.le_of_ble_eq_true rfl) (by decide) ?_
  refine A_X12_spelled e2 ?_
  show z_G none 1 mX12_isLies 14 [some (.ref 139)] [.long q1.1, .ref 139] q1.2 Q
  obtain ⟨q3, e4, h⟩ := z_bd h
  refine g_callV (a := 137) (as := [.long q1.1]) (rest := []) (c := mX12_isWord) (k1 := 0) dX12_isLies_14 rfl rfl rfl sh_137 rfl rfl (Nat.le_of_ble_eq_true rfl) (Nat.le_of_ble_eq_true rfl) (by decide) ?_
  refine A_X12_isWord e4 ?_
  show z_G none 1 mX12_isLies 17 [some (.ref 139)] [.int (z_tb q3.1)] q3.2 Q
  cases h
  exact g_iret dX12_isLies_17 rfl nb_tb hq
theorem dX12_isChest_0 : decode cX12_isChest 0 = .ok (.aload_n 0, 1) := by decide +kernel
theorem dX12_isChest_1 : decode cX12_isChest 1 = .ok (.bipush 99, 2) := by decide +kernel
theorem dX12_isChest_3 : decode cX12_isChest 3 = .ok (.bipush 104, 2) := by decide +kernel
theorem dX12_isChest_5 : decode cX12_isChest 5 = .ok (.bipush 101, 2) := by decide +kernel
theorem dX12_isChest_7 : decode cX12_isChest 7 = .ok (.bipush 115, 2) := by decide +kernel
theorem dX12_isChest_9 : decode cX12_isChest 9 = .ok (.bipush 116, 2) := by decide +kernel
theorem dX12_isChest_11 : decode cX12_isChest 11 = .ok (.iconst 0, 1) := by decide +kernel
theorem dX12_isChest_12 : decode cX12_isChest 12 = .ok (.invokestatic 137, 3) := by decide +kernel
theorem dX12_isChest_15 : decode cX12_isChest 15 = .ok (.invokevirtual 141, 3) := by decide +kernel
theorem dX12_isChest_18 : decode cX12_isChest 18 = .ok (.ireturn, 1) := by decide +kernel
def F_X12_isChest (w : Nat) (M : z_Mem) : Option (Bool × z_Mem) :=
  (F_X12_spelled w M (99 : Int32) (104 : Int32) (101 : Int32) (115 : Int32) (116 : Int32) (0 : Int32)).bind fun q1 =>
  (F_X12_isWord w q1.2 q1.1).bind fun q3 =>
  some (q3.1, q3.2)
set_option maxHeartbeats 4000000 in
theorem A_X12_isChest {w : Nat} {M : z_Mem} {r : Bool} {M' : z_Mem} {Q : Option Value → z_Mem → Prop} (h : F_X12_isChest w M = some (r, M')) (hq : Q (some (.int (z_tb r))) M') : z_Cl 1 mX12_isChest [.ref 139] M Q := by
  refine g_in (ls := [some (.ref 139)]) rfl ?_
  unfold F_X12_isChest at h
  refine g_aload_n dX12_isChest_0 rfl rfl ?_
  refine g_bipush (v := (99 : Int32)) dX12_isChest_1 (by decide) ?_
  refine g_bipush (v := (104 : Int32)) dX12_isChest_3 (by decide) ?_
  refine g_bipush (v := (101 : Int32)) dX12_isChest_5 (by decide) ?_
  refine g_bipush (v := (115 : Int32)) dX12_isChest_7 (by decide) ?_
  refine g_bipush (v := (116 : Int32)) dX12_isChest_9 (by decide) ?_
  refine g_iconst (v := (0 : Int32)) dX12_isChest_11 (by decide) ?_
  obtain ⟨q1, e2, h⟩ := z_bd h
  refine g_callS (as := [.int (99 : Int32), .int (104 : Int32), .int (101 : Int32), .int (115 : Int32), .int (116 : Int32), .int (0 : Int32)]) (rest := [.ref 139]) (c := mX12_spelled) (k1 := 0) dX12_isChest_12 rfl rfl rfl rfl rfl (Nat.le_of_ble_eq_true rfl) (Nat.le_of_ble_eq_true rfl) (by decide) ?_
  refine A_X12_spelled e2 ?_
  show z_G none 1 mX12_isChest 15 [some (.ref 139)] [.long q1.1, .ref 139] q1.2 Q
  obtain ⟨q3, e4, h⟩ := z_bd h
  refine g_callV (a := 137) (as := [.long q1.1]) (rest := []) (c := mX12_isWord) (k1 := 0) dX12_isChest_15 rfl rfl rfl sh_137 rfl rfl (Nat.le_of_ble_eq_true rfl) (Nat.le_of_ble_eq_true rfl) (by decide) ?_
  refine A_X12_isWord e4 ?_
  show z_G none 1 mX12_isChest 18 [some (.ref 139)] [.int (z_tb q3.1)] q3.2 Q
  cases h
  exact g_iret dX12_isChest_18 rfl nb_tb hq
theorem dX12_isRight_0 : decode cX12_isRight 0 = .ok (.aload_n 0, 1) := by decide +kernel
theorem dX12_isRight_1 : decode cX12_isRight 1 = .ok (.bipush 114, 2) := by decide +kernel
theorem dX12_isRight_3 : decode cX12_isRight 3 = .ok (.bipush 105, 2) := by decide +kernel
theorem dX12_isRight_5 : decode cX12_isRight 5 = .ok (.bipush 103, 2) := by decide +kernel
theorem dX12_isRight_7 : decode cX12_isRight 7 = .ok (.bipush 104, 2) := by decide +kernel
theorem dX12_isRight_9 : decode cX12_isRight 9 = .ok (.bipush 116, 2) := by decide +kernel
theorem dX12_isRight_11 : decode cX12_isRight 11 = .ok (.iconst 0, 1) := by decide +kernel
theorem dX12_isRight_12 : decode cX12_isRight 12 = .ok (.invokestatic 137, 3) := by decide +kernel
theorem dX12_isRight_15 : decode cX12_isRight 15 = .ok (.invokevirtual 141, 3) := by decide +kernel
theorem dX12_isRight_18 : decode cX12_isRight 18 = .ok (.ireturn, 1) := by decide +kernel
def F_X12_isRight (w : Nat) (M : z_Mem) : Option (Bool × z_Mem) :=
  (F_X12_spelled w M (114 : Int32) (105 : Int32) (103 : Int32) (104 : Int32) (116 : Int32) (0 : Int32)).bind fun q1 =>
  (F_X12_isWord w q1.2 q1.1).bind fun q3 =>
  some (q3.1, q3.2)
set_option maxHeartbeats 4000000 in
theorem A_X12_isRight {w : Nat} {M : z_Mem} {r : Bool} {M' : z_Mem} {Q : Option Value → z_Mem → Prop} (h : F_X12_isRight w M = some (r, M')) (hq : Q (some (.int (z_tb r))) M') : z_Cl 1 mX12_isRight [.ref 139] M Q := by
  refine g_in (ls := [some (.ref 139)]) rfl ?_
  unfold F_X12_isRight at h
  refine g_aload_n dX12_isRight_0 rfl rfl ?_
  refine g_bipush (v := (114 : Int32)) dX12_isRight_1 (by decide) ?_
  refine g_bipush (v := (105 : Int32)) dX12_isRight_3 (by decide) ?_
  refine g_bipush (v := (103 : Int32)) dX12_isRight_5 (by decide) ?_
  refine g_bipush (v := (104 : Int32)) dX12_isRight_7 (by decide) ?_
  refine g_bipush (v := (116 : Int32)) dX12_isRight_9 (by decide) ?_
  refine g_iconst (v := (0 : Int32)) dX12_isRight_11 (by decide) ?_
  obtain ⟨q1, e2, h⟩ := z_bd h
  refine g_callS (as := [.int (114 : Int32), .int (105 : Int32), .int (103 : Int32), .int (104 : Int32), .int (116 : Int32), .int (0 : Int32)]) (rest := [.ref 139]) (c := mX12_spelled) (k1 := 0) dX12_isRight_12 rfl rfl rfl rfl rfl (Nat.le_of_ble_eq_true rfl) (Nat.le_of_ble_eq_true rfl) (by decide) ?_
  refine A_X12_spelled e2 ?_
  show z_G none 1 mX12_isRight 15 [some (.ref 139)] [.long q1.1, .ref 139] q1.2 Q
  obtain ⟨q3, e4, h⟩ := z_bd h
  refine g_callV (a := 137) (as := [.long q1.1]) (rest := []) (c := mX12_isWord) (k1 := 0) dX12_isRight_15 rfl rfl rfl sh_137 rfl rfl (Nat.le_of_ble_eq_true rfl) (Nat.le_of_ble_eq_true rfl) (by decide) ?_
  refine A_X12_isWord e4 ?_
  show z_G none 1 mX12_isRight 18 [some (.ref 139)] [.int (z_tb q3.1)] q3.2 Q
  cases h
  exact g_iret dX12_isRight_18 rfl nb_tb hq
theorem dX12_isWorth_0 : decode cX12_isWorth 0 = .ok (.aload_n 0, 1) := by decide +kernel
theorem dX12_isWorth_1 : decode cX12_isWorth 1 = .ok (.bipush 119, 2) := by decide +kernel
theorem dX12_isWorth_3 : decode cX12_isWorth 3 = .ok (.bipush 111, 2) := by decide +kernel
theorem dX12_isWorth_5 : decode cX12_isWorth 5 = .ok (.bipush 114, 2) := by decide +kernel
theorem dX12_isWorth_7 : decode cX12_isWorth 7 = .ok (.bipush 116, 2) := by decide +kernel
theorem dX12_isWorth_9 : decode cX12_isWorth 9 = .ok (.bipush 104, 2) := by decide +kernel
theorem dX12_isWorth_11 : decode cX12_isWorth 11 = .ok (.iconst 0, 1) := by decide +kernel
theorem dX12_isWorth_12 : decode cX12_isWorth 12 = .ok (.invokestatic 137, 3) := by decide +kernel
theorem dX12_isWorth_15 : decode cX12_isWorth 15 = .ok (.invokevirtual 141, 3) := by decide +kernel
theorem dX12_isWorth_18 : decode cX12_isWorth 18 = .ok (.ireturn, 1) := by decide +kernel
def F_X12_isWorth (w : Nat) (M : z_Mem) : Option (Bool × z_Mem) :=
  (F_X12_spelled w M (119 : Int32) (111 : Int32) (114 : Int32) (116 : Int32) (104 : Int32) (0 : Int32)).bind fun q1 =>
  (F_X12_isWord w q1.2 q1.1).bind fun q3 =>
  some (q3.1, q3.2)
set_option maxHeartbeats 4000000 in
theorem A_X12_isWorth {w : Nat} {M : z_Mem} {r : Bool} {M' : z_Mem} {Q : Option Value → z_Mem → Prop} (h : F_X12_isWorth w M = some (r, M')) (hq : Q (some (.int (z_tb r))) M') : z_Cl 1 mX12_isWorth [.ref 139] M Q := by
  refine g_in (ls := [some (.ref 139)]) rfl ?_
  unfold F_X12_isWorth at h
  refine g_aload_n dX12_isWorth_0 rfl rfl ?_
  refine g_bipush (v := (119 : Int32)) dX12_isWorth_1 (by decide) ?_
  refine g_bipush (v := (111 : Int32)) dX12_isWorth_3 (by decide) ?_
  refine g_bipush (v := (114 : Int32)) dX12_isWorth_5 (by decide) ?_
  refine g_bipush (v := (116 : Int32)) dX12_isWorth_7 (by decide) ?_
  refine g_bipush (v := (104 : Int32)) dX12_isWorth_9 (by decide) ?_
  refine g_iconst (v := (0 : Int32)) dX12_isWorth_11 (by decide) ?_
  obtain ⟨q1, e2, h⟩ := z_bd h
  refine g_callS (as := [.int (119 : Int32), .int (111 : Int32), .int (114 : Int32), .int (116 : Int32), .int (104 : Int32), .int (0 : Int32)]) (rest := [.ref 139]) (c := mX12_spelled) (k1 := 0) dX12_isWorth_12 rfl rfl rfl rfl rfl (Nat.le_of_ble_eq_true rfl) (Nat.le_of_ble_eq_true rfl) (by decide) ?_
  refine A_X12_spelled e2 ?_
  show z_G none 1 mX12_isWorth 15 [some (.ref 139)] [.long q1.1, .ref 139] q1.2 Q
  obtain ⟨q3, e4, h⟩ := z_bd h
  refine g_callV (a := 137) (as := [.long q1.1]) (rest := []) (c := mX12_isWord) (k1 := 0) dX12_isWorth_15 rfl rfl rfl sh_137 rfl rfl (Nat.le_of_ble_eq_true rfl) (Nat.le_of_ble_eq_true rfl) (by decide) ?_
  refine A_X12_isWord e4 ?_
  show z_G none 1 mX12_isWorth 18 [some (.ref 139)] [.int (z_tb q3.1)] q3.2 Q
  cases h
  exact g_iret dX12_isWorth_18 rfl nb_tb hq
theorem dX12_isInWord_0 : decode cX12_isInWord 0 = .ok (.aload_n 0, 1) := by decide +kernel
theorem dX12_isInWord_1 : decode cX12_isInWord 1 = .ok (.bipush 105, 2) := by decide +kernel
theorem dX12_isInWord_3 : decode cX12_isInWord 3 = .ok (.bipush 110, 2) := by decide +kernel
theorem dX12_isInWord_5 : decode cX12_isInWord 5 = .ok (.iconst 0, 1) := by decide +kernel
theorem dX12_isInWord_6 : decode cX12_isInWord 6 = .ok (.iconst 0, 1) := by decide +kernel
theorem dX12_isInWord_7 : decode cX12_isInWord 7 = .ok (.iconst 0, 1) := by decide +kernel
theorem dX12_isInWord_8 : decode cX12_isInWord 8 = .ok (.iconst 0, 1) := by decide +kernel
theorem dX12_isInWord_9 : decode cX12_isInWord 9 = .ok (.invokestatic 137, 3) := by decide +kernel
theorem dX12_isInWord_12 : decode cX12_isInWord 12 = .ok (.invokevirtual 141, 3) := by decide +kernel
theorem dX12_isInWord_15 : decode cX12_isInWord 15 = .ok (.ireturn, 1) := by decide +kernel
def F_X12_isInWord (w : Nat) (M : z_Mem) : Option (Bool × z_Mem) :=
  (F_X12_spelled w M (105 : Int32) (110 : Int32) (0 : Int32) (0 : Int32) (0 : Int32) (0 : Int32)).bind fun q1 =>
  (F_X12_isWord w q1.2 q1.1).bind fun q3 =>
  some (q3.1, q3.2)
set_option maxHeartbeats 4000000 in
theorem A_X12_isInWord {w : Nat} {M : z_Mem} {r : Bool} {M' : z_Mem} {Q : Option Value → z_Mem → Prop} (h : F_X12_isInWord w M = some (r, M')) (hq : Q (some (.int (z_tb r))) M') : z_Cl 1 mX12_isInWord [.ref 139] M Q := by
  refine g_in (ls := [some (.ref 139)]) rfl ?_
  unfold F_X12_isInWord at h
  refine g_aload_n dX12_isInWord_0 rfl rfl ?_
  refine g_bipush (v := (105 : Int32)) dX12_isInWord_1 (by decide) ?_
  refine g_bipush (v := (110 : Int32)) dX12_isInWord_3 (by decide) ?_
  refine g_iconst (v := (0 : Int32)) dX12_isInWord_5 (by decide) ?_
  refine g_iconst (v := (0 : Int32)) dX12_isInWord_6 (by decide) ?_
  refine g_iconst (v := (0 : Int32)) dX12_isInWord_7 (by decide) ?_
  refine g_iconst (v := (0 : Int32)) dX12_isInWord_8 (by decide) ?_
  obtain ⟨q1, e2, h⟩ := z_bd h
  refine g_callS (as := [.int (105 : Int32), .int (110 : Int32), .int (0 : Int32), .int (0 : Int32), .int (0 : Int32), .int (0 : Int32)]) (rest := [.ref 139]) (c := mX12_spelled) (k1 := 0) dX12_isInWord_9 rfl rfl rfl rfl rfl (Nat.le_of_ble_eq_true rfl) (Nat.le_of_ble_eq_true rfl) (by decide) ?_
  refine A_X12_spelled e2 ?_
  show z_G none 1 mX12_isInWord 12 [some (.ref 139)] [.long q1.1, .ref 139] q1.2 Q
  obtain ⟨q3, e4, h⟩ := z_bd h
  refine g_callV (a := 137) (as := [.long q1.1]) (rest := []) (c := mX12_isWord) (k1 := 0) dX12_isInWord_12 rfl rfl rfl sh_137 rfl rfl (Nat.le_of_ble_eq_true rfl) (Nat.le_of_ble_eq_true rfl) (by decide) ?_
  refine A_X12_isWord e4 ?_
  show z_G none 1 mX12_isInWord 15 [some (.ref 139)] [.int (z_tb q3.1)] q3.2 Q
  cases h
  exact g_iret dX12_isInWord_15 rfl nb_tb hq
theorem dX12_isDebt_0 : decode cX12_isDebt 0 = .ok (.aload_n 0, 1) := by decide +kernel
theorem dX12_isDebt_1 : decode cX12_isDebt 1 = .ok (.bipush 100, 2) := by decide +kernel
theorem dX12_isDebt_3 : decode cX12_isDebt 3 = .ok (.bipush 101, 2) := by decide +kernel
theorem dX12_isDebt_5 : decode cX12_isDebt 5 = .ok (.bipush 98, 2) := by decide +kernel
theorem dX12_isDebt_7 : decode cX12_isDebt 7 = .ok (.bipush 116, 2) := by decide +kernel
theorem dX12_isDebt_9 : decode cX12_isDebt 9 = .ok (.iconst 0, 1) := by decide +kernel
theorem dX12_isDebt_10 : decode cX12_isDebt 10 = .ok (.iconst 0, 1) := by decide +kernel
theorem dX12_isDebt_11 : decode cX12_isDebt 11 = .ok (.invokestatic 137, 3) := by decide +kernel
theorem dX12_isDebt_14 : decode cX12_isDebt 14 = .ok (.invokevirtual 141, 3) := by decide +kernel
theorem dX12_isDebt_17 : decode cX12_isDebt 17 = .ok (.ireturn, 1) := by decide +kernel
def F_X12_isDebt (w : Nat) (M : z_Mem) : Option (Bool × z_Mem) :=
  (F_X12_spelled w M (100 : Int32) (101 : Int32) (98 : Int32) (116 : Int32) (0 : Int32) (0 : Int32)).bind fun q1 =>
  (F_X12_isWord w q1.2 q1.1).bind fun q3 =>
  some (q3.1, q3.2)
set_option maxHeartbeats 4000000 in
theorem A_X12_isDebt {w : Nat} {M : z_Mem} {r : Bool} {M' : z_Mem} {Q : Option Value → z_Mem → Prop} (h : F_X12_isDebt w M = some (r, M')) (hq : Q (some (.int (z_tb r))) M') : z_Cl 1 mX12_isDebt [.ref 139] M Q := by
  refine g_in (ls := [some (.ref 139)]) rfl ?_
  unfold F_X12_isDebt at h
  refine g_aload_n dX12_isDebt_0 rfl rfl ?_
  refine g_bipush (v := (100 : Int32)) dX12_isDebt_1 (by decide) ?_
  refine g_bipush (v := (101 : Int32)) dX12_isDebt_3 (by decide) ?_
  refine g_bipush (v := (98 : Int32)) dX12_isDebt_5 (by decide) ?_
  refine g_bipush (v := (116 : Int32)) dX12_isDebt_7 (by decide) ?_
  refine g_iconst (v := (0 : Int32)) dX12_isDebt_9 (by decide) ?_
  refine g_iconst (v := (0 : Int32)) dX12_isDebt_10 (by decide) ?_
  obtain ⟨q1, e2, h⟩ := z_bd h
  refine g_callS (as := [.int (100 : Int32), .int (101 : Int32), .int (98 : Int32), .int (116 : Int32), .int (0 : Int32), .int (0 : Int32)]) (rest := [.ref 139]) (c := mX12_spelled) (k1 := 0) dX12_isDebt_11 rfl rfl rfl rfl rfl (Nat.le_of_ble_eq_true rfl) (Nat.le_of_ble_eq_true rfl) (by decide) ?_
  refine A_X12_spelled e2 ?_
  show z_G none 1 mX12_isDebt 14 [some (.ref 139)] [.long q1.1, .ref 139] q1.2 Q
  obtain ⟨q3, e4, h⟩ := z_bd h
  refine g_callV (a := 137) (as := [.long q1.1]) (rest := []) (c := mX12_isWord) (k1 := 0) dX12_isDebt_14 rfl rfl rfl sh_137 rfl rfl (Nat.le_of_ble_eq_true rfl) (Nat.le_of_ble_eq_true rfl) (by decide) ?_
  refine A_X12_isWord e4 ?_
  show z_G none 1 mX12_isDebt 17 [some (.ref 139)] [.int (z_tb q3.1)] q3.2 Q
  cases h
  exact g_iret dX12_isDebt_17 rfl nb_tb hq
theorem dX12_isSum_0 : decode cX12_isSum 0 = .ok (.aload_n 0, 1) := by decide +kernel
theorem dX12_isSum_1 : decode cX12_isSum 1 = .ok (.bipush 115, 2) := by decide +kernel
theorem dX12_isSum_3 : decode cX12_isSum 3 = .ok (.bipush 117, 2) := by decide +kernel
theorem dX12_isSum_5 : decode cX12_isSum 5 = .ok (.bipush 109, 2) := by decide +kernel
theorem dX12_isSum_7 : decode cX12_isSum 7 = .ok (.iconst 0, 1) := by decide +kernel
theorem dX12_isSum_8 : decode cX12_isSum 8 = .ok (.iconst 0, 1) := by decide +kernel
theorem dX12_isSum_9 : decode cX12_isSum 9 = .ok (.iconst 0, 1) := by decide +kernel
theorem dX12_isSum_10 : decode cX12_isSum 10 = .ok (.invokestatic 137, 3) := by decide +kernel
theorem dX12_isSum_13 : decode cX12_isSum 13 = .ok (.invokevirtual 141, 3) := by decide +kernel
theorem dX12_isSum_16 : decode cX12_isSum 16 = .ok (.ireturn, 1) := by decide +kernel
def F_X12_isSum (w : Nat) (M : z_Mem) : Option (Bool × z_Mem) :=
  (F_X12_spelled w M (115 : Int32) (117 : Int32) (109 : Int32) (0 : Int32) (0 : Int32) (0 : Int32)).bind fun q1 =>
  (F_X12_isWord w q1.2 q1.1).bind fun q3 =>
  some (q3.1, q3.2)
set_option maxHeartbeats 4000000 in
theorem A_X12_isSum {w : Nat} {M : z_Mem} {r : Bool} {M' : z_Mem} {Q : Option Value → z_Mem → Prop} (h : F_X12_isSum w M = some (r, M')) (hq : Q (some (.int (z_tb r))) M') : z_Cl 1 mX12_isSum [.ref 139] M Q := by
  refine g_in (ls := [some (.ref 139)]) rfl ?_
  unfold F_X12_isSum at h
  refine g_aload_n dX12_isSum_0 rfl rfl ?_
  refine g_bipush (v := (115 : Int32)) dX12_isSum_1 (by decide) ?_
  refine g_bipush (v := (117 : Int32)) dX12_isSum_3 (by decide) ?_
  refine g_bipush (v := (109 : Int32)) dX12_isSum_5 (by decide) ?_
  refine g_iconst (v := (0 : Int32)) dX12_isSum_7 (by decide) ?_
  refine g_iconst (v := (0 : Int32)) dX12_isSum_8 (by decide) ?_
  refine g_iconst (v := (0 : Int32)) dX12_isSum_9 (by decide) ?_
  obtain ⟨q1, e2, h⟩ := z_bd h
  refine g_callS (as := [.int (115 : Int32), .int (117 : Int32), .int (109 : Int32), .int (0 : Int32), .int (0 : Int32), .int (0 : Int32)]) (rest := [.ref 139]) (c := mX12_spelled) (k1 := 0) dX12_isSum_10 rfl rfl rfl rfl rfl (Nat.le_of_ble_eq_true rfl) (Nat.le_of_ble_eq_true rfl) (by decide) ?_
  refine A_X12_spelled e2 ?_
  show z_G none 1 mX12_isSum 13 [some (.ref 139)] [.long q1.1, .ref 139] q1.2 Q
  obtain ⟨q3, e4, h⟩ := z_bd h
  refine g_callV (a := 137) (as := [.long q1.1]) (rest := []) (c := mX12_isWord) (k1 := 0) dX12_isSum_13 rfl rfl rfl sh_137 rfl rfl (Nat.le_of_ble_eq_true rfl) (Nat.le_of_ble_eq_true rfl) (by decide) ?_
  refine A_X12_isWord e4 ?_
  show z_G none 1 mX12_isSum 16 [some (.ref 139)] [.int (z_tb q3.1)] q3.2 Q
  cases h
  exact g_iret dX12_isSum_16 rfl nb_tb hq
theorem dX12_isLeft_0 : decode cX12_isLeft 0 = .ok (.aload_n 0, 1) := by decide +kernel
theorem dX12_isLeft_1 : decode cX12_isLeft 1 = .ok (.bipush 108, 2) := by decide +kernel
theorem dX12_isLeft_3 : decode cX12_isLeft 3 = .ok (.bipush 101, 2) := by decide +kernel
theorem dX12_isLeft_5 : decode cX12_isLeft 5 = .ok (.bipush 102, 2) := by decide +kernel
theorem dX12_isLeft_7 : decode cX12_isLeft 7 = .ok (.bipush 116, 2) := by decide +kernel
theorem dX12_isLeft_9 : decode cX12_isLeft 9 = .ok (.iconst 0, 1) := by decide +kernel
theorem dX12_isLeft_10 : decode cX12_isLeft 10 = .ok (.iconst 0, 1) := by decide +kernel
theorem dX12_isLeft_11 : decode cX12_isLeft 11 = .ok (.invokestatic 137, 3) := by decide +kernel
theorem dX12_isLeft_14 : decode cX12_isLeft 14 = .ok (.invokevirtual 141, 3) := by decide +kernel
theorem dX12_isLeft_17 : decode cX12_isLeft 17 = .ok (.ireturn, 1) := by decide +kernel
def F_X12_isLeft (w : Nat) (M : z_Mem) : Option (Bool × z_Mem) :=
  (F_X12_spelled w M (108 : Int32) (101 : Int32) (102 : Int32) (116 : Int32) (0 : Int32) (0 : Int32)).bind fun q1 =>
  (F_X12_isWord w q1.2 q1.1).bind fun q3 =>
  some (q3.1, q3.2)
set_option maxHeartbeats 4000000 in
theorem A_X12_isLeft {w : Nat} {M : z_Mem} {r : Bool} {M' : z_Mem} {Q : Option Value → z_Mem → Prop} (h : F_X12_isLeft w M = some (r, M')) (hq : Q (some (.int (z_tb r))) M') : z_Cl 1 mX12_isLeft [.ref 139] M Q := by
  refine g_in (ls := [some (.ref 139)]) rfl ?_
  unfold F_X12_isLeft at h
  refine g_aload_n dX12_isLeft_0 rfl rfl ?_
  refine g_bipush (v := (108 : Int32)) dX12_isLeft_1 (by decide) ?_
  refine g_bipush (v := (101 : Int32)) dX12_isLeft_3 (by decide) ?_
  refine g_bipush (v := (102 : Int32)) dX12_isLeft_5 (by decide) ?_
  refine g_bipush (v := (116 : Int32)) dX12_isLeft_7 (by decide) ?_
  refine g_iconst (v := (0 : Int32)) dX12_isLeft_9 (by decide) ?_
  refine g_iconst (v := (0 : Int32)) dX12_isLeft_10 (by decide) ?_
  obtain ⟨q1, e2, h⟩ := z_bd h
  refine g_callS (as := [.int (108 : Int32), .int (101 : Int32), .int (102 : Int32), .int (116 : Int32), .int (0 : Int32), .int (0 : Int32)]) (rest := [.ref 139]) (c := mX12_spelled) (k1 := 0) dX12_isLeft_11 rfl rfl rfl rfl rfl (Nat.le_of_ble_eq_true rfl) (Nat.le_of_ble_eq_true rfl) (by decide) ?_
  refine A_X12_spelled e2 ?_
  show z_G none 1 mX12_isLeft 14 [some (.ref 139)] [.long q1.1, .ref 139] q1.2 Q
  obtain ⟨q3, e4, h⟩ := z_bd h
  refine g_callV (a := 137) (as := [.long q1.1]) (rest := []) (c := mX12_isWord) (k1 := 0) dX12_isLeft_14 rfl rfl rfl sh_137 rfl rfl (Nat.le_of_ble_eq_true rfl) (Nat.le_of_ble_eq_true rfl) (by decide) ?_
  refine A_X12_isWord e4 ?_
  show z_G none 1 mX12_isLeft 17 [some (.ref 139)] [.int (z_tb q3.1)] q3.2 Q
  cases h
  exact g_iret dX12_isLeft_17 rfl nb_tb hq
theorem dX12_isAsk_0 : decode cX12_isAsk 0 = .ok (.aload_n 0, 1) := by decide +kernel
theorem dX12_isAsk_1 : decode cX12_isAsk 1 = .ok (.bipush 97, 2) := by decide +kernel
theorem dX12_isAsk_3 : decode cX12_isAsk 3 = .ok (.bipush 115, 2) := by decide +kernel
theorem dX12_isAsk_5 : decode cX12_isAsk 5 = .ok (.bipush 107, 2) := by decide +kernel
theorem dX12_isAsk_7 : decode cX12_isAsk 7 = .ok (.iconst 0, 1) := by decide +kernel
theorem dX12_isAsk_8 : decode cX12_isAsk 8 = .ok (.iconst 0, 1) := by decide +kernel
theorem dX12_isAsk_9 : decode cX12_isAsk 9 = .ok (.iconst 0, 1) := by decide +kernel
theorem dX12_isAsk_10 : decode cX12_isAsk 10 = .ok (.invokestatic 137, 3) := by decide +kernel
theorem dX12_isAsk_13 : decode cX12_isAsk 13 = .ok (.invokevirtual 141, 3) := by decide +kernel
theorem dX12_isAsk_16 : decode cX12_isAsk 16 = .ok (.ireturn, 1) := by decide +kernel
def F_X12_isAsk (w : Nat) (M : z_Mem) : Option (Bool × z_Mem) :=
  (F_X12_spelled w M (97 : Int32) (115 : Int32) (107 : Int32) (0 : Int32) (0 : Int32) (0 : Int32)).bind fun q1 =>
  (F_X12_isWord w q1.2 q1.1).bind fun q3 =>
  some (q3.1, q3.2)
set_option maxHeartbeats 4000000 in
theorem A_X12_isAsk {w : Nat} {M : z_Mem} {r : Bool} {M' : z_Mem} {Q : Option Value → z_Mem → Prop} (h : F_X12_isAsk w M = some (r, M')) (hq : Q (some (.int (z_tb r))) M') : z_Cl 1 mX12_isAsk [.ref 139] M Q := by
  refine g_in (ls := [some (.ref 139)]) rfl ?_
  unfold F_X12_isAsk at h
  refine g_aload_n dX12_isAsk_0 rfl rfl ?_
  refine g_bipush (v := (97 : Int32)) dX12_isAsk_1 (by decide) ?_
  refine g_bipush (v := (115 : Int32)) dX12_isAsk_3 (by decide) ?_
  refine g_bipush (v := (107 : Int32)) dX12_isAsk_5 (by decide) ?_
  refine g_iconst (v := (0 : Int32)) dX12_isAsk_7 (by decide) ?_
  refine g_iconst (v := (0 : Int32)) dX12_isAsk_8 (by decide) ?_
  refine g_iconst (v := (0 : Int32)) dX12_isAsk_9 (by decide) ?_
  obtain ⟨q1, e2, h⟩ := z_bd h
  refine g_callS (as := [.int (97 : Int32), .int (115 : Int32), .int (107 : Int32), .int (0 : Int32), .int (0 : Int32), .int (0 : Int32)]) (rest := [.ref 139]) (c := mX12_spelled) (k1 := 0) dX12_isAsk_10 rfl rfl rfl rfl rfl (Nat.le_of_ble_eq_true rfl) (Nat.le_of_ble_eq_true rfl) (by decide) ?_
  refine A_X12_spelled e2 ?_
  show z_G none 1 mX12_isAsk 13 [some (.ref 139)] [.long q1.1, .ref 139] q1.2 Q
  obtain ⟨q3, e4, h⟩ := z_bd h
  refine g_callV (a := 137) (as := [.long q1.1]) (rest := []) (c := mX12_isWord) (k1 := 0) dX12_isAsk_13 rfl rfl rfl sh_137 rfl rfl (Nat.le_of_ble_eq_true rfl) (Nat.le_of_ble_eq_true rfl) (by decide) ?_
  refine A_X12_isWord e4 ?_
  show z_G none 1 mX12_isAsk 16 [some (.ref 139)] [.int (z_tb q3.1)] q3.2 Q
  cases h
  exact g_iret dX12_isAsk_16 rfl nb_tb hq
theorem dX12_isClause_0 : decode cX12_isClause 0 = .ok (.aload_n 0, 1) := by decide +kernel
theorem dX12_isClause_1 : decode cX12_isClause 1 = .ok (.bipush 99, 2) := by decide +kernel
theorem dX12_isClause_3 : decode cX12_isClause 3 = .ok (.bipush 108, 2) := by decide +kernel
theorem dX12_isClause_5 : decode cX12_isClause 5 = .ok (.bipush 97, 2) := by decide +kernel
theorem dX12_isClause_7 : decode cX12_isClause 7 = .ok (.bipush 117, 2) := by decide +kernel
theorem dX12_isClause_9 : decode cX12_isClause 9 = .ok (.bipush 115, 2) := by decide +kernel
theorem dX12_isClause_11 : decode cX12_isClause 11 = .ok (.bipush 101, 2) := by decide +kernel
theorem dX12_isClause_13 : decode cX12_isClause 13 = .ok (.invokestatic 137, 3) := by decide +kernel
theorem dX12_isClause_16 : decode cX12_isClause 16 = .ok (.invokevirtual 141, 3) := by decide +kernel
theorem dX12_isClause_19 : decode cX12_isClause 19 = .ok (.ireturn, 1) := by decide +kernel
def F_X12_isClause (w : Nat) (M : z_Mem) : Option (Bool × z_Mem) :=
  (F_X12_spelled w M (99 : Int32) (108 : Int32) (97 : Int32) (117 : Int32) (115 : Int32) (101 : Int32)).bind fun q1 =>
  (F_X12_isWord w q1.2 q1.1).bind fun q3 =>
  some (q3.1, q3.2)
set_option maxHeartbeats 4000000 in
theorem A_X12_isClause {w : Nat} {M : z_Mem} {r : Bool} {M' : z_Mem} {Q : Option Value → z_Mem → Prop} (h : F_X12_isClause w M = some (r, M')) (hq : Q (some (.int (z_tb r))) M') : z_Cl 1 mX12_isClause [.ref 139] M Q := by
  refine g_in (ls := [some (.ref 139)]) rfl ?_
  unfold F_X12_isClause at h
  refine g_aload_n dX12_isClause_0 rfl rfl ?_
  refine g_bipush (v := (99 : Int32)) dX12_isClause_1 (by decide) ?_
  refine g_bipush (v := (108 : Int32)) dX12_isClause_3 (by decide) ?_
  refine g_bipush (v := (97 : Int32)) dX12_isClause_5 (by decide) ?_
  refine g_bipush (v := (117 : Int32)) dX12_isClause_7 (by decide) ?_
  refine g_bipush (v := (115 : Int32)) dX12_isClause_9 (by decide) ?_
  refine g_bipush (v := (101 : Int32)) dX12_isClause_11 (by decide) ?_
  obtain ⟨q1, e2, h⟩ := z_bd h
  refine g_callS (as := [.int (99 : Int32), .int (108 : Int32), .int (97 : Int32), .int (117 : Int32), .int (115 : Int32), .int (101 : Int32)]) (rest := [.ref 139]) (c := mX12_spelled) (k1 := 0) dX12_isClause_13 rfl rfl rfl rfl rfl (Nat.le_of_ble_eq_true rfl) (Nat.le_of_ble_eq_true rfl) (by decide) ?_
  refine A_X12_spelled e2 ?_
  show z_G none 1 mX12_isClause 16 [some (.ref 139)] [.long q1.1, .ref 139] q1.2 Q
  obtain ⟨q3, e4, h⟩ := z_bd h
  refine g_callV (a := 137) (as := [.long q1.1]) (rest := []) (c := mX12_isWord) (k1 := 0) dX12_isClause_16 rfl rfl rfl sh_137 rfl rfl (Nat.le_of_ble_eq_true rfl) (Nat.le_of_ble_eq_true rfl) (by decide) ?_
  refine A_X12_isWord e4 ?_
  show z_G none 1 mX12_isClause 19 [some (.ref 139)] [.int (z_tb q3.1)] q3.2 Q
  cases h
  exact g_iret dX12_isClause_19 rfl nb_tb hq
theorem dX12_isNot_0 : decode cX12_isNot 0 = .ok (.aload_n 0, 1) := by decide +kernel
theorem dX12_isNot_1 : decode cX12_isNot 1 = .ok (.bipush 110, 2) := by decide +kernel
theorem dX12_isNot_3 : decode cX12_isNot 3 = .ok (.bipush 111, 2) := by decide +kernel
theorem dX12_isNot_5 : decode cX12_isNot 5 = .ok (.bipush 116, 2) := by decide +kernel
theorem dX12_isNot_7 : decode cX12_isNot 7 = .ok (.iconst 0, 1) := by decide +kernel
theorem dX12_isNot_8 : decode cX12_isNot 8 = .ok (.iconst 0, 1) := by decide +kernel
theorem dX12_isNot_9 : decode cX12_isNot 9 = .ok (.iconst 0, 1) := by decide +kernel
theorem dX12_isNot_10 : decode cX12_isNot 10 = .ok (.invokestatic 137, 3) := by decide +kernel
theorem dX12_isNot_13 : decode cX12_isNot 13 = .ok (.invokevirtual 141, 3) := by decide +kernel
theorem dX12_isNot_16 : decode cX12_isNot 16 = .ok (.ireturn, 1) := by decide +kernel
def F_X12_isNot (w : Nat) (M : z_Mem) : Option (Bool × z_Mem) :=
  (F_X12_spelled w M (110 : Int32) (111 : Int32) (116 : Int32) (0 : Int32) (0 : Int32) (0 : Int32)).bind fun q1 =>
  (F_X12_isWord w q1.2 q1.1).bind fun q3 =>
  some (q3.1, q3.2)
set_option maxHeartbeats 4000000 in
theorem A_X12_isNot {w : Nat} {M : z_Mem} {r : Bool} {M' : z_Mem} {Q : Option Value → z_Mem → Prop} (h : F_X12_isNot w M = some (r, M')) (hq : Q (some (.int (z_tb r))) M') : z_Cl 1 mX12_isNot [.ref 139] M Q := by
  refine g_in (ls := [some (.ref 139)]) rfl ?_
  unfold F_X12_isNot at h
  refine g_aload_n dX12_isNot_0 rfl rfl ?_
  refine g_bipush (v := (110 : Int32)) dX12_isNot_1 (by decide) ?_
  refine g_bipush (v := (111 : Int32)) dX12_isNot_3 (by decide) ?_
  refine g_bipush (v := (116 : Int32)) dX12_isNot_5 (by decide) ?_
  refine g_iconst (v := (0 : Int32)) dX12_isNot_7 (by decide) ?_
  refine g_iconst (v := (0 : Int32)) dX12_isNot_8 (by decide) ?_
  refine g_iconst (v := (0 : Int32)) dX12_isNot_9 (by decide) ?_
  obtain ⟨q1, e2, h⟩ := z_bd h
  refine g_callS (as := [.int (110 : Int32), .int (111 : Int32), .int (116 : Int32), .int (0 : Int32), .int (0 : Int32), .int (0 : Int32)]) (rest := [.ref 139]) (c := mX12_spelled) (k1 := 0) dX12_isNot_10 rfl rfl rfl rfl rfl (Nat.le_of_ble_eq_true rfl) (Nat.le_of_ble_eq_true rfl) (by decide) ?_
  refine A_X12_spelled e2 ?_
  show z_G none 1 mX12_isNot 13 [some (.ref 139)] [.long q1.1, .ref 139] q1.2 Q
  obtain ⟨q3, e4, h⟩ := z_bd h
  refine g_callV (a := 137) (as := [.long q1.1]) (rest := []) (c := mX12_isWord) (k1 := 0) dX12_isNot_13 rfl rfl rfl sh_137 rfl rfl (Nat.le_of_ble_eq_true rfl) (Nat.le_of_ble_eq_true rfl) (by decide) ?_
  refine A_X12_isWord e4 ?_
  show z_G none 1 mX12_isNot 16 [some (.ref 139)] [.int (z_tb q3.1)] q3.2 Q
  cases h
  exact g_iret dX12_isNot_16 rfl nb_tb hq
theorem dX12_isWitness_0 : decode cX12_isWitness 0 = .ok (.aload_n 0, 1) := by decide +kernel
theorem dX12_isWitness_1 : decode cX12_isWitness 1 = .ok (.bipush 119, 2) := by decide +kernel
theorem dX12_isWitness_3 : decode cX12_isWitness 3 = .ok (.bipush 105, 2) := by decide +kernel
theorem dX12_isWitness_5 : decode cX12_isWitness 5 = .ok (.bipush 116, 2) := by decide +kernel
theorem dX12_isWitness_7 : decode cX12_isWitness 7 = .ok (.bipush 110, 2) := by decide +kernel
theorem dX12_isWitness_9 : decode cX12_isWitness 9 = .ok (.bipush 101, 2) := by decide +kernel
theorem dX12_isWitness_11 : decode cX12_isWitness 11 = .ok (.bipush 115, 2) := by decide +kernel
theorem dX12_isWitness_13 : decode cX12_isWitness 13 = .ok (.invokestatic 137, 3) := by decide +kernel
theorem dX12_isWitness_16 : decode cX12_isWitness 16 = .ok (.ldc2_w 121, 3) := by decide +kernel
theorem dX12_isWitness_19 : decode cX12_isWitness 19 = .ok (.lmul, 1) := by decide +kernel
theorem dX12_isWitness_20 : decode cX12_isWitness 20 = .ok (.ldc2_w 145, 3) := by decide +kernel
theorem dX12_isWitness_23 : decode cX12_isWitness 23 = .ok (.ladd, 1) := by decide +kernel
theorem dX12_isWitness_24 : decode cX12_isWitness 24 = .ok (.ldc2_w 123, 3) := by decide +kernel
theorem dX12_isWitness_27 : decode cX12_isWitness 27 = .ok (.lsub, 1) := by decide +kernel
theorem dX12_isWitness_28 : decode cX12_isWitness 28 = .ok (.invokevirtual 141, 3) := by decide +kernel
theorem dX12_isWitness_31 : decode cX12_isWitness 31 = .ok (.ireturn, 1) := by decide +kernel
def F_X12_isWitness (w : Nat) (M : z_Mem) : Option (Bool × z_Mem) :=
  (F_X12_spelled w M (119 : Int32) (105 : Int32) (116 : Int32) (110 : Int32) (101 : Int32) (115 : Int32)).bind fun q1 =>
  (F_X12_isWord w q1.2 (((q1.1 * (32 : Int64)) + (115 : Int64)) - (96 : Int64))).bind fun q3 =>
  some (q3.1, q3.2)
set_option maxHeartbeats 4000000 in
theorem A_X12_isWitness {w : Nat} {M : z_Mem} {r : Bool} {M' : z_Mem} {Q : Option Value → z_Mem → Prop} (h : F_X12_isWitness w M = some (r, M')) (hq : Q (some (.int (z_tb r))) M') : z_Cl 1 mX12_isWitness [.ref 139] M Q := by
  refine g_in (ls := [some (.ref 139)]) rfl ?_
  unfold F_X12_isWitness at h
  refine g_aload_n dX12_isWitness_0 rfl rfl ?_
  refine g_bipush (v := (119 : Int32)) dX12_isWitness_1 (by decide) ?_
  refine g_bipush (v := (105 : Int32)) dX12_isWitness_3 (by decide) ?_
  refine g_bipush (v := (116 : Int32)) dX12_isWitness_5 (by decide) ?_
  refine g_bipush (v := (110 : Int32)) dX12_isWitness_7 (by decide) ?_
  refine g_bipush (v := (101 : Int32)) dX12_isWitness_9 (by decide) ?_
  refine g_bipush (v := (115 : Int32)) dX12_isWitness_11 (by decide) ?_
  obtain ⟨q1, e2, h⟩ := z_bd h
  refine g_callS (as := [.int (119 : Int32), .int (105 : Int32), .int (116 : Int32), .int (110 : Int32), .int (101 : Int32), .int (115 : Int32)]) (rest := [.ref 139]) (c := mX12_spelled) (k1 := 0) dX12_isWitness_13 rfl rfl rfl rfl rfl (Nat.le_of_ble_eq_true rfl) (Nat.le_of_ble_eq_true rfl) (by decide) ?_
  refine A_X12_spelled e2 ?_
  show z_G none 1 mX12_isWitness 16 [some (.ref 139)] [.long q1.1, .ref 139] q1.2 Q
  refine g_ldc2_w dX12_isWitness_16 rfl ?_
  refine g_lmul dX12_isWitness_19 ?_
  refine g_ldc2_w dX12_isWitness_20 rfl ?_
  refine g_ladd dX12_isWitness_23 ?_
  refine g_ldc2_w dX12_isWitness_24 rfl ?_
  refine g_lsub dX12_isWitness_27 ?_
  obtain ⟨q3, e4, h⟩ := z_bd h
  refine g_callV (a := 137) (as := [.long (((q1.1 * (32 : Int64)) + (115 : Int64)) - (96 : Int64))]) (rest := []) (c := mX12_isWord) (k1 := 0) dX12_isWitness_28 rfl rfl rfl sh_137 rfl rfl (Nat.le_of_ble_eq_true rfl) (Nat.le_of_ble_eq_true rfl) (by decide) ?_
  refine A_X12_isWord e4 ?_
  show z_G none 1 mX12_isWitness 31 [some (.ref 139)] [.int (z_tb q3.1)] q3.2 Q
  cases h
  exact g_iret dX12_isWitness_31 rfl nb_tb hq
theorem dX12_sideWord_0 : decode cX12_sideWord 0 = .ok (.aload_n 0, 1) := by decide +kernel
theorem dX12_sideWord_1 : decode cX12_sideWord 1 = .ok (.bipush 101, 2) := by decide +kernel
theorem dX12_sideWord_3 : decode cX12_sideWord 3 = .ok (.bipush 97, 2) := by decide +kernel
theorem dX12_sideWord_5 : decode cX12_sideWord 5 = .ok (.bipush 115, 2) := by decide +kernel
theorem dX12_sideWord_7 : decode cX12_sideWord 7 = .ok (.bipush 116, 2) := by decide +kernel
theorem dX12_sideWord_9 : decode cX12_sideWord 9 = .ok (.iconst 0, 1) := by decide +kernel
theorem dX12_sideWord_10 : decode cX12_sideWord 10 = .ok (.iconst 0, 1) := by decide +kernel
theorem dX12_sideWord_11 : decode cX12_sideWord 11 = .ok (.invokestatic 137, 3) := by decide +kernel
theorem dX12_sideWord_14 : decode cX12_sideWord 14 = .ok (.invokevirtual 141, 3) := by decide +kernel
theorem dX12_sideWord_17 : decode cX12_sideWord 17 = .ok (.ifCond .eq 5, 3) := by decide +kernel
theorem dX12_sideWord_20 : decode cX12_sideWord 20 = .ok (.iconst 0, 1) := by decide +kernel
theorem dX12_sideWord_21 : decode cX12_sideWord 21 = .ok (.ireturn, 1) := by decide +kernel
theorem dX12_sideWord_22 : decode cX12_sideWord 22 = .ok (.aload_n 0, 1) := by decide +kernel
theorem dX12_sideWord_23 : decode cX12_sideWord 23 = .ok (.bipush 119, 2) := by decide +kernel
theorem dX12_sideWord_25 : decode cX12_sideWord 25 = .ok (.bipush 101, 2) := by decide +kernel
theorem dX12_sideWord_27 : decode cX12_sideWord 27 = .ok (.bipush 115, 2) := by decide +kernel
theorem dX12_sideWord_29 : decode cX12_sideWord 29 = .ok (.bipush 116, 2) := by decide +kernel
theorem dX12_sideWord_31 : decode cX12_sideWord 31 = .ok (.iconst 0, 1) := by decide +kernel
theorem dX12_sideWord_32 : decode cX12_sideWord 32 = .ok (.iconst 0, 1) := by decide +kernel
theorem dX12_sideWord_33 : decode cX12_sideWord 33 = .ok (.invokestatic 137, 3) := by decide +kernel
theorem dX12_sideWord_36 : decode cX12_sideWord 36 = .ok (.invokevirtual 141, 3) := by decide +kernel
theorem dX12_sideWord_39 : decode cX12_sideWord 39 = .ok (.ifCond .eq 7, 3) := by decide +kernel
theorem dX12_sideWord_42 : decode cX12_sideWord 42 = .ok (.iconst 1, 1) := by decide +kernel
theorem dX12_sideWord_43 : decode cX12_sideWord 43 = .ok (.goto 4, 3) := by decide +kernel
theorem dX12_sideWord_46 : decode cX12_sideWord 46 = .ok (.iconst (-1), 1) := by decide +kernel
theorem dX12_sideWord_47 : decode cX12_sideWord 47 = .ok (.ireturn, 1) := by decide +kernel
def F_X12_sideWord (w : Nat) (M : z_Mem) : Option (Int32 × z_Mem) :=
  (F_X12_spelled w M (101 : Int32) (97 : Int32) (115 : Int32) (116 : Int32) (0 : Int32) (0 : Int32)).bind fun q1 =>
  (F_X12_isWord w q1.2 q1.1).bind fun q3 =>
  if q3.1 = true then
  some ((0 : Int32), q3.2)
  else
  (F_X12_spelled w q3.2 (119 : Int32) (101 : Int32) (115 : Int32) (116 : Int32) (0 : Int32) (0 : Int32)).bind fun q6 =>
  (F_X12_isWord w q6.2 q6.1).bind fun q8 =>
  if q8.1 = true then
  some ((1 : Int32), q8.2)
  else
  some ((-1 : Int32), q8.2)
set_option maxHeartbeats 4000000 in
theorem A_X12_sideWord {w : Nat} {M : z_Mem} {r : Int32} {M' : z_Mem} {Q : Option Value → z_Mem → Prop} (h : F_X12_sideWord w M = some (r, M')) (hq : Q (some (.int r)) M') : z_Cl 1 mX12_sideWord [.ref 139] M Q := by
  refine g_in (ls := [some (.ref 139)]) rfl ?_
  unfold F_X12_sideWord at h
  refine g_aload_n dX12_sideWord_0 rfl rfl ?_
  refine g_bipush (v := (101 : Int32)) dX12_sideWord_1 (by decide) ?_
  refine g_bipush (v := (97 : Int32)) dX12_sideWord_3 (by decide) ?_
  refine g_bipush (v := (115 : Int32)) dX12_sideWord_5 (by decide) ?_
  refine g_bipush (v := (116 : Int32)) dX12_sideWord_7 (by decide) ?_
  refine g_iconst (v := (0 : Int32)) dX12_sideWord_9 (by decide) ?_
  refine g_iconst (v := (0 : Int32)) dX12_sideWord_10 (by decide) ?_
  obtain ⟨q1, e2, h⟩ := z_bd h
  refine g_callS (as := [.int (101 : Int32), .int (97 : Int32), .int (115 : Int32), .int (116 : Int32), .int (0 : Int32), .int (0 : Int32)]) (rest := [.ref 139]) (c := mX12_spelled) (k1 := 0) dX12_sideWord_11 rfl rfl rfl rfl rfl (Nat.le_of_ble_eq_true rfl) (Nat.le_of_ble_eq_true rfl) (by decide) ?_
  refine A_X12_spelled e2 ?_
  show z_G none 1 mX12_sideWord 14 [some (.ref 139)] [.long q1.1, .ref 139] q1.2 Q
  obtain ⟨q3, e4, h⟩ := z_bd h
  refine g_callV (a := 137) (as := [.long q1.1]) (rest := []) (c := mX12_isWord) (k1 := 0) dX12_sideWord_14 rfl rfl rfl sh_137 rfl rfl (Nat.le_of_ble_eq_true rfl) (Nat.le_of_ble_eq_true rfl) (by decide) ?_
  refine A_X12_isWord e4 ?_
  show z_G none 1 mX12_sideWord 17 [some (.ref 139)] [.int (z_tb q3.1)] q3.2 Q
  refine g_if_eq (t := 22) dX12_sideWord_17 (by decide) (fun c5 => ?_) (fun c5 => ?_)
  · replace h := z_iff (z_tb0.mp c5) h
    refine g_aload_n dX12_sideWord_22 rfl rfl ?_
    refine g_bipush (v := (119 : Int32)) dX12_sideWord_23 (by decide) ?_
    refine g_bipush (v := (101 : Int32)) dX12_sideWord_25 (by decide) ?_
    refine g_bipush (v := (115 : Int32)) dX12_sideWord_27 (by decide) ?_
    refine g_bipush (v := (116 : Int32)) dX12_sideWord_29 (by decide) ?_
    refine g_iconst (v := (0 : Int32)) dX12_sideWord_31 (by decide) ?_
    refine g_iconst (v := (0 : Int32)) dX12_sideWord_32 (by decide) ?_
    obtain ⟨q6, e7, h⟩ := z_bd h
    refine g_callS (as := [.int (119 : Int32), .int (101 : Int32), .int (115 : Int32), .int (116 : Int32), .int (0 : Int32), .int (0 : Int32)]) (rest := [.ref 139]) (c := mX12_spelled) (k1 := 0) dX12_sideWord_33 rfl rfl rfl rfl rfl (Nat.le_of_ble_eq_true rfl) (Nat.le_of_ble_eq_true rfl) (by decide) ?_
    refine A_X12_spelled e7 ?_
    show z_G none 1 mX12_sideWord 36 [some (.ref 139)] [.long q6.1, .ref 139] q6.2 Q
    obtain ⟨q8, e9, h⟩ := z_bd h
    refine g_callV (a := 137) (as := [.long q6.1]) (rest := []) (c := mX12_isWord) (k1 := 0) dX12_sideWord_36 rfl rfl rfl sh_137 rfl rfl (Nat.le_of_ble_eq_true rfl) (Nat.le_of_ble_eq_true rfl) (by decide) ?_
    refine A_X12_isWord e9 ?_
    show z_G none 1 mX12_sideWord 39 [some (.ref 139)] [.int (z_tb q8.1)] q8.2 Q
    refine g_if_eq (t := 46) dX12_sideWord_39 (by decide) (fun c10 => ?_) (fun c10 => ?_)
    · replace h := z_iff (z_tb0.mp c10) h
      refine g_iconst (v := (-1 : Int32)) dX12_sideWord_46 (by decide) ?_
      cases h
      exact g_iret dX12_sideWord_47 rfl rfl hq
    · replace h := z_ift (z_tbn.mp c10) h
      refine g_iconst (v := (1 : Int32)) dX12_sideWord_42 (by decide) ?_
      refine g_goto (t := 47) dX12_sideWord_43 (by decide) ?_
      cases h
      exact g_iret dX12_sideWord_47 rfl rfl hq
  · replace h := z_ift (z_tbn.mp c5) h
    refine g_iconst (v := (0 : Int32)) dX12_sideWord_20 (by decide) ?_
    cases h
    exact g_iret dX12_sideWord_21 rfl rfl hq
theorem dX12_kindWord_0 : decode cX12_kindWord 0 = .ok (.aload_n 0, 1) := by decide +kernel
theorem dX12_kindWord_1 : decode cX12_kindWord 1 = .ok (.bipush 104, 2) := by decide +kernel
theorem dX12_kindWord_3 : decode cX12_kindWord 3 = .ok (.bipush 101, 2) := by decide +kernel
theorem dX12_kindWord_5 : decode cX12_kindWord 5 = .ok (.bipush 114, 2) := by decide +kernel
theorem dX12_kindWord_7 : decode cX12_kindWord 7 = .ok (.bipush 101, 2) := by decide +kernel
theorem dX12_kindWord_9 : decode cX12_kindWord 9 = .ok (.iconst 0, 1) := by decide +kernel
theorem dX12_kindWord_10 : decode cX12_kindWord 10 = .ok (.iconst 0, 1) := by decide +kernel
theorem dX12_kindWord_11 : decode cX12_kindWord 11 = .ok (.invokestatic 137, 3) := by decide +kernel
theorem dX12_kindWord_14 : decode cX12_kindWord 14 = .ok (.invokevirtual 141, 3) := by decide +kernel
theorem dX12_kindWord_17 : decode cX12_kindWord 17 = .ok (.ifCond .eq 5, 3) := by decide +kernel
theorem dX12_kindWord_20 : decode cX12_kindWord 20 = .ok (.iconst 0, 1) := by decide +kernel
theorem dX12_kindWord_21 : decode cX12_kindWord 21 = .ok (.ireturn, 1) := by decide +kernel
theorem dX12_kindWord_22 : decode cX12_kindWord 22 = .ok (.aload_n 0, 1) := by decide +kernel
theorem dX12_kindWord_23 : decode cX12_kindWord 23 = .ok (.bipush 97, 2) := by decide +kernel
theorem dX12_kindWord_25 : decode cX12_kindWord 25 = .ok (.bipush 119, 2) := by decide +kernel
theorem dX12_kindWord_27 : decode cX12_kindWord 27 = .ok (.bipush 97, 2) := by decide +kernel
theorem dX12_kindWord_29 : decode cX12_kindWord 29 = .ok (.bipush 121, 2) := by decide +kernel
theorem dX12_kindWord_31 : decode cX12_kindWord 31 = .ok (.iconst 0, 1) := by decide +kernel
theorem dX12_kindWord_32 : decode cX12_kindWord 32 = .ok (.iconst 0, 1) := by decide +kernel
theorem dX12_kindWord_33 : decode cX12_kindWord 33 = .ok (.invokestatic 137, 3) := by decide +kernel
theorem dX12_kindWord_36 : decode cX12_kindWord 36 = .ok (.invokevirtual 141, 3) := by decide +kernel
theorem dX12_kindWord_39 : decode cX12_kindWord 39 = .ok (.ifCond .eq 5, 3) := by decide +kernel
theorem dX12_kindWord_42 : decode cX12_kindWord 42 = .ok (.iconst 1, 1) := by decide +kernel
theorem dX12_kindWord_43 : decode cX12_kindWord 43 = .ok (.ireturn, 1) := by decide +kernel
theorem dX12_kindWord_44 : decode cX12_kindWord 44 = .ok (.aload_n 0, 1) := by decide +kernel
theorem dX12_kindWord_45 : decode cX12_kindWord 45 = .ok (.bipush 108, 2) := by decide +kernel
theorem dX12_kindWord_47 : decode cX12_kindWord 47 = .ok (.bipush 97, 2) := by decide +kernel
theorem dX12_kindWord_49 : decode cX12_kindWord 49 = .ok (.bipush 116, 2) := by decide +kernel
theorem dX12_kindWord_51 : decode cX12_kindWord 51 = .ok (.bipush 101, 2) := by decide +kernel
theorem dX12_kindWord_53 : decode cX12_kindWord 53 = .ok (.iconst 0, 1) := by decide +kernel
theorem dX12_kindWord_54 : decode cX12_kindWord 54 = .ok (.iconst 0, 1) := by decide +kernel
theorem dX12_kindWord_55 : decode cX12_kindWord 55 = .ok (.invokestatic 137, 3) := by decide +kernel
theorem dX12_kindWord_58 : decode cX12_kindWord 58 = .ok (.invokevirtual 141, 3) := by decide +kernel
theorem dX12_kindWord_61 : decode cX12_kindWord 61 = .ok (.ifCond .eq 7, 3) := by decide +kernel
theorem dX12_kindWord_64 : decode cX12_kindWord 64 = .ok (.iconst 2, 1) := by decide +kernel
theorem dX12_kindWord_65 : decode cX12_kindWord 65 = .ok (.goto 4, 3) := by decide +kernel
theorem dX12_kindWord_68 : decode cX12_kindWord 68 = .ok (.iconst (-1), 1) := by decide +kernel
theorem dX12_kindWord_69 : decode cX12_kindWord 69 = .ok (.ireturn, 1) := by decide +kernel
def F_X12_kindWord (w : Nat) (M : z_Mem) : Option (Int32 × z_Mem) :=
  (F_X12_spelled w M (104 : Int32) (101 : Int32) (114 : Int32) (101 : Int32) (0 : Int32) (0 : Int32)).bind fun q1 =>
  (F_X12_isWord w q1.2 q1.1).bind fun q3 =>
  if q3.1 = true then
  some ((0 : Int32), q3.2)
  else
  (F_X12_spelled w q3.2 (97 : Int32) (119 : Int32) (97 : Int32) (121 : Int32) (0 : Int32) (0 : Int32)).bind fun q6 =>
  (F_X12_isWord w q6.2 q6.1).bind fun q8 =>
  if q8.1 = true then
  some ((1 : Int32), q8.2)
  else
  (F_X12_spelled w q8.2 (108 : Int32) (97 : Int32) (116 : Int32) (101 : Int32) (0 : Int32) (0 : Int32)).bind fun q11 =>
  (F_X12_isWord w q11.2 q11.1).bind fun q13 =>
  if q13.1 = true then
  some ((2 : Int32), q13.2)
  else
  some ((-1 : Int32), q13.2)
set_option maxHeartbeats 4000000 in
theorem A_X12_kindWord {w : Nat} {M : z_Mem} {r : Int32} {M' : z_Mem} {Q : Option Value → z_Mem → Prop} (h : F_X12_kindWord w M = some (r, M')) (hq : Q (some (.int r)) M') : z_Cl 1 mX12_kindWord [.ref 139] M Q := by
  refine g_in (ls := [some (.ref 139)]) rfl ?_
  unfold F_X12_kindWord at h
  refine g_aload_n dX12_kindWord_0 rfl rfl ?_
  refine g_bipush (v := (104 : Int32)) dX12_kindWord_1 (by decide) ?_
  refine g_bipush (v := (101 : Int32)) dX12_kindWord_3 (by decide) ?_
  refine g_bipush (v := (114 : Int32)) dX12_kindWord_5 (by decide) ?_
  refine g_bipush (v := (101 : Int32)) dX12_kindWord_7 (by decide) ?_
  refine g_iconst (v := (0 : Int32)) dX12_kindWord_9 (by decide) ?_
  refine g_iconst (v := (0 : Int32)) dX12_kindWord_10 (by decide) ?_
  obtain ⟨q1, e2, h⟩ := z_bd h
  refine g_callS (as := [.int (104 : Int32), .int (101 : Int32), .int (114 : Int32), .int (101 : Int32), .int (0 : Int32), .int (0 : Int32)]) (rest := [.ref 139]) (c := mX12_spelled) (k1 := 0) dX12_kindWord_11 rfl rfl rfl rfl rfl (Nat.le_of_ble_eq_true rfl) (Nat.le_of_ble_eq_true rfl) (by decide) ?_
  refine A_X12_spelled e2 ?_
  show z_G none 1 mX12_kindWord 14 [some (.ref 139)] [.long q1.1, .ref 139] q1.2 Q
  obtain ⟨q3, e4, h⟩ := z_bd h
  refine g_callV (a := 137) (as := [.long q1.1]) (rest := []) (c := mX12_isWord) (k1 := 0) dX12_kindWord_14 rfl rfl rfl sh_137 rfl rfl (Nat.le_of_ble_eq_true rfl) (Nat.le_of_ble_eq_true rfl) (by decide) ?_
  refine A_X12_isWord e4 ?_
  show z_G none 1 mX12_kindWord 17 [some (.ref 139)] [.int (z_tb q3.1)] q3.2 Q
  refine g_if_eq (t := 22) dX12_kindWord_17 (by decide) (fun c5 => ?_) (fun c5 => ?_)
  · replace h := z_iff (z_tb0.mp c5) h
    refine g_aload_n dX12_kindWord_22 rfl rfl ?_
    refine g_bipush (v := (97 : Int32)) dX12_kindWord_23 (by decide) ?_
    refine g_bipush (v := (119 : Int32)) dX12_kindWord_25 (by decide) ?_
    refine g_bipush (v := (97 : Int32)) dX12_kindWord_27 (by decide) ?_
    refine g_bipush (v := (121 : Int32)) dX12_kindWord_29 (by decide) ?_
    refine g_iconst (v := (0 : Int32)) dX12_kindWord_31 (by decide) ?_
    refine g_iconst (v := (0 : Int32)) dX12_kindWord_32 (by decide) ?_
    obtain ⟨q6, e7, h⟩ := z_bd h
    refine g_callS (as := [.int (97 : Int32), .int (119 : Int32), .int (97 : Int32), .int (121 : Int32), .int (0 : Int32), .int (0 : Int32)]) (rest := [.ref 139]) (c := mX12_spelled) (k1 := 0) dX12_kindWord_33 rfl rfl rfl rfl rfl (Nat.le_of_ble_eq_true rfl) (Nat.le_of_ble_eq_true rfl) (by decide) ?_
    refine A_X12_spelled e7 ?_
    show z_G none 1 mX12_kindWord 36 [some (.ref 139)] [.long q6.1, .ref 139] q6.2 Q
    obtain ⟨q8, e9, h⟩ := z_bd h
    refine g_callV (a := 137) (as := [.long q6.1]) (rest := []) (c := mX12_isWord) (k1 := 0) dX12_kindWord_36 rfl rfl rfl sh_137 rfl rfl (Nat.le_of_ble_eq_true rfl) (Nat.le_of_ble_eq_true rfl) (by decide) ?_
    refine A_X12_isWord e9 ?_
    show z_G none 1 mX12_kindWord 39 [some (.ref 139)] [.int (z_tb q8.1)] q8.2 Q
    refine g_if_eq (t := 44) dX12_kindWord_39 (by decide) (fun c10 => ?_) (fun c10 => ?_)
    · replace h := z_iff (z_tb0.mp c10) h
      refine g_aload_n dX12_kindWord_44 rfl rfl ?_
      refine g_bipush (v := (108 : Int32)) dX12_kindWord_45 (by decide) ?_
      refine g_bipush (v := (97 : Int32)) dX12_kindWord_47 (by decide) ?_
      refine g_bipush (v := (116 : Int32)) dX12_kindWord_49 (by decide) ?_
      refine g_bipush (v := (101 : Int32)) dX12_kindWord_51 (by decide) ?_
      refine g_iconst (v := (0 : Int32)) dX12_kindWord_53 (by decide) ?_
      refine g_iconst (v := (0 : Int32)) dX12_kindWord_54 (by decide) ?_
      obtain ⟨q11, e12, h⟩ := z_bd h
      refine g_callS (as := [.int (108 : Int32), .int (97 : Int32), .int (116 : Int32), .int (101 : Int32), .int (0 : Int32), .int (0 : Int32)]) (rest := [.ref 139]) (c := mX12_spelled) (k1 := 0) dX12_kindWord_55 rfl rfl rfl rfl rfl (Nat.le_of_ble_eq_true rfl) (Nat.le_of_ble_eq_true rfl) (by decide) ?_
      refine A_X12_spelled e12 ?_
      show z_G none 1 mX12_kindWord 58 [some (.ref 139)] [.long q11.1, .ref 139] q11.2 Q
      obtain ⟨q13, e14, h⟩ := z_bd h
      refine g_callV (a := 137) (as := [.long q11.1]) (rest := []) (c := mX12_isWord) (k1 := 0) dX12_kindWord_58 rfl rfl rfl sh_137 rfl rfl (Nat.le_of_ble_eq_true rfl) (Nat.le_of_ble_eq_true rfl) (by decide) ?_
      refine A_X12_isWord e14 ?_
      show z_G none 1 mX12_kindWord 61 [some (.ref 139)] [.int (z_tb q13.1)] q13.2 Q
      refine g_if_eq (t := 68) dX12_kindWord_61 (by decide) (fun c15 => ?_) (fun c15 => ?_)
      · replace h := z_iff (z_tb0.mp c15) h
        refine g_iconst (v := (-1 : Int32)) dX12_kindWord_68 (by decide) ?_
        cases h
        exact g_iret dX12_kindWord_69 rfl rfl hq
      · replace h := z_ift (z_tbn.mp c15) h
        refine g_iconst (v := (2 : Int32)) dX12_kindWord_64 (by decide) ?_
        refine g_goto (t := 69) dX12_kindWord_65 (by decide) ?_
        cases h
        exact g_iret dX12_kindWord_69 rfl rfl hq
    · replace h := z_ift (z_tbn.mp c10) h
      refine g_iconst (v := (1 : Int32)) dX12_kindWord_42 (by decide) ?_
      cases h
      exact g_iret dX12_kindWord_43 rfl rfl hq
  · replace h := z_ift (z_tbn.mp c5) h
    refine g_iconst (v := (0 : Int32)) dX12_kindWord_20 (by decide) ?_
    cases h
    exact g_iret dX12_kindWord_21 rfl rfl hq
