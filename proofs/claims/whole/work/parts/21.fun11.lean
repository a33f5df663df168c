/-! ===== the methods as functions, 11 ===== -/
theorem dX12_isAny_0 : decode cX12_isAny 0 = .ok (.aload_n 0, 1) := by decide +kernel
theorem dX12_isAny_1 : decode cX12_isAny 1 = .ok (.iconst 4, 1) := by decide +kernel
theorem dX12_isAny_2 : decode cX12_isAny 2 = .ok (.invokevirtual 476, 3) := by decide +kernel
theorem dX12_isAny_5 : decode cX12_isAny 5 = .ok (.iconst 1, 1) := by decide +kernel
theorem dX12_isAny_6 : decode cX12_isAny 6 = .ok (.iadd, 1) := by decide +kernel
theorem dX12_isAny_7 : decode cX12_isAny 7 = .ok (.istore_n 1, 1) := by decide +kernel
theorem dX12_isAny_8 : decode cX12_isAny 8 = .ok (.aload_n 0, 1) := by decide +kernel
theorem dX12_isAny_9 : decode cX12_isAny 9 = .ok (.iconst 4, 1) := by decide +kernel
theorem dX12_isAny_10 : decode cX12_isAny 10 = .ok (.invokevirtual 476, 3) := by decide +kernel
theorem dX12_isAny_13 : decode cX12_isAny 13 = .ok (.iconst 1, 1) := by decide +kernel
theorem dX12_isAny_14 : decode cX12_isAny 14 = .ok (.iadd, 1) := by decide +kernel
theorem dX12_isAny_15 : decode cX12_isAny 15 = .ok (.istore_n 2, 1) := by decide +kernel
theorem dX12_isAny_16 : decode cX12_isAny 16 = .ok (.aload_n 0, 1) := by decide +kernel
theorem dX12_isAny_17 : decode cX12_isAny 17 = .ok (.bipush 16, 2) := by decide +kernel
theorem dX12_isAny_19 : decode cX12_isAny 19 = .ok (.invokevirtual 476, 3) := by decide +kernel
theorem dX12_isAny_22 : decode cX12_isAny 22 = .ok (.aload_n 0, 1) := by decide +kernel
theorem dX12_isAny_23 : decode cX12_isAny 23 = .ok (.getfield 35, 3) := by decide +kernel
theorem dX12_isAny_26 : decode cX12_isAny 26 = .ok (.iconst 5, 1) := by decide +kernel
theorem dX12_isAny_27 : decode cX12_isAny 27 = .ok (.iaload, 1) := by decide +kernel
theorem dX12_isAny_28 : decode cX12_isAny 28 = .ok (.if_icmp .ge 12, 3) := by decide +kernel
theorem dX12_isAny_31 : decode cX12_isAny 31 = .ok (.aload_n 0, 1) := by decide +kernel
theorem dX12_isAny_32 : decode cX12_isAny 32 = .ok (.iload_n 1, 1) := by decide +kernel
theorem dX12_isAny_33 : decode cX12_isAny 33 = .ok (.iload_n 2, 1) := by decide +kernel
theorem dX12_isAny_34 : decode cX12_isAny 34 = .ok (.invokevirtual 392, 3) := by decide +kernel
theorem dX12_isAny_37 : decode cX12_isAny 37 = .ok (.goto 8, 3) := by decide +kernel
theorem dX12_isAny_40 : decode cX12_isAny 40 = .ok (.aload_n 0, 1) := by decide +kernel
theorem dX12_isAny_41 : decode cX12_isAny 41 = .ok (.iconst 1, 1) := by decide +kernel
theorem dX12_isAny_42 : decode cX12_isAny 42 = .ok (.invokevirtual 479, 3) := by decide +kernel
theorem dX12_isAny_45 : decode cX12_isAny 45 = .ok (.ireturn, 1) := by decide +kernel
def F_X12_isAny (w : Nat) (M : z_Mem) : Option (Bool × z_Mem) :=
  (F_X12_draw w M (4 : Int32)).bind fun q1 =>
  (F_X12_draw w q1.2 (4 : Int32)).bind fun q3 =>
  (F_X12_draw w q3.2 (16 : Int32)).bind fun q5 =>
  if (q5.2.1 142 5) ≤ q5.1 then
  (F_X12_pass w q5.2 (1 : Int32)).bind fun q8 =>
  some (q8.1, q8.2)
  else
  (F_X12_carries w q5.2 (q1.1 + (1 : Int32)) (q3.1 + (1 : Int32))).bind fun q10 =>
  some (q10.1, q10.2)
set_option maxHeartbeats 4000000 in
theorem A_X12_isAny {w : Nat} {M : z_Mem} {r : Bool} {M' : z_Mem} {Q : Option Value → z_Mem → Prop} (h : F_X12_isAny w M = some (r, M')) (hq : Q (some (.int (z_tb r))) M') : z_Cl 5 mX12_isAny [.ref 139] M Q := by
  refine g_in (ls := [some (.ref 139), none, none]) rfl ?_
  unfold F_X12_isAny at h
  refine g_aload_n dX12_isAny_0 rfl rfl ?_
  refine g_iconst (v := (4 : Int32)) dX12_isAny_1 (by decide) ?_
  obtain ⟨q1, e2, h⟩ := z_bd h
  refine g_callV (a := 137) (as := [.int (4 : Int32)]) (rest := []) (c := mX12_draw) (k1 := 0) dX12_isAny_2 rfl rfl rfl sh_137 rfl rfl (Nat.le_of_ble_eq_true rfl) (Nat.le_of_ble_eq_true rfl) (by decide) ?_
  refine A_X12_draw e2 ?_
  show z_G none 5 mX12_isAny 5 [some (.ref 139), none, none] [.int q1.1] q1.2 Q
  refine g_iconst (v := (1 : Int32)) dX12_isAny_5 (by decide) ?_
  refine g_iadd dX12_isAny_6 ?_
  refine g_istore_n (ls' := [some (.ref 139), some (.int (q1.1 + (1 : Int32))), none]) dX12_isAny_7 rfl (Nat.le_of_ble_eq_true rfl) rfl ?_
  refine g_aload_n dX12_isAny_8 rfl rfl ?_
  refine g_iconst (v := (4 : Int32)) dX12_isAny_9 (by decide) ?_
  obtain ⟨q3, e4, h⟩ := z_bd h
  refine g_callV (a := 137) (as := [.int (4 : Int32)]) (rest := []) (c := mX12_draw) (k1 := 0) dX12_isAny_10 rfl rfl rfl sh_137 rfl rfl (Nat.le_of_ble_eq_true rfl) (Nat.le_of_ble_eq_true rfl) (by decide) ?_
  refine A_X12_draw e4 ?_
  show z_G none 5 mX12_isAny 13 [some (.ref 139), some (.int (q1.1 + (1 : Int32))), none] [.int q3.1] q3.2 Q
  refine g_iconst (v := (1 : Int32)) dX12_isAny_13 (by decide) ?_
  refine g_iadd dX12_isAny_14 ?_
  refine g_istore_n (ls' := [some (.ref 139), some (.int (q1.1 + (1 : Int32))), some (.int (q3.1 + (1 : Int32)))]) dX12_isAny_15 rfl (Nat.le_of_ble_eq_true rfl) rfl ?_
  refine g_aload_n dX12_isAny_16 rfl rfl ?_
  refine g_bipush (v := (16 : Int32)) dX12_isAny_17 (by decide) ?_
  obtain ⟨q5, e6, h⟩ := z_bd h
  refine g_callV (a := 137) (as := [.int (16 : Int32)]) (rest := []) (c := mX12_draw) (k1 := 0) dX12_isAny_19 rfl rfl rfl sh_137 rfl rfl (Nat.le_of_ble_eq_true rfl) (Nat.le_of_ble_eq_true rfl) (by decide) ?_
  refine A_X12_draw e6 ?_
  show z_G none 5 mX12_isAny 22 [some (.ref 139), some (.int (q1.1 + (1 : Int32))), some (.int (q3.1 + (1 : Int32)))] [.int q5.1] q5.2 Q
  refine g_aload_n dX12_isAny_22 rfl rfl ?_
  refine g_get (a := 137) (v := .ref 144) dX12_isAny_23 f_12_35 sh_137 rfl rfl ?_
  refine g_iconst (v := (5 : Int32)) dX12_isAny_26 (by decide) ?_
  refine g_ialN (a := 142) (j := 5) (v := q5.2.1 142 5) dX12_isAny_27 sh_142 rfl (by decide) rfl ?_
  refine g_ic_ge (t := 40) dX12_isAny_28 (by decide) (fun c7 => ?_) (fun c7 => ?_)
  · replace h := z_ift c7 h
    refine g_aload_n dX12_isAny_40 rfl rfl ?_
    refine g_iconst (v := (1 : Int32)) dX12_isAny_41 (by decide) ?_
    obtain ⟨q8, e9, h⟩ := z_bd h
    refine g_callV (a := 137) (as := [.int (1 : Int32)]) (rest := []) (c := mX12_pass) (k1 := 4) dX12_isAny_42 rfl rfl rfl sh_137 rfl rfl (Nat.le_of_ble_eq_true rfl) (Nat.le_of_ble_eq_true rfl) (by decide) ?_
    refine A_X12_pass e9 ?_
    show z_G none 5 mX12_isAny 45 [some (.ref 139), some (.int (q1.1 + (1 : Int32))), some (.int (q3.1 + (1 : Int32)))] [.int (z_tb q8.1)] q8.2 Q
    cases h
    exact g_iret dX12_isAny_45 rfl nb_tb hq
  · replace h := z_iff c7 h
    refine g_aload_n dX12_isAny_31 rfl rfl ?_
    refine g_iload_n dX12_isAny_32 rfl rfl ?_
    refine g_iload_n dX12_isAny_33 rfl rfl ?_
    obtain ⟨q10, e11, h⟩ := z_bd h
    refine g_callV (a := 137) (as := [.int (q1.1 + (1 : Int32)), .int (q3.1 + (1 : Int32))]) (rest := []) (c := mX12_carries) (k1 := 1) dX12_isAny_34 rfl rfl rfl sh_137 rfl rfl (Nat.le_of_ble_eq_true rfl) (Nat.le_of_ble_eq_true rfl) (by decide) ?_
    refine A_X12_carries e11 ?_
    show z_G none 5 mX12_isAny 37 [some (.ref 139), some (.int (q1.1 + (1 : Int32))), some (.int (q3.1 + (1 : Int32)))] [.int (z_tb q10.1)] q10.2 Q
    refine g_goto (t := 45) dX12_isAny_37 (by decide) ?_
    cases h
    exact g_iret dX12_isAny_45 rfl nb_tb hq
theorem dX12_isSworn_0 : decode cX12_isSworn 0 = .ok (.aload_n 0, 1) := by decide +kernel
theorem dX12_isSworn_1 : decode cX12_isSworn 1 = .ok (.getfield 35, 3) := by decide +kernel
theorem dX12_isSworn_4 : decode cX12_isSworn 4 = .ok (.iconst 1, 1) := by decide +kernel
theorem dX12_isSworn_5 : decode cX12_isSworn 5 = .ok (.iaload, 1) := by decide +kernel
theorem dX12_isSworn_6 : decode cX12_isSworn 6 = .ok (.iconst 5, 1) := by decide +kernel
theorem dX12_isSworn_7 : decode cX12_isSworn 7 = .ok (.if_icmp .ne 5, 3) := by decide +kernel
theorem dX12_isSworn_10 : decode cX12_isSworn 10 = .ok (.iconst 0, 1) := by decide +kernel
theorem dX12_isSworn_11 : decode cX12_isSworn 11 = .ok (.ireturn, 1) := by decide +kernel
theorem dX12_isSworn_12 : decode cX12_isSworn 12 = .ok (.aload_n 0, 1) := by decide +kernel
theorem dX12_isSworn_13 : decode cX12_isSworn 13 = .ok (.iconst 0, 1) := by decide +kernel
theorem dX12_isSworn_14 : decode cX12_isSworn 14 = .ok (.iload_n 1, 1) := by decide +kernel
theorem dX12_isSworn_15 : decode cX12_isSworn 15 = .ok (.iload_n 2, 1) := by decide +kernel
theorem dX12_isSworn_16 : decode cX12_isSworn 16 = .ok (.iload_n 3, 1) := by decide +kernel
theorem dX12_isSworn_17 : decode cX12_isSworn 17 = .ok (.invokevirtual 266, 3) := by decide +kernel
theorem dX12_isSworn_20 : decode cX12_isSworn 20 = .ok (.iconst 1, 1) := by decide +kernel
theorem dX12_isSworn_21 : decode cX12_isSworn 21 = .ok (.ireturn, 1) := by decide +kernel
def F_X12_isSworn (w : Nat) (M : z_Mem) (a1 : Int32) (a2 : Int32) (a3 : Int32) : Option (Bool × z_Mem) :=
  if (M.1 142 1) = (5 : Int32) then
  some (false, M)
  else
  (F_X12_swears w M (0 : Int32) a1 a2 a3).bind fun q2 =>
  some (true, q2.2)
set_option maxHeartbeats 4000000 in
theorem A_X12_isSworn {w : Nat} {M : z_Mem} {a1 : Int32} {a2 : Int32} {a3 : Int32} {r : Bool} {M' : z_Mem} {Q : Option Value → z_Mem → Prop} (h : F_X12_isSworn w M a1 a2 a3 = some (r, M')) (hq : Q (some (.int (z_tb r))) M') : z_Cl 1 mX12_isSworn [.ref 139, .int a1, .int a2, .int a3] M Q := by
  refine g_in (ls := [some (.ref 139), some (.int a1), some (.int a2), some (.int a3)]) rfl ?_
  unfold F_X12_isSworn at h
  refine g_aload_n dX12_isSworn_0 rfl rfl ?_
  refine g_get (a := 137) (v := .ref 144) dX12_isSworn_1 f_12_35 sh_137 rfl rfl ?_
  refine g_iconst (v := (1 : Int32)) dX12_isSworn_4 (by decide) ?_
  refine g_ialN (a := 142) (j := 1) (v := M.1 142 1) dX12_isSworn_5 sh_142 rfl (by decide) rfl ?_
  refine g_iconst (v := (5 : Int32)) dX12_isSworn_6 (by decide) ?_
  refine g_ic_ne (t := 12) dX12_isSworn_7 (by decide) (fun c1 => ?_) (fun c1 => ?_)
  · replace h := z_iff c1 h
    refine g_aload_n dX12_isSworn_12 rfl rfl ?_
    refine g_iconst (v := (0 : Int32)) dX12_isSworn_13 (by decide) ?_
    refine g_iload_n dX12_isSworn_14 rfl rfl ?_
    refine g_iload_n dX12_isSworn_15 rfl rfl ?_
    refine g_iload_n dX12_isSworn_16 rfl rfl ?_
    obtain ⟨q2, e3, h⟩ := z_bd h
    refine g_callV (a := 137) (as := [.int (0 : Int32), .int a1, .int a2, .int a3]) (rest := []) (c := mX12_swears) (k1 := 0) dX12_isSworn_17 rfl rfl rfl sh_137 rfl rfl (Nat.le_of_ble_eq_true rfl) (Nat.le_of_ble_eq_true rfl) (by decide) ?_
    refine A_X12_swears e3 ?_
    show z_G none 1 mX12_isSworn 20 [some (.ref 139), some (.int a1), some (.int a2), some (.int a3)] [] q2.2 Q
    refine g_iconst (v := (1 : Int32)) dX12_isSworn_20 (by decide) ?_
    cases h
    exact g_iret dX12_isSworn_21 rfl rfl hq
  · replace h := z_ift c1 h
    refine g_iconst (v := (0 : Int32)) dX12_isSworn_10 (by decide) ?_
    cases h
    exact g_iret dX12_isSworn_11 rfl rfl hq
theorem dX12_does_0 : decode cX12_does 0 = .ok (.aload_n 0, 1) := by decide +kernel
theorem dX12_does_1 : decode cX12_does 1 = .ok (.getfield 35, 3) := by decide +kernel
theorem dX12_does_4 : decode cX12_does 4 = .ok (.iload_n 1, 1) := by decide +kernel
theorem dX12_does_5 : decode cX12_does 5 = .ok (.iaload, 1) := by decide +kernel
theorem dX12_does_6 : decode cX12_does 6 = .ok (.istore_n 2, 1) := by decide +kernel
theorem dX12_does_7 : decode cX12_does 7 = .ok (.aload_n 0, 1) := by decide +kernel
theorem dX12_does_8 : decode cX12_does 8 = .ok (.getfield 35, 3) := by decide +kernel
theorem dX12_does_11 : decode cX12_does 11 = .ok (.iload_n 1, 1) := by decide +kernel
theorem dX12_does_12 : decode cX12_does 12 = .ok (.iconst 1, 1) := by decide +kernel
theorem dX12_does_13 : decode cX12_does 13 = .ok (.iadd, 1) := by decide +kernel
theorem dX12_does_14 : decode cX12_does 14 = .ok (.iaload, 1) := by decide +kernel
theorem dX12_does_15 : decode cX12_does 15 = .ok (.istore_n 3, 1) := by decide +kernel
theorem dX12_does_16 : decode cX12_does 16 = .ok (.iload_n 2, 1) := by decide +kernel
theorem dX12_does_17 : decode cX12_does 17 = .ok (.ifCond .ne 9, 3) := by decide +kernel
theorem dX12_does_20 : decode cX12_does 20 = .ok (.aload_n 0, 1) := by decide +kernel
theorem dX12_does_21 : decode cX12_does 21 = .ok (.iload_n 3, 1) := by decide +kernel
theorem dX12_does_22 : decode cX12_does 22 = .ok (.invokevirtual 479, 3) := by decide +kernel
theorem dX12_does_25 : decode cX12_does 25 = .ok (.ireturn, 1) := by decide +kernel
theorem dX12_does_26 : decode cX12_does 26 = .ok (.iload_n 2, 1) := by decide +kernel
theorem dX12_does_27 : decode cX12_does 27 = .ok (.iconst 1, 1) := by decide +kernel
theorem dX12_does_28 : decode cX12_does 28 = .ok (.if_icmp .ne 17, 3) := by decide +kernel
theorem dX12_does_31 : decode cX12_does 31 = .ok (.aload_n 0, 1) := by decide +kernel
theorem dX12_does_32 : decode cX12_does 32 = .ok (.iload_n 3, 1) := by decide +kernel
theorem dX12_does_33 : decode cX12_does 33 = .ok (.aload_n 0, 1) := by decide +kernel
theorem dX12_does_34 : decode cX12_does 34 = .ok (.getfield 35, 3) := by decide +kernel
theorem dX12_does_37 : decode cX12_does 37 = .ok (.iload_n 1, 1) := by decide +kernel
theorem dX12_does_38 : decode cX12_does 38 = .ok (.iconst 2, 1) := by decide +kernel
theorem dX12_does_39 : decode cX12_does 39 = .ok (.iadd, 1) := by decide +kernel
theorem dX12_does_40 : decode cX12_does 40 = .ok (.iaload, 1) := by decide +kernel
theorem dX12_does_41 : decode cX12_does 41 = .ok (.invokevirtual 392, 3) := by decide +kernel
theorem dX12_does_44 : decode cX12_does 44 = .ok (.ireturn, 1) := by decide +kernel
theorem dX12_does_45 : decode cX12_does 45 = .ok (.iload_n 2, 1) := by decide +kernel
theorem dX12_does_46 : decode cX12_does 46 = .ok (.iconst 2, 1) := by decide +kernel
theorem dX12_does_47 : decode cX12_does 47 = .ok (.if_icmp .ne 25, 3) := by decide +kernel
theorem dX12_does_50 : decode cX12_does 50 = .ok (.aload_n 0, 1) := by decide +kernel
theorem dX12_does_51 : decode cX12_does 51 = .ok (.iload_n 3, 1) := by decide +kernel
theorem dX12_does_52 : decode cX12_does 52 = .ok (.aload_n 0, 1) := by decide +kernel
theorem dX12_does_53 : decode cX12_does 53 = .ok (.getfield 35, 3) := by decide +kernel
theorem dX12_does_56 : decode cX12_does 56 = .ok (.iload_n 1, 1) := by decide +kernel
theorem dX12_does_57 : decode cX12_does 57 = .ok (.iconst 2, 1) := by decide +kernel
theorem dX12_does_58 : decode cX12_does 58 = .ok (.iadd, 1) := by decide +kernel
theorem dX12_does_59 : decode cX12_does 59 = .ok (.iaload, 1) := by decide +kernel
theorem dX12_does_60 : decode cX12_does 60 = .ok (.aload_n 0, 1) := by decide +kernel
theorem dX12_does_61 : decode cX12_does 61 = .ok (.getfield 35, 3) := by decide +kernel
theorem dX12_does_64 : decode cX12_does 64 = .ok (.iload_n 1, 1) := by decide +kernel
theorem dX12_does_65 : decode cX12_does 65 = .ok (.iconst 3, 1) := by decide +kernel
theorem dX12_does_66 : decode cX12_does 66 = .ok (.iadd, 1) := by decide +kernel
theorem dX12_does_67 : decode cX12_does 67 = .ok (.iaload, 1) := by decide +kernel
theorem dX12_does_68 : decode cX12_does 68 = .ok (.invokevirtual 482, 3) := by decide +kernel
theorem dX12_does_71 : decode cX12_does 71 = .ok (.ireturn, 1) := by decide +kernel
theorem dX12_does_72 : decode cX12_does 72 = .ok (.iload_n 2, 1) := by decide +kernel
theorem dX12_does_73 : decode cX12_does 73 = .ok (.iconst 3, 1) := by decide +kernel
theorem dX12_does_74 : decode cX12_does 74 = .ok (.if_icmp .ne 11, 3) := by decide +kernel
theorem dX12_does_77 : decode cX12_does 77 = .ok (.aload_n 0, 1) := by decide +kernel
theorem dX12_does_78 : decode cX12_does 78 = .ok (.iload_n 3, 1) := by decide +kernel
theorem dX12_does_79 : decode cX12_does 79 = .ok (.invokevirtual 397, 3) := by decide +kernel
theorem dX12_does_82 : decode cX12_does 82 = .ok (.goto 7, 3) := by decide +kernel
theorem dX12_does_85 : decode cX12_does 85 = .ok (.aload_n 0, 1) := by decide +kernel
theorem dX12_does_86 : decode cX12_does 86 = .ok (.invokevirtual 486, 3) := by decide +kernel
theorem dX12_does_89 : decode cX12_does 89 = .ok (.ireturn, 1) := by decide +kernel
def F_X12_does (w : Nat) (M : z_Mem) (a1 : Int32) : Option (Bool × z_Mem) :=
  if a1 < 0 ∨ 1875 ≤ a1.toNatClampNeg then none else
  if (a1 + (1 : Int32)) < 0 ∨ 1875 ≤ (a1 + (1 : Int32)).toNatClampNeg then none else
  if (M.1 142 a1.toNatClampNeg) = (0 : Int32) then
  (F_X12_pass w M (M.1 142 (a1 + (1 : Int32)).toNatClampNeg)).bind fun q18 =>
  some (q18.1, q18.2)
  else
  if (M.1 142 a1.toNatClampNeg) = (1 : Int32) then
  if (a1 + (2 : Int32)) < 0 ∨ 1875 ≤ (a1 + (2 : Int32)).toNatClampNeg then none else
  (F_X12_carries w M (M.1 142 (a1 + (1 : Int32)).toNatClampNeg) (M.1 142 (a1 + (2 : Int32)).toNatClampNeg)).bind fun q16 =>
  some (q16.1, q16.2)
  else
  if (M.1 142 a1.toNatClampNeg) = (2 : Int32) then
  if (a1 + (2 : Int32)) < 0 ∨ 1875 ≤ (a1 + (2 : Int32)).toNatClampNeg then none else
  if (a1 + (3 : Int32)) < 0 ∨ 1875 ≤ (a1 + (3 : Int32)).toNatClampNeg then none else
  (F_X12_isSworn w M (M.1 142 (a1 + (1 : Int32)).toNatClampNeg) (M.1 142 (a1 + (2 : Int32)).toNatClampNeg) (M.1 142 (a1 + (3 : Int32)).toNatClampNeg)).bind fun q13 =>
  some (q13.1, q13.2)
  else
  if (M.1 142 a1.toNatClampNeg) = (3 : Int32) then
  (F_X12_pays w M (M.1 142 (a1 + (1 : Int32)).toNatClampNeg)).bind fun q9 =>
  some (q9.1, q9.2)
  else
  (F_X12_isAny w M).bind fun q7 =>
  some (q7.1, q7.2)
set_option maxHeartbeats 4000000 in
theorem A_X12_does {w : Nat} {M : z_Mem} {a1 : Int32} {r : Bool} {M' : z_Mem} {Q : Option Value → z_Mem → Prop} (h : F_X12_does w M a1 = some (r, M')) (hq : Q (some (.int (z_tb r))) M') : z_Cl 6 mX12_does [.ref 139, .int a1] M Q := by
  refine g_in (ls := [some (.ref 139), some (.int a1), none, none]) rfl ?_
  unfold F_X12_does at h
  refine g_aload_n dX12_does_0 rfl rfl ?_
  refine g_get (a := 137) (v := .ref 144) dX12_does_1 f_12_35 sh_137 rfl rfl ?_
  refine g_iload_n dX12_does_4 rfl rfl ?_
  by_cases g1 : a1 < 0 ∨ 1875 ≤ a1.toNatClampNeg
  · rw [if_pos g1] at h; cases h
  replace h := z_iff g1 h
  refine g_iald (a := 142) dX12_does_5 sh_142 g1 ?_
  refine g_istore_n (ls' := [some (.ref 139), some (.int a1), some (.int (M.1 142 a1.toNatClampNeg)), none]) dX12_does_6 rfl (Nat.le_of_ble_eq_true rfl) rfl ?_
  refine g_aload_n dX12_does_7 rfl rfl ?_
  refine g_get (a := 137) (v := .ref 144) dX12_does_8 f_12_35 sh_137 rfl rfl ?_
  refine g_iload_n dX12_does_11 rfl rfl ?_
  refine g_iconst (v := (1 : Int32)) dX12_does_12 (by decide) ?_
  refine g_iadd dX12_does_13 ?_
  by_cases g2 : (a1 + (1 : Int32)) < 0 ∨ 1875 ≤ (a1 + (1 : Int32)).toNatClampNeg
  · rw [if_pos g2] at h; cases h
  replace h := z_iff g2 h
  refine g_iald (a := 142) dX12_does_14 sh_142 g2 ?_
  refine g_istore_n (ls' := [some (.ref 139), some (.int a1), some (.int (M.1 142 a1.toNatClampNeg)), some (.int (M.1 142 (a1 + (1 : Int32)).toNatClampNeg))]) dX12_does_15 rfl (Nat.le_of_ble_eq_true rfl) rfl ?_
  refine g_iload_n dX12_does_16 rfl rfl ?_
  refine g_if_ne (t := 26) dX12_does_17 (by decide) (fun c3 => ?_) (fun c3 => ?_)
  · replace h := z_iff c3 h
    refine g_iload_n dX12_does_26 rfl rfl ?_
    refine g_iconst (v := (1 : Int32)) dX12_does_27 (by decide) ?_
    refine g_ic_ne (t := 45) dX12_does_28 (by decide) (fun c4 => ?_) (fun c4 => ?_)
    · replace h := z_iff c4 h
      refine g_iload_n dX12_does_45 rfl rfl ?_
      refine g_iconst (v := (2 : Int32)) dX12_does_46 (by decide) ?_
      refine g_ic_ne (t := 72) dX12_does_47 (by decide) (fun c5 => ?_) (fun c5 => ?_)
      · replace h := z_iff c5 h
        refine g_iload_n dX12_does_72 rfl rfl ?_
        refine g_iconst (v := (3 : Int32)) dX12_does_73 (by decide) ?_
        refine g_ic_ne (t := 85) dX12_does_74 (by decide) (fun c6 => ?_) (fun c6 => ?_)
        · replace h := z_iff c6 h
          refine g_aload_n dX12_does_85 rfl rfl ?_
          obtain ⟨q7, e8, h⟩ := z_bd h
          refine g_callV (a := 137) (as := []) (rest := []) (c := mX12_isAny) (k1 := 5) dX12_does_86 rfl rfl rfl sh_137 rfl rfl (Nat.le_of_ble_eq_true rfl) (Nat.le_of_ble_eq_true rfl) (by decide) ?_
          refine A_X12_isAny e8 ?_
          show z_G none 6 mX12_does 89 [some (.ref 139), some (.int a1), some (.int (M.1 142 a1.toNatClampNeg)), some (.int (M.1 142 (a1 + (1 : Int32)).toNatClampNeg))] [.int (z_tb q7.1)] q7.2 Q
          cases h
          exact g_iret dX12_does_89 rfl nb_tb hq
        · replace h := z_ift c6 h
          refine g_aload_n dX12_does_77 rfl rfl ?_
          refine g_iload_n dX12_does_78 rfl rfl ?_
          obtain ⟨q9, e10, h⟩ := z_bd h
          refine g_callV (a := 137) (as := [.int (M.1 142 (a1 + (1 : Int32)).toNatClampNeg)]) (rest := []) (c := mX12_pays) (k1 := 2) dX12_does_79 rfl rfl rfl sh_137 rfl rfl (Nat.le_of_ble_eq_true rfl) (Nat.le_of_ble_eq_true rfl) (by decide) ?_
          refine A_X12_pays e10 ?_
          show z_G none 6 mX12_does 82 [some (.ref 139), some (.int a1), some (.int (M.1 142 a1.toNatClampNeg)), some (.int (M.1 142 (a1 + (1 : Int32)).toNatClampNeg))] [.int (z_tb q9.1)] q9.2 Q
          refine g_goto (t := 89) dX12_does_82 (by decide) ?_
          cases h
          exact g_iret dX12_does_89 rfl nb_tb hq
      · replace h := z_ift c5 h
        refine g_aload_n dX12_does_50 rfl rfl ?_
        refine g_iload_n dX12_does_51 rfl rfl ?_
        refine g_aload_n dX12_does_52 rfl rfl ?_
        refine g_get (a := 137) (v := .ref 144) dX12_does_53 f_12_35 sh_137 rfl rfl ?_
        refine g_iload_n dX12_does_56 rfl rfl ?_
        refine g_iconst (v := (2 : Int32)) dX12_does_57 (by decide) ?_
        refine g_iadd dX12_does_58 ?_
        by_cases g11 : (a1 + (2 : Int32)) < 0 ∨ 1875 ≤ (a1 + (2 : Int32)).toNatClampNeg
        · rw [if_pos g11] at h; cases h
        replace h := z_iff g11 h
        refine g_iald (a := 142) dX12_does_59 sh_142 g11 ?_
        refine g_aload_n dX12_does_60 rfl rfl ?_
        refine g_get (a := 137) (v := .ref 144) dX12_does_61 f_12_35 sh_137 rfl rfl ?_
        refine g_iload_n dX12_does_64 rfl rfl ?_
        refine g_iconst (v := (3 : Int32)) dX12_does_65 (by decide) ?_
        refine g_iadd dX12_does_66 ?_
        by_cases g12 : (a1 + (3 : Int32)) < 0 ∨ 1875 ≤ (a1 + (3 : Int32)).toNatClampNeg
        · rw [if_pos g12] at h; cases h
        replace h := z_iff g12 h
        refine g_iald (a := 142) dX12_does_67 sh_142 g12 ?_
        obtain ⟨q13, e14, h⟩ := z_bd h
        refine g_callV (a := 137) (as := [.int (M.1 142 (a1 + (1 : Int32)).toNatClampNeg), .int (M.1 142 (a1 + (2 : Int32)).toNatClampNeg), .int (M.1 142 (a1 + (3 : Int32)).toNatClampNeg)]) (rest := []) (c := mX12_isSworn) (k1 := 1) dX12_does_68 rfl rfl rfl sh_137 rfl rfl (Nat.le_of_ble_eq_true rfl) (Nat.le_of_ble_eq_true rfl) (by decide) ?_
        refine A_X12_isSworn e14 ?_
        show z_G none 6 mX12_does 71 [some (.ref 139), some (.int a1), some (.int (M.1 142 a1.toNatClampNeg)), some (.int (M.1 142 (a1 + (1 : Int32)).toNatClampNeg))] [.int (z_tb q13.1)] q13.2 Q
        cases h
        exact g_iret dX12_does_71 rfl nb_tb hq
    · replace h := z_ift c4 h
      refine g_aload_n dX12_does_31 rfl rfl ?_
      refine g_iload_n dX12_does_32 rfl rfl ?_
      refine g_aload_n dX12_does_33 rfl rfl ?_
      refine g_get (a := 137) (v := .ref 144) dX12_does_34 f_12_35 sh_137 rfl rfl ?_
      refine g_iload_n dX12_does_37 rfl rfl ?_
      refine g_iconst (v := (2 : Int32)) dX12_does_38 (by decide) ?_
      refine g_iadd dX12_does_39 ?_
      by_cases g15 : (a1 + (2 : Int32)) < 0 ∨ 1875 ≤ (a1 + (2 : Int32)).toNatClampNeg
      · rw [if_pos g15] at h; cases h
      replace h := z_iff g15 h
      refine g_iald (a := 142) dX12_does_40 sh_142 g15 ?_
      obtain ⟨q16, e17, h⟩ := z_bd h
      refine g_callV (a := 137) (as := [.int (M.1 142 (a1 + (1 : Int32)).toNatClampNeg), .int (M.1 142 (a1 + (2 : Int32)).toNatClampNeg)]) (rest := []) (c := mX12_carries) (k1 := 1) dX12_does_41 rfl rfl rfl sh_137 rfl rfl (Nat.le_of_ble_eq_true rfl) (Nat.le_of_ble_eq_true rfl) (by decide) ?_
      refine A_X12_carries e17 ?_
      show z_G none 6 mX12_does 44 [some (.ref 139), some (.int a1), some (.int (M.1 142 a1.toNatClampNeg)), some (.int (M.1 142 (a1 + (1 : Int32)).toNatClampNeg))] [.int (z_tb q16.1)] q16.2 Q
      cases h
      exact g_iret dX12_does_44 rfl nb_tb hq
  · replace h := z_ift c3 h
    refine g_aload_n dX12_does_20 rfl rfl ?_
    refine g_iload_n dX12_does_21 rfl rfl ?_
    obtain ⟨q18, e19, h⟩ := z_bd h
    refine g_callV (a := 137) (as := [.int (M.1 142 (a1 + (1 : Int32)).toNatClampNeg)]) (rest := []) (c := mX12_pass) (k1 := 4) dX12_does_22 rfl rfl rfl sh_137 rfl rfl (Nat.le_of_ble_eq_true rfl) (Nat.le_of_ble_eq_true rfl) (by decide) ?_
    refine A_X12_pass e19 ?_
    show z_G none 6 mX12_does 25 [some (.ref 139), some (.int a1), some (.int (M.1 142 a1.toNatClampNeg)), some (.int (M.1 142 (a1 + (1 : Int32)).toNatClampNeg))] [.int (z_tb q18.1)] q18.2 Q
    cases h
    exact g_iret dX12_does_25 rfl nb_tb hq
theorem dX12_holds_0 : decode cX12_holds 0 = .ok (.aload_n 0, 1) := by decide +kernel
theorem dX12_holds_1 : decode cX12_holds 1 = .ok (.getfield 35, 3) := by decide +kernel
theorem dX12_holds_4 : decode cX12_holds 4 = .ok (.iload_n 1, 1) := by decide +kernel
theorem dX12_holds_5 : decode cX12_holds 5 = .ok (.iconst 5, 1) := by decide +kernel
theorem dX12_holds_6 : decode cX12_holds 6 = .ok (.iadd, 1) := by decide +kernel
theorem dX12_holds_7 : decode cX12_holds 7 = .ok (.iaload, 1) := by decide +kernel
theorem dX12_holds_8 : decode cX12_holds 8 = .ok (.istore_n 2, 1) := by decide +kernel
theorem dX12_holds_9 : decode cX12_holds 9 = .ok (.aload_n 0, 1) := by decide +kernel
theorem dX12_holds_10 : decode cX12_holds 10 = .ok (.getfield 35, 3) := by decide +kernel
theorem dX12_holds_13 : decode cX12_holds 13 = .ok (.iload_n 1, 1) := by decide +kernel
theorem dX12_holds_14 : decode cX12_holds 14 = .ok (.iconst 1, 1) := by decide +kernel
theorem dX12_holds_15 : decode cX12_holds 15 = .ok (.iadd, 1) := by decide +kernel
theorem dX12_holds_16 : decode cX12_holds 16 = .ok (.iaload, 1) := by decide +kernel
theorem dX12_holds_17 : decode cX12_holds 17 = .ok (.istore_n 3, 1) := by decide +kernel
theorem dX12_holds_18 : decode cX12_holds 18 = .ok (.iload_n 2, 1) := by decide +kernel
theorem dX12_holds_19 : decode cX12_holds 19 = .ok (.ifCond .ne 20, 3) := by decide +kernel
theorem dX12_holds_22 : decode cX12_holds 22 = .ok (.aload_n 0, 1) := by decide +kernel
theorem dX12_holds_23 : decode cX12_holds 23 = .ok (.getfield 35, 3) := by decide +kernel
theorem dX12_holds_26 : decode cX12_holds 26 = .ok (.bipush 8, 2) := by decide +kernel
theorem dX12_holds_28 : decode cX12_holds 28 = .ok (.iaload, 1) := by decide +kernel
theorem dX12_holds_29 : decode cX12_holds 29 = .ok (.iload_n 3, 1) := by decide +kernel
theorem dX12_holds_30 : decode cX12_holds 30 = .ok (.if_icmp .ne 7, 3) := by decide +kernel
theorem dX12_holds_33 : decode cX12_holds 33 = .ok (.iconst 1, 1) := by decide +kernel
theorem dX12_holds_34 : decode cX12_holds 34 = .ok (.goto 4, 3) := by decide +kernel
theorem dX12_holds_37 : decode cX12_holds 37 = .ok (.iconst 0, 1) := by decide +kernel
theorem dX12_holds_38 : decode cX12_holds 38 = .ok (.ireturn, 1) := by decide +kernel
theorem dX12_holds_39 : decode cX12_holds 39 = .ok (.iload_n 2, 1) := by decide +kernel
theorem dX12_holds_40 : decode cX12_holds 40 = .ok (.iconst 2, 1) := by decide +kernel
theorem dX12_holds_41 : decode cX12_holds 41 = .ok (.if_icmp .ne 17, 3) := by decide +kernel
theorem dX12_holds_44 : decode cX12_holds 44 = .ok (.aload_n 0, 1) := by decide +kernel
theorem dX12_holds_45 : decode cX12_holds 45 = .ok (.iload_n 3, 1) := by decide +kernel
theorem dX12_holds_46 : decode cX12_holds 46 = .ok (.invokevirtual 349, 3) := by decide +kernel
theorem dX12_holds_49 : decode cX12_holds 49 = .ok (.ifCond .le 7, 3) := by decide +kernel
theorem dX12_holds_52 : decode cX12_holds 52 = .ok (.iconst 1, 1) := by decide +kernel
theorem dX12_holds_53 : decode cX12_holds 53 = .ok (.goto 4, 3) := by decide +kernel
theorem dX12_holds_56 : decode cX12_holds 56 = .ok (.iconst 0, 1) := by decide +kernel
theorem dX12_holds_57 : decode cX12_holds 57 = .ok (.ireturn, 1) := by decide +kernel
theorem dX12_holds_58 : decode cX12_holds 58 = .ok (.aload_n 0, 1) := by decide +kernel
theorem dX12_holds_59 : decode cX12_holds 59 = .ok (.getfield 35, 3) := by decide +kernel
theorem dX12_holds_62 : decode cX12_holds 62 = .ok (.bipush 12, 2) := by decide +kernel
theorem dX12_holds_64 : decode cX12_holds 64 = .ok (.iload_n 3, 1) := by decide +kernel
theorem dX12_holds_65 : decode cX12_holds 65 = .ok (.iadd, 1) := by decide +kernel
theorem dX12_holds_66 : decode cX12_holds 66 = .ok (.iaload, 1) := by decide +kernel
theorem dX12_holds_67 : decode cX12_holds 67 = .ok (.istore 4, 2) := by decide +kernel
theorem dX12_holds_69 : decode cX12_holds 69 = .ok (.aload_n 0, 1) := by decide +kernel
theorem dX12_holds_70 : decode cX12_holds 70 = .ok (.getfield 35, 3) := by decide +kernel
theorem dX12_holds_73 : decode cX12_holds 73 = .ok (.iload_n 1, 1) := by decide +kernel
theorem dX12_holds_74 : decode cX12_holds 74 = .ok (.bipush 7, 2) := by decide +kernel
theorem dX12_holds_76 : decode cX12_holds 76 = .ok (.iadd, 1) := by decide +kernel
theorem dX12_holds_77 : decode cX12_holds 77 = .ok (.iaload, 1) := by decide +kernel
theorem dX12_holds_78 : decode cX12_holds 78 = .ok (.bipush 60, 2) := by decide +kernel
theorem dX12_holds_80 : decode cX12_holds 80 = .ok (.if_icmp .ne 25, 3) := by decide +kernel
theorem dX12_holds_83 : decode cX12_holds 83 = .ok (.iload 4, 2) := by decide +kernel
theorem dX12_holds_85 : decode cX12_holds 85 = .ok (.aload_n 0, 1) := by decide +kernel
theorem dX12_holds_86 : decode cX12_holds 86 = .ok (.getfield 35, 3) := by decide +kernel
theorem dX12_holds_89 : decode cX12_holds 89 = .ok (.iload_n 1, 1) := by decide +kernel
theorem dX12_holds_90 : decode cX12_holds 90 = .ok (.bipush 6, 2) := by decide +kernel
theorem dX12_holds_92 : decode cX12_holds 92 = .ok (.iadd, 1) := by decide +kernel
theorem dX12_holds_93 : decode cX12_holds 93 = .ok (.iaload, 1) := by decide +kernel
theorem dX12_holds_94 : decode cX12_holds 94 = .ok (.if_icmp .ge 7, 3) := by decide +kernel
theorem dX12_holds_97 : decode cX12_holds 97 = .ok (.iconst 1, 1) := by decide +kernel
theorem dX12_holds_98 : decode cX12_holds 98 = .ok (.goto 62, 3) := by decide +kernel
theorem dX12_holds_101 : decode cX12_holds 101 = .ok (.iconst 0, 1) := by decide +kernel
theorem dX12_holds_102 : decode cX12_holds 102 = .ok (.goto 58, 3) := by decide +kernel
theorem dX12_holds_105 : decode cX12_holds 105 = .ok (.aload_n 0, 1) := by decide +kernel
theorem dX12_holds_106 : decode cX12_holds 106 = .ok (.getfield 35, 3) := by decide +kernel
theorem dX12_holds_109 : decode cX12_holds 109 = .ok (.iload_n 1, 1) := by decide +kernel
theorem dX12_holds_110 : decode cX12_holds 110 = .ok (.bipush 7, 2) := by decide +kernel
theorem dX12_holds_112 : decode cX12_holds 112 = .ok (.iadd, 1) := by decide +kernel
theorem dX12_holds_113 : decode cX12_holds 113 = .ok (.iaload, 1) := by decide +kernel
theorem dX12_holds_114 : decode cX12_holds 114 = .ok (.bipush 62, 2) := by decide +kernel
theorem dX12_holds_116 : decode cX12_holds 116 = .ok (.if_icmp .ne 25, 3) := by decide +kernel
theorem dX12_holds_119 : decode cX12_holds 119 = .ok (.iload 4, 2) := by decide +kernel
theorem dX12_holds_121 : decode cX12_holds 121 = .ok (.aload_n 0, 1) := by decide +kernel
theorem dX12_holds_122 : decode cX12_holds 122 = .ok (.getfield 35, 3) := by decide +kernel
theorem dX12_holds_125 : decode cX12_holds 125 = .ok (.iload_n 1, 1) := by decide +kernel
theorem dX12_holds_126 : decode cX12_holds 126 = .ok (.bipush 6, 2) := by decide +kernel
theorem dX12_holds_128 : decode cX12_holds 128 = .ok (.iadd, 1) := by decide +kernel
theorem dX12_holds_129 : decode cX12_holds 129 = .ok (.iaload, 1) := by decide +kernel
theorem dX12_holds_130 : decode cX12_holds 130 = .ok (.if_icmp .le 7, 3) := by decide +kernel
theorem dX12_holds_133 : decode cX12_holds 133 = .ok (.iconst 1, 1) := by decide +kernel
theorem dX12_holds_134 : decode cX12_holds 134 = .ok (.goto 26, 3) := by decide +kernel
theorem dX12_holds_137 : decode cX12_holds 137 = .ok (.iconst 0, 1) := by decide +kernel
theorem dX12_holds_138 : decode cX12_holds 138 = .ok (.goto 22, 3) := by decide +kernel
theorem dX12_holds_141 : decode cX12_holds 141 = .ok (.iload 4, 2) := by decide +kernel
theorem dX12_holds_143 : decode cX12_holds 143 = .ok (.aload_n 0, 1) := by decide +kernel
theorem dX12_holds_144 : decode cX12_holds 144 = .ok (.getfield 35, 3) := by decide +kernel
theorem dX12_holds_147 : decode cX12_holds 147 = .ok (.iload_n 1, 1) := by decide +kernel
theorem dX12_holds_148 : decode cX12_holds 148 = .ok (.bipush 6, 2) := by decide +kernel
theorem dX12_holds_150 : decode cX12_holds 150 = .ok (.iadd, 1) := by decide +kernel
theorem dX12_holds_151 : decode cX12_holds 151 = .ok (.iaload, 1) := by decide +kernel
theorem dX12_holds_152 : decode cX12_holds 152 = .ok (.if_icmp .ne 7, 3) := by decide +kernel
theorem dX12_holds_155 : decode cX12_holds 155 = .ok (.iconst 1, 1) := by decide +kernel
theorem dX12_holds_156 : decode cX12_holds 156 = .ok (.goto 4, 3) := by decide +kernel
theorem dX12_holds_159 : decode cX12_holds 159 = .ok (.iconst 0, 1) := by decide +kernel
theorem dX12_holds_160 : decode cX12_holds 160 = .ok (.ireturn, 1) := by decide +kernel
def F_X12_holds (w : Nat) (M : z_Mem) (a1 : Int32) : Option (Bool × z_Mem) :=
  if (a1 + (5 : Int32)) < 0 ∨ 1875 ≤ (a1 + (5 : Int32)).toNatClampNeg then none else
  if (a1 + (1 : Int32)) < 0 ∨ 1875 ≤ (a1 + (1 : Int32)).toNatClampNeg then none else
  if (M.1 142 (a1 + (5 : Int32)).toNatClampNeg) = (0 : Int32) then
  if (M.1 142 8) = (M.1 142 (a1 + (1 : Int32)).toNatClampNeg) then
  some (true, M)
  else
  some (false, M)
  else
  if (M.1 142 (a1 + (5 : Int32)).toNatClampNeg) = (2 : Int32) then
  (F_X12_owed w M (M.1 142 (a1 + (1 : Int32)).toNatClampNeg)).bind fun q16 =>
  if q16.1 ≤ (0 : Int32) then
  some (false, q16.2)
  else
  some (true, q16.2)
  else
  if ((12 : Int32) + (M.1 142 (a1 + (1 : Int32)).toNatClampNeg)) < 0 ∨ 1875 ≤ ((12 : Int32) + (M.1 142 (a1 + (1 : Int32)).toNatClampNeg)).toNatClampNeg then none else
  if (a1 + (7 : Int32)) < 0 ∨ 1875 ≤ (a1 + (7 : Int32)).toNatClampNeg then none else
  if (M.1 142 (a1 + (7 : Int32)).toNatClampNeg) = (60 : Int32) then
  if (a1 + (6 : Int32)) < 0 ∨ 1875 ≤ (a1 + (6 : Int32)).toNatClampNeg then none else
  if (M.1 142 (a1 + (6 : Int32)).toNatClampNeg) ≤ (M.1 142 ((12 : Int32) + (M.1 142 (a1 + (1 : Int32)).toNatClampNeg)).toNatClampNeg) then
  some (false, M)
  else
  some (true, M)
  else
  if (a1 + (7 : Int32)) < 0 ∨ 1875 ≤ (a1 + (7 : Int32)).toNatClampNeg then none else
  if (M.1 142 (a1 + (7 : Int32)).toNatClampNeg) = (62 : Int32) then
  if (a1 + (6 : Int32)) < 0 ∨ 1875 ≤ (a1 + (6 : Int32)).toNatClampNeg then none else
  if (M.1 142 ((12 : Int32) + (M.1 142 (a1 + (1 : Int32)).toNatClampNeg)).toNatClampNeg) ≤ (M.1 142 (a1 + (6 : Int32)).toNatClampNeg) then
  some (false, M)
  else
  some (true, M)
  else
  if (a1 + (6 : Int32)) < 0 ∨ 1875 ≤ (a1 + (6 : Int32)).toNatClampNeg then none else
  if (M.1 142 ((12 : Int32) + (M.1 142 (a1 + (1 : Int32)).toNatClampNeg)).toNatClampNeg) = (M.1 142 (a1 + (6 : Int32)).toNatClampNeg) then
  some (true, M)
  else
  some (false, M)
set_option maxHeartbeats 4000000 in
theorem A_X12_holds {w : Nat} {M : z_Mem} {a1 : Int32} {r : Bool} {M' : z_Mem} {Q : Option Value → z_Mem → Prop} (h : F_X12_holds w M a1 = some (r, M')) (hq : Q (some (.int (z_tb r))) M') : z_Cl 1 mX12_holds [.ref 139, .int a1] M Q := by
  refine g_in (ls := [some (.ref 139), some (.int a1), none, none, none]) rfl ?_
  unfold F_X12_holds at h
  refine g_aload_n dX12_holds_0 rfl rfl ?_
  refine g_get (a := 137) (v := .ref 144) dX12_holds_1 f_12_35 sh_137 rfl rfl ?_
  refine g_iload_n dX12_holds_4 rfl rfl ?_
  refine g_iconst (v := (5 : Int32)) dX12_holds_5 (by decide) ?_
  refine g_iadd dX12_holds_6 ?_
  by_cases g1 : (a1 + (5 : Int32)) < 0 ∨ 1875 ≤ (a1 + (5 : Int32)).toNatClampNeg
  · rw [if_pos g1] at h; cases h
  replace h := z_iff g1 h
  refine g_iald (a := 142) dX12_holds_7 sh_142 g1 ?_
  refine g_istore_n (ls' := [some (.ref 139), some (.int a1), some (.int (M.1 142 (a1 + (5 : Int32)).toNatClampNeg)), none, none]) dX12_holds_8 rfl (Nat.le_of_ble_eq_true rfl) rfl ?_
  refine g_aload_n dX12_holds_9 rfl rfl ?_
  refine g_get (a := 137) (v := .ref 144) dX12_holds_10 f_12_35 sh_137 rfl rfl ?_
  refine g_iload_n dX12_holds_13 rfl rfl ?_
  refine g_iconst (v := (1 : Int32)) dX12_holds_14 (by decide) ?_
  refine g_iadd dX12_holds_15 ?_
  by_cases g2 : (a1 + (1 : Int32)) < 0 ∨ 1875 ≤ (a1 + (1 : Int32)).toNatClampNeg
  · rw [if_pos g2] at h; cases h
  replace h := z_iff g2 h
  refine g_iald (a := 142) dX12_holds_16 sh_142 g2 ?_
  refine g_istore_n (ls' := [some (.ref 139), some (.int a1), some (.int (M.1 142 (a1 + (5 : Int32)).toNatClampNeg)), some (.int (M.1 142 (a1 + (1 : Int32)).toNatClampNeg)), none]) dX12_holds_17 rfl (Nat.le_of_ble_eq_true rfl) rfl ?_
  refine g_iload_n dX12_holds_18 rfl rfl ?_
  refine g_if_ne (t := 39) dX12_holds_19 (by decide) (fun c3 => ?_) (fun c3 => ?_)
  · replace h := z_iff c3 h
    refine g_iload_n dX12_holds_39 rfl rfl ?_
    refine g_iconst (v := (2 : Int32)) dX12_holds_40 (by decide) ?_
    refine g_ic_ne (t := 58) dX12_holds_41 (by decide) (fun c4 => ?_) (fun c4 => ?_)
    · replace h := z_iff c4 h
      refine g_aload_n dX12_holds_58 rfl rfl ?_
      refine g_get (a := 137) (v := .ref 144) dX12_holds_59 f_12_35 sh_137 rfl rfl ?_
      refine g_bipush (v := (12 : Int32)) dX12_holds_62 (by decide) ?_
      refine g_iload_n dX12_holds_64 rfl rfl ?_
      refine g_iadd dX12_holds_65 ?_
      by_cases g5 : ((12 : Int32) + (M.1 142 (a1 + (1 : Int32)).toNatClampNeg)) < 0 ∨ 1875 ≤ ((12 : Int32) + (M.1 142 (a1 + (1 : Int32)).toNatClampNeg)).toNatClampNeg
      · rw [if_pos g5] at h; cases h
      replace h := z_iff g5 h
      refine g_iald (a := 142) dX12_holds_66 sh_142 g5 ?_
      refine g_istore (ls' := [some (.ref 139), some (.int a1), some (.int (M.1 142 (a1 + (5 : Int32)).toNatClampNeg)), some (.int (M.1 142 (a1 + (1 : Int32)).toNatClampNeg)), some (.int (M.1 142 ((12 : Int32) + (M.1 142 (a1 + (1 : Int32)).toNatClampNeg)).toNatClampNeg))]) dX12_holds_67 (Nat.le_of_ble_eq_true rfl) rfl ?_
      refine g_aload_n dX12_holds_69 rfl rfl ?_
      refine g_get (a := 137) (v := .ref 144) dX12_holds_70 f_12_35 sh_137 rfl rfl ?_
      refine g_iload_n dX12_holds_73 rfl rfl ?_
      refine g_bipush (v := (7 : Int32)) dX12_holds_74 (by decide) ?_
      refine g_iadd dX12_holds_76 ?_
      by_cases g6 : (a1 + (7 : Int32)) < 0 ∨ 1875 ≤ (a1 + (7 : Int32)).toNatClampNeg
      · rw [if_pos g6] at h; cases h
      replace h := z_iff g6 h
      refine g_iald (a := 142) dX12_holds_77 sh_142 g6 ?_
      refine g_bipush (v := (60 : Int32)) dX12_holds_78 (by decide) ?_
      refine g_ic_ne (t := 105) dX12_holds_80 (by decide) (fun c7 => ?_) (fun c7 => ?_)
      · replace h := z_iff c7 h
        refine g_aload_n dX12_holds_105 rfl rfl ?_
        refine g_get (a := 137) (v := .ref 144) dX12_holds_106 f_12_35 sh_137 rfl rfl ?_
        refine g_iload_n dX12_holds_109 rfl rfl ?_
        refine g_bipush (v := (7 : Int32)) dX12_holds_110 (by decide) ?_
        refine g_iadd dX12_holds_112 ?_
        by_cases g8 : (a1 + (7 : Int32)) < 0 ∨ 1875 ≤ (a1 + (7 : Int32)).toNatClampNeg
        · rw [if_pos g8] at h; cases h
        replace h := z_iff g8 h
        refine g_iald (a := 142) dX12_holds_113 sh_142 g8 ?_
        refine g_bipush (v := (62 : Int32)) dX12_holds_114 (by decide) ?_
        refine g_ic_ne (t := 141) dX12_holds_116 (by decide) (fun c9 => ?_) (fun c9 => ?_)
        · replace h := z_iff c9 h
          refine g_iload dX12_holds_141 rfl ?_
          refine g_aload_n dX12_holds_143 rfl rfl ?_
          refine g_get (a := 137) (v := .ref 144) dX12_holds_144 f_12_35 sh_137 rfl rfl ?_
          refine g_iload_n dX12_holds_147 rfl rfl ?_
          refine g_bipush (v := (6 : Int32)) dX12_holds_148 (by decide) ?_
          refine g_iadd dX12_holds_150 ?_
          by_cases g10 : (a1 + (6 : Int32)) < 0 ∨ 1875 ≤ (a1 + (6 : Int32)).toNatClampNeg
          · rw [if_pos g10] at h; cases h
          replace h := z_iff g10 h
          refine g_iald (a := 142) dX12_holds_151 sh_142 g10 ?_
          refine g_ic_ne (t := 159) dX12_holds_152 (by decide) (fun c11 => ?_) (fun c11 => ?_)
          · replace h := z_iff c11 h
            refine g_iconst (v := (0 : Int32)) dX12_holds_159 (by decide) ?_
            cases h
            exact g_iret dX12_holds_160 rfl rfl hq
          · replace h := z_ift c11 h
            refine g_iconst (v := (1 : Int32)) dX12_holds_155 (by decide) ?_
            refine g_goto (t := 160) dX12_holds_156 (by decide) ?_
            cases h
            exact g_iret dX12_holds_160 rfl rfl hq
        · replace h := z_ift c9 h
          refine g_iload dX12_holds_119 rfl ?_
          refine g_aload_n dX12_holds_121 rfl rfl ?_
          refine g_get (a := 137) (v := .ref 144) dX12_holds_122 f_12_35 sh_137 rfl rfl ?_
          refine g_iload_n dX12_holds_125 rfl rfl ?_
          refine g_bipush (v := (6 : Int32)) dX12_holds_126 (by decide) ?_
          refine g_iadd dX12_holds_128 ?_
          by_cases g12 : (a1 + (6 : Int32)) < 0 ∨ 1875 ≤ (a1 + (6 : Int32)).toNatClampNeg
          · rw [if_pos g12] at h; cases h
          replace h := z_iff g12 h
          refine g_iald (a := 142) dX12_holds_129 sh_142 g12 ?_
          refine g_ic_le (t := 137) dX12_holds_130 (by decide) (fun c13 => ?_) (fun c13 => ?_)
          · replace h := z_ift c13 h
            refine g_iconst (v := (0 : Int32)) dX12_holds_137 (by decide) ?_
            refine g_goto (t := 160) dX12_holds_138 (by decide) ?_
            cases h
            exact g_iret dX12_holds_160 rfl rfl hq
          · replace h := z_iff c13 h
            refine g_iconst (v := (1 : Int32)) dX12_holds_133 (by decide) ?_
            refine g_goto (t := 160) dX12_holds_134 (by decide) ?_
            cases h
            exact g_iret dX12_holds_160 rfl rfl hq
      · replace h := z_ift c7 h
        refine g_iload dX12_holds_83 rfl ?_
        refine g_aload_n dX12_holds_85 rfl rfl ?_
        refine g_get (a := 137) (v := .ref 144) dX12_holds_86 f_12_35 sh_137 rfl rfl ?_
        refine g_iload_n dX12_holds_89 rfl rfl ?_
        refine g_bipush (v := (6 : Int32)) dX12_holds_90 (by decide) ?_
        refine g_iadd dX12_holds_92 ?_
        by_cases g14 : (a1 + (6 : Int32)) < 0 ∨ 1875 ≤ (a1 + (6 : Int32)).toNatClampNeg
        · rw [if_pos g14] at h; cases h
        replace h := z_iff g14 h
        refine g_iald (a := 142) dX12_holds_93 sh_142 g14 ?_
        refine g_ic_ge (t := 101) dX12_holds_94 (by decide) (fun c15 => ?_) (fun c15 => ?_)
        · replace h := z_ift c15 h
          refine g_iconst (v := (0 : Int32)) dX12_holds_101 (by decide) ?_
          refine g_goto (t := 160) dX12_holds_102 (by decide) ?_
          cases h
          exact g_iret dX12_holds_160 rfl rfl hq
        · replace h := z_iff c15 h
          refine g_iconst (v := (1 : Int32)) dX12_holds_97 (by decide) ?_
          refine g_goto (t := 160) dX12_holds_98 (by decide) ?_
          cases h
          exact g_iret dX12_holds_160 rfl rfl hq
    · replace h := z_ift c4 h
      refine g_aload_n dX12_holds_44 rfl rfl ?_
      refine g_iload_n dX12_holds_45 rfl rfl ?_
      obtain ⟨q16, e17, h⟩ := z_bd h
      refine g_callV (a := 137) (as := [.int (M.1 142 (a1 + (1 : Int32)).toNatClampNeg)]) (rest := []) (c := mX12_owed) (k1 := 0) dX12_holds_46 rfl rfl rfl sh_137 rfl rfl (Nat.le_of_ble_eq_true rfl) (Nat.le_of_ble_eq_true rfl) (by decide) ?_
      refine A_X12_owed e17 ?_
      show z_G none 1 mX12_holds 49 [some (.ref 139), some (.int a1), some (.int (M.1 142 (a1 + (5 : Int32)).toNatClampNeg)), some (.int (M.1 142 (a1 + (1 : Int32)).toNatClampNeg)), none] [.int q16.1] q16.2 Q
      refine g_if_le (t := 56) dX12_holds_49 (by decide) (fun c18 => ?_) (fun c18 => ?_)
      · replace h := z_ift c18 h
        refine g_iconst (v := (0 : Int32)) dX12_holds_56 (by decide) ?_
        cases h
        exact g_iret dX12_holds_57 rfl rfl hq
      · replace h := z_iff c18 h
        refine g_iconst (v := (1 : Int32)) dX12_holds_52 (by decide) ?_
        refine g_goto (t := 57) dX12_holds_53 (by decide) ?_
        cases h
        exact g_iret dX12_holds_57 rfl rfl hq
  · replace h := z_ift c3 h
    refine g_aload_n dX12_holds_22 rfl rfl ?_
    refine g_get (a := 137) (v := .ref 144) dX12_holds_23 f_12_35 sh_137 rfl rfl ?_
    refine g_bipush (v := (8 : Int32)) dX12_holds_26 (by decide) ?_
    refine g_ialN (a := 142) (j := 8) (v := M.1 142 8) dX12_holds_28 sh_142 rfl (by decide) rfl ?_
    refine g_iload_n dX12_holds_29 rfl rfl ?_
    refine g_ic_ne (t := 37) dX12_holds_30 (by decide) (fun c19 => ?_) (fun c19 => ?_)
    · replace h := z_iff c19 h
      refine g_iconst (v := (0 : Int32)) dX12_holds_37 (by decide) ?_
      cases h
      exact g_iret dX12_holds_38 rfl rfl hq
    · replace h := z_ift c19 h
      refine g_iconst (v := (1 : Int32)) dX12_holds_33 (by decide) ?_
      refine g_goto (t := 38) dX12_holds_34 (by decide) ?_
      cases h
      exact g_iret dX12_holds_38 rfl rfl hq
theorem dX12_lived_0 : decode cX12_lived 0 = .ok (.aload_n 0, 1) := by decide +kernel
theorem dX12_lived_1 : decode cX12_lived 1 = .ok (.iconst 0, 1) := by decide +kernel
theorem dX12_lived_2 : decode cX12_lived 2 = .ok (.putfield 57, 3) := by decide +kernel
theorem dX12_lived_5 : decode cX12_lived 5 = .ok (.aload_n 0, 1) := by decide +kernel
theorem dX12_lived_6 : decode cX12_lived 6 = .ok (.iconst 0, 1) := by decide +kernel
theorem dX12_lived_7 : decode cX12_lived 7 = .ok (.putfield 60, 3) := by decide +kernel
theorem dX12_lived_10 : decode cX12_lived 10 = .ok (.iload_n 1, 1) := by decide +kernel
theorem dX12_lived_11 : decode cX12_lived 11 = .ok (.i2l, 1) := by decide +kernel
theorem dX12_lived_12 : decode cX12_lived 12 = .ok (.lconst 0, 1) := by decide +kernel
theorem dX12_lived_13 : decode cX12_lived 13 = .ok (.ldc2_w 342, 3) := by decide +kernel
theorem dX12_lived_16 : decode cX12_lived 16 = .ok (.invokestatic 92, 3) := by decide +kernel
theorem dX12_lived_19 : decode cX12_lived 19 = .ok (.ifCond .ne 9, 3) := by decide +kernel
theorem dX12_lived_22 : decode cX12_lived 22 = .ok (.aload_n 0, 1) := by decide +kernel
theorem dX12_lived_23 : decode cX12_lived 23 = .ok (.iconst 5, 1) := by decide +kernel
theorem dX12_lived_24 : decode cX12_lived 24 = .ok (.invokevirtual 333, 3) := by decide +kernel
theorem dX12_lived_27 : decode cX12_lived 27 = .ok (.ireturn, 1) := by decide +kernel
theorem dX12_lived_28 : decode cX12_lived 28 = .ok (.aload_n 0, 1) := by decide +kernel
theorem dX12_lived_29 : decode cX12_lived 29 = .ok (.getfield 528, 3) := by decide +kernel
theorem dX12_lived_32 : decode cX12_lived 32 = .ok (.ifCond .eq 12, 3) := by decide +kernel
theorem dX12_lived_35 : decode cX12_lived 35 = .ok (.aload_n 0, 1) := by decide +kernel
theorem dX12_lived_36 : decode cX12_lived 36 = .ok (.getfield 50, 3) := by decide +kernel
theorem dX12_lived_39 : decode cX12_lived 39 = .ok (.iload_n 1, 1) := by decide +kernel
theorem dX12_lived_40 : decode cX12_lived 40 = .ok (.iaload, 1) := by decide +kernel
theorem dX12_lived_41 : decode cX12_lived 41 = .ok (.goto 9, 3) := by decide +kernel
theorem dX12_lived_44 : decode cX12_lived 44 = .ok (.aload_n 0, 1) := by decide +kernel
theorem dX12_lived_45 : decode cX12_lived 45 = .ok (.bipush 8, 2) := by decide +kernel
theorem dX12_lived_47 : decode cX12_lived 47 = .ok (.invokevirtual 333, 3) := by decide +kernel
theorem dX12_lived_50 : decode cX12_lived 50 = .ok (.ireturn, 1) := by decide +kernel
def F_X12_lived (w : Nat) (M : z_Mem) (a1 : Int32) : Option (Int32 × z_Mem) :=
  (F_X12_isIn w (z_wI (z_wI M 137 1 (0 : Int32)) 137 0 (0 : Int32)) a1.toInt64 (0 : Int64) (4 : Int64)).bind fun q1 =>
  if q1.1 = true then
  if (z_bb (q1.2.1 137 30)) = true then
  if a1 < 0 ∨ 5 ≤ a1.toNatClampNeg then none else
  some (q1.2.1 147 a1.toNatClampNeg, q1.2)
  else
  (F_X12_refuse w q1.2 (8 : Int32)).bind fun q5 =>
  some (q5.1, q5.2)
  else
  (F_X12_refuse w q1.2 (5 : Int32)).bind fun q8 =>
  some (q8.1, q8.2)
set_option maxHeartbeats 4000000 in
theorem A_X12_lived {w : Nat} {M : z_Mem} {a1 : Int32} {r : Int32} {M' : z_Mem} {Q : Option Value → z_Mem → Prop} (h : F_X12_lived w M a1 = some (r, M')) (hq : Q (some (.int r)) M') : z_Cl 1 mX12_lived [.ref 139, .int a1] M Q := by
  refine g_in (ls := [some (.ref 139), some (.int a1)]) rfl ?_
  unfold F_X12_lived at h
  refine g_aload_n dX12_lived_0 rfl rfl ?_
  refine g_iconst (v := (0 : Int32)) dX12_lived_1 (by decide) ?_
  refine g_putI (a := 137) dX12_lived_2 f_12_57 sh_137 rfl rfl rfl ?_
  refine g_aload_n dX12_lived_5 rfl rfl ?_
  refine g_iconst (v := (0 : Int32)) dX12_lived_6 (by decide) ?_
  refine g_putI (a := 137) dX12_lived_7 f_12_60 sh_137 rfl rfl rfl ?_
  refine g_iload_n dX12_lived_10 rfl rfl ?_
  refine g_i2l dX12_lived_11 ?_
  refine g_lconst (v := (0 : Int64)) dX12_lived_12 (by decide) ?_
  refine g_ldc2_w dX12_lived_13 rfl ?_
  obtain ⟨q1, e2, h⟩ := z_bd h
  refine g_callS (as := [.long a1.toInt64, .long (0 : Int64), .long (4 : Int64)]) (rest := []) (c := mX12_isIn) (k1 := 0) dX12_lived_16 rfl rfl rfl rfl rfl (Nat.le_of_ble_eq_true rfl) (Nat.le_of_ble_eq_true rfl) (by decide) ?_
  refine A_X12_isIn e2 ?_
  show z_G none 1 mX12_lived 19 [some (.ref 139), some (.int a1)] [.int (z_tb q1.1)] q1.2 Q
  refine g_if_ne (t := 28) dX12_lived_19 (by decide) (fun c3 => ?_) (fun c3 => ?_)
  · replace h := z_ift (z_tbn.mp c3) h
    refine g_aload_n dX12_lived_28 rfl rfl ?_
    refine g_get (a := 137) (v := .int (z_tb (z_bb (q1.2.1 137 30)))) dX12_lived_29 f_12_528 sh_137 rfl z_fvZ ?_
    refine g_if_eq (t := 44) dX12_lived_32 (by decide) (fun c4 => ?_) (fun c4 => ?_)
    · replace h := z_iff (z_tb0.mp c4) h
      refine g_aload_n dX12_lived_44 rfl rfl ?_
      refine g_bipush (v := (8 : Int32)) dX12_lived_45 (by decide) ?_
      obtain ⟨q5, e6, h⟩ := z_bd h
      refine g_callV (a := 137) (as := [.int (8 : Int32)]) (rest := []) (c := mX12_refuse) (k1 := 0) dX12_lived_47 rfl rfl rfl sh_137 rfl rfl (Nat.le_of_ble_eq_true rfl) (Nat.le_of_ble_eq_true rfl) (by decide) ?_
      refine A_X12_refuse e6 ?_
      show z_G none 1 mX12_lived 50 [some (.ref 139), some (.int a1)] [.int q5.1] q5.2 Q
      cases h
      exact g_iret dX12_lived_50 rfl rfl hq
    · replace h := z_ift (z_tbn.mp c4) h
      refine g_aload_n dX12_lived_35 rfl rfl ?_
      refine g_get (a := 137) (v := .ref 149) dX12_lived_36 f_12_50 sh_137 rfl rfl ?_
      refine g_iload_n dX12_lived_39 rfl rfl ?_
      by_cases g7 : a1 < 0 ∨ 5 ≤ a1.toNatClampNeg
      · rw [if_pos g7] at h; cases h
      replace h := z_iff g7 h
      refine g_iald (a := 147) dX12_lived_40 sh_147 g7 ?_
      refine g_goto (t := 50) dX12_lived_41 (by decide) ?_
      cases h
      exact g_iret dX12_lived_50 rfl rfl hq
  · replace h := z_iff (z_tb0.mp c3) h
    refine g_aload_n dX12_lived_22 rfl rfl ?_
    refine g_iconst (v := (5 : Int32)) dX12_lived_23 (by decide) ?_
    obtain ⟨q8, e9, h⟩ := z_bd h
    refine g_callV (a := 137) (as := [.int (5 : Int32)]) (rest := []) (c := mX12_refuse) (k1 := 0) dX12_lived_24 rfl rfl rfl sh_137 rfl rfl (Nat.le_of_ble_eq_true rfl) (Nat.le_of_ble_eq_true rfl) (by decide) ?_
    refine A_X12_refuse e9 ?_
    show z_G none 1 mX12_lived 27 [some (.ref 139), some (.int a1)] [.int q8.1] q8.2 Q
    cases h
    exact g_iret dX12_lived_27 rfl rfl hq
theorem dX12_mark_0 : decode cX12_mark 0 = .ok (.aload_n 0, 1) := by decide +kernel
theorem dX12_mark_1 : decode cX12_mark 1 = .ok (.iconst 0, 1) := by decide +kernel
theorem dX12_mark_2 : decode cX12_mark 2 = .ok (.putfield 57, 3) := by decide +kernel
theorem dX12_mark_5 : decode cX12_mark 5 = .ok (.aload_n 0, 1) := by decide +kernel
theorem dX12_mark_6 : decode cX12_mark 6 = .ok (.iconst 0, 1) := by decide +kernel
theorem dX12_mark_7 : decode cX12_mark 7 = .ok (.putfield 60, 3) := by decide +kernel
theorem dX12_mark_10 : decode cX12_mark 10 = .ok (.aload_n 0, 1) := by decide +kernel
theorem dX12_mark_11 : decode cX12_mark 11 = .ok (.getfield 531, 3) := by decide +kernel
theorem dX12_mark_14 : decode cX12_mark 14 = .ok (.iconst 3, 1) := by decide +kernel
theorem dX12_mark_15 : decode cX12_mark 15 = .ok (.if_icmp .ne 10, 3) := by decide +kernel
theorem dX12_mark_18 : decode cX12_mark 18 = .ok (.aload_n 0, 1) := by decide +kernel
theorem dX12_mark_19 : decode cX12_mark 19 = .ok (.bipush 7, 2) := by decide +kernel
theorem dX12_mark_21 : decode cX12_mark 21 = .ok (.invokevirtual 333, 3) := by decide +kernel
theorem dX12_mark_24 : decode cX12_mark 24 = .ok (.ireturn, 1) := by decide +kernel
theorem dX12_mark_25 : decode cX12_mark 25 = .ok (.aload_n 0, 1) := by decide +kernel
theorem dX12_mark_26 : decode cX12_mark 26 = .ok (.dup, 1) := by decide +kernel
theorem dX12_mark_27 : decode cX12_mark 27 = .ok (.getfield 531, 3) := by decide +kernel
theorem dX12_mark_30 : decode cX12_mark 30 = .ok (.iconst 1, 1) := by decide +kernel
theorem dX12_mark_31 : decode cX12_mark 31 = .ok (.iadd, 1) := by decide +kernel
theorem dX12_mark_32 : decode cX12_mark 32 = .ok (.putfield 531, 3) := by decide +kernel
theorem dX12_mark_35 : decode cX12_mark 35 = .ok (.aload_n 0, 1) := by decide +kernel
theorem dX12_mark_36 : decode cX12_mark 36 = .ok (.iconst 0, 1) := by decide +kernel
theorem dX12_mark_37 : decode cX12_mark 37 = .ok (.aload_n 0, 1) := by decide +kernel
theorem dX12_mark_38 : decode cX12_mark 38 = .ok (.getfield 531, 3) := by decide +kernel
theorem dX12_mark_41 : decode cX12_mark 41 = .ok (.invokevirtual 316, 3) := by decide +kernel
theorem dX12_mark_44 : decode cX12_mark 44 = .ok (.aload_n 0, 1) := by decide +kernel
theorem dX12_mark_45 : decode cX12_mark 45 = .ok (.getfield 531, 3) := by decide +kernel
theorem dX12_mark_48 : decode cX12_mark 48 = .ok (.ireturn, 1) := by decide +kernel
def F_X12_mark (w : Nat) (M : z_Mem) : Option (Int32 × z_Mem) :=
  if (M.1 137 23) = (3 : Int32) then
  (F_X12_refuse w (z_wI (z_wI M 137 1 (0 : Int32)) 137 0 (0 : Int32)) (7 : Int32)).bind fun q4 =>
  some (q4.1, q4.2)
  else
  (F_X12_copy w (z_wI (z_wI (z_wI M 137 1 (0 : Int32)) 137 0 (0 : Int32)) 137 23 ((M.1 137 23) + (1 : Int32))) (0 : Int32) ((M.1 137 23) + (1 : Int32))).bind fun q2 =>
  some (q2.2.1 137 23, q2.2)
set_option maxHeartbeats 4000000 in
theorem A_X12_mark {w : Nat} {M : z_Mem} {r : Int32} {M' : z_Mem} {Q : Option Value → z_Mem → Prop} (h : F_X12_mark w M = some (r, M')) (hq : Q (some (.int r)) M') : z_Cl 1 mX12_mark [.ref 139] M Q := by
  refine g_in (ls := [some (.ref 139)]) rfl ?_
  unfold F_X12_mark at h
  refine g_aload_n dX12_mark_0 rfl rfl ?_
  refine g_iconst (v := (0 : Int32)) dX12_mark_1 (by decide) ?_
  refine g_putI (a := 137) dX12_mark_2 f_12_57 sh_137 rfl rfl rfl ?_
  refine g_aload_n dX12_mark_5 rfl rfl ?_
  refine g_iconst (v := (0 : Int32)) dX12_mark_6 (by decide) ?_
  refine g_putI (a := 137) dX12_mark_7 f_12_60 sh_137 rfl rfl rfl ?_
  refine g_aload_n dX12_mark_10 rfl rfl ?_
  refine g_get (a := 137) (v := .int (M.1 137 23)) dX12_mark_11 f_12_531 sh_137 rfl (by simp [z_fv, z_wI, z_wL, z_wLs, upd, vp_updL]) ?_
  refine g_iconst (v := (3 : Int32)) dX12_mark_14 (by decide) ?_
  refine g_ic_ne (t := 25) dX12_mark_15 (by decide) (fun c1 => ?_) (fun c1 => ?_)
  · replace h := z_iff c1 h
    refine g_aload_n dX12_mark_25 rfl rfl ?_
    refine g_dup dX12_mark_26 rfl ?_
    refine g_get (a := 137) (v := .int (M.1 137 23)) dX12_mark_27 f_12_531 sh_137 rfl (by simp [z_fv, z_wI, z_wL, z_wLs, upd, vp_updL]) ?_
    refine g_iconst (v := (1 : Int32)) dX12_mark_30 (by decide) ?_
    refine g_iadd dX12_mark_31 ?_
    refine g_putI (a := 137) dX12_mark_32 f_12_531 sh_137 rfl rfl rfl ?_
    refine g_aload_n dX12_mark_35 rfl rfl ?_
    refine g_iconst (v := (0 : Int32)) dX12_mark_36 (by decide) ?_
    refine g_aload_n dX12_mark_37 rfl rfl ?_
    refine g_get (a := 137) (v := .int ((M.1 137 23) + (1 : Int32))) dX12_mark_38 f_12_531 sh_137 rfl (by simp [z_fv, z_wI, z_wL, z_wLs, upd, vp_updL]) ?_
    obtain ⟨q2, e3, h⟩ := z_bd h
    refine g_callV (a := 137) (as := [.int (0 : Int32), .int ((M.1 137 23) + (1 : Int32))]) (rest := []) (c := mX12_copy) (k1 := 0) dX12_mark_41 rfl rfl rfl sh_137 rfl rfl (Nat.le_of_ble_eq_true rfl) (Nat.le_of_ble_eq_true rfl) (by decide) ?_
    refine A_X12_copy e3 ?_
    show z_G none 1 mX12_mark 44 [some (.ref 139)] [] q2.2 Q
    refine g_aload_n dX12_mark_44 rfl rfl ?_
    refine g_get (a := 137) (v := .int (q2.2.1 137 23)) dX12_mark_45 f_12_531 sh_137 rfl rfl ?_
    cases h
    exact g_iret dX12_mark_48 rfl rfl hq
  · replace h := z_ift c1 h
    refine g_aload_n dX12_mark_18 rfl rfl ?_
    refine g_bipush (v := (7 : Int32)) dX12_mark_19 (by decide) ?_
    obtain ⟨q4, e5, h⟩ := z_bd h
    refine g_callV (a := 137) (as := [.int (7 : Int32)]) (rest := []) (c := mX12_refuse) (k1 := 0) dX12_mark_21 rfl rfl rfl sh_137 rfl rfl (Nat.le_of_ble_eq_true rfl) (Nat.le_of_ble_eq_true rfl) (by decide) ?_
    refine A_X12_refuse e5 ?_
    show z_G none 1 mX12_mark 24 [some (.ref 139)] [.int q4.1] q4.2 Q
    cases h
    exact g_iret dX12_mark_24 rfl rfl hq
theorem dX12_back_0 : decode cX12_back 0 = .ok (.aload_n 0, 1) := by decide +kernel
theorem dX12_back_1 : decode cX12_back 1 = .ok (.iconst 0, 1) := by decide +kernel
theorem dX12_back_2 : decode cX12_back 2 = .ok (.putfield 57, 3) := by decide +kernel
theorem dX12_back_5 : decode cX12_back 5 = .ok (.aload_n 0, 1) := by decide +kernel
theorem dX12_back_6 : decode cX12_back 6 = .ok (.iconst 0, 1) := by decide +kernel
theorem dX12_back_7 : decode cX12_back 7 = .ok (.putfield 60, 3) := by decide +kernel
theorem dX12_back_10 : decode cX12_back 10 = .ok (.aload_n 0, 1) := by decide +kernel
theorem dX12_back_11 : decode cX12_back 11 = .ok (.getfield 531, 3) := by decide +kernel
theorem dX12_back_14 : decode cX12_back 14 = .ok (.ifCond .ne 10, 3) := by decide +kernel
theorem dX12_back_17 : decode cX12_back 17 = .ok (.aload_n 0, 1) := by decide +kernel
theorem dX12_back_18 : decode cX12_back 18 = .ok (.bipush 8, 2) := by decide +kernel
theorem dX12_back_20 : decode cX12_back 20 = .ok (.invokevirtual 333, 3) := by decide +kernel
theorem dX12_back_23 : decode cX12_back 23 = .ok (.ireturn, 1) := by decide +kernel
theorem dX12_back_24 : decode cX12_back 24 = .ok (.aload_n 0, 1) := by decide +kernel
theorem dX12_back_25 : decode cX12_back 25 = .ok (.aload_n 0, 1) := by decide +kernel
theorem dX12_back_26 : decode cX12_back 26 = .ok (.getfield 531, 3) := by decide +kernel
theorem dX12_back_29 : decode cX12_back 29 = .ok (.iconst 0, 1) := by decide +kernel
theorem dX12_back_30 : decode cX12_back 30 = .ok (.invokevirtual 316, 3) := by decide +kernel
theorem dX12_back_33 : decode cX12_back 33 = .ok (.aload_n 0, 1) := by decide +kernel
theorem dX12_back_34 : decode cX12_back 34 = .ok (.dup, 1) := by decide +kernel
theorem dX12_back_35 : decode cX12_back 35 = .ok (.getfield 531, 3) := by decide +kernel
theorem dX12_back_38 : decode cX12_back 38 = .ok (.iconst 1, 1) := by decide +kernel
theorem dX12_back_39 : decode cX12_back 39 = .ok (.isub, 1) := by decide +kernel
theorem dX12_back_40 : decode cX12_back 40 = .ok (.putfield 531, 3) := by decide +kernel
theorem dX12_back_43 : decode cX12_back 43 = .ok (.aload_n 0, 1) := by decide +kernel
theorem dX12_back_44 : decode cX12_back 44 = .ok (.getfield 531, 3) := by decide +kernel
theorem dX12_back_47 : decode cX12_back 47 = .ok (.ireturn, 1) := by decide +kernel
def F_X12_back (w : Nat) (M : z_Mem) : Option (Int32 × z_Mem) :=
  if (M.1 137 23) = (0 : Int32) then
  (F_X12_refuse w (z_wI (z_wI M 137 1 (0 : Int32)) 137 0 (0 : Int32)) (8 : Int32)).bind fun q4 =>
  some (q4.1, q4.2)
  else
  (F_X12_copy w (z_wI (z_wI M 137 1 (0 : Int32)) 137 0 (0 : Int32)) (M.1 137 23) (0 : Int32)).bind fun q2 =>
  some ((q2.2.1 137 23) - (1 : Int32), (z_wI q2.2 137 23 ((q2.2.1 137 23) - (1 : Int32))))
set_option maxHeartbeats 4000000 in
theorem A_X12_back {w : Nat} {M : z_Mem} {r : Int32} {M' : z_Mem} {Q : Option Value → z_Mem → Prop} (h : F_X12_back w M = some (r, M')) (hq : Q (some (.int r)) M') : z_Cl 1 mX12_back [.ref 139] M Q := by
  refine g_in (ls := [some (.ref 139)]) rfl ?_
  unfold F_X12_back at h
  refine g_aload_n dX12_back_0 rfl rfl ?_
  refine g_iconst (v := (0 : Int32)) dX12_back_1 (by decide) ?_
  refine g_putI (a := 137) dX12_back_2 f_12_57 sh_137 rfl rfl rfl ?_
  refine g_aload_n dX12_back_5 rfl rfl ?_
  refine g_iconst (v := (0 : Int32)) dX12_back_6 (by decide) ?_
  refine g_putI (a := 137) dX12_back_7 f_12_60 sh_137 rfl rfl rfl ?_
  refine g_aload_n dX12_back_10 rfl rfl ?_
  refine g_get (a := 137) (v := .int (M.1 137 23)) dX12_back_11 f_12_531 sh_137 rfl (by simp [z_fv, z_wI, z_wL, z_wLs, upd, vp_updL]) ?_
  refine g_if_ne (t := 24) dX12_back_14 (by decide) (fun c1 => ?_) (fun c1 => ?_)
  · replace h := z_iff c1 h
    refine g_aload_n dX12_back_24 rfl rfl ?_
    refine g_aload_n dX12_back_25 rfl rfl ?_
    refine g_get (a := 137) (v := .int (M.1 137 23)) dX12_back_26 f_12_531 sh_137 rfl (by simp [z_fv, z_wI, z_wL, z_wLs, upd, vp_updL]) ?_
    refine g_iconst (v := (0 : Int32)) dX12_back_29 (by decide) ?_
    obtain ⟨q2, e3, h⟩ := z_bd h
    refine g_callV (a := 137) (as := [.int (M.1 137 23), .int (0 : Int32)]) (rest := []) (c := mX12_copy) (k1 := 0) dX12_back_30 rfl rfl rfl sh_137 rfl rfl (Nat.le_of_ble_eq_true rfl) (Nat.le_of_ble_eq_true rfl) (by decide) ?_
    refine A_X12_copy e3 ?_
    show z_G none 1 mX12_back 33 [some (.ref 139)] [] q2.2 Q
    refine g_aload_n dX12_back_33 rfl rfl ?_
    refine g_dup dX12_back_34 rfl ?_
    refine g_get (a := 137) (v := .int (q2.2.1 137 23)) dX12_back_35 f_12_531 sh_137 rfl rfl ?_
    refine g_iconst (v := (1 : Int32)) dX12_back_38 (by decide) ?_
    refine g_isub dX12_back_39 ?_
    refine g_putI (a := 137) dX12_back_40 f_12_531 sh_137 rfl rfl rfl ?_
    refine g_aload_n dX12_back_43 rfl rfl ?_
    refine g_get (a := 137) (v := .int ((q2.2.1 137 23) - (1 : Int32))) dX12_back_44 f_12_531 sh_137 rfl (by simp [z_fv, z_wI, z_wL, z_wLs, upd, vp_updL]) ?_
    cases h
    exact g_iret dX12_back_47 rfl rfl hq
  · replace h := z_ift c1 h
    refine g_aload_n dX12_back_17 rfl rfl ?_
    refine g_bipush (v := (8 : Int32)) dX12_back_18 (by decide) ?_
    obtain ⟨q4, e5, h⟩ := z_bd h
    refine g_callV (a := 137) (as := [.int (8 : Int32)]) (rest := []) (c := mX12_refuse) (k1 := 0) dX12_back_20 rfl rfl rfl sh_137 rfl rfl (Nat.le_of_ble_eq_true rfl) (Nat.le_of_ble_eq_true rfl) (by decide) ?_
    refine A_X12_refuse e5 ?_
    show z_G none 1 mX12_back 23 [some (.ref 139)] [.int q4.1] q4.2 Q
    cases h
    exact g_iret dX12_back_23 rfl rfl hq
