/-! ===== the methods as functions, 5 ===== -/
theorem dX11_grant_0 : decode cX11_grant 0 = .ok (.aload_n 0, 1) := by decide +kernel
theorem dX11_grant_1 : decode cX11_grant 1 = .ok (.getfield 26, 3) := by decide +kernel
theorem dX11_grant_4 : decode cX11_grant 4 = .ok (.getfield 155, 3) := by decide +kernel
theorem dX11_grant_7 : decode cX11_grant 7 = .ok (.astore 4, 2) := by decide +kernel
theorem dX11_grant_9 : decode cX11_grant 9 = .ok (.aload 4, 2) := by decide +kernel
theorem dX11_grant_11 : decode cX11_grant 11 = .ok (.iload_n 1, 1) := by decide +kernel
theorem dX11_grant_12 : decode cX11_grant 12 = .ok (.invokevirtual 232, 3) := by decide +kernel
theorem dX11_grant_15 : decode cX11_grant 15 = .ok (.ifCond .ne 9, 3) := by decide +kernel
theorem dX11_grant_18 : decode cX11_grant 18 = .ok (.aload_n 0, 1) := by decide +kernel
theorem dX11_grant_19 : decode cX11_grant 19 = .ok (.iconst 2, 1) := by decide +kernel
theorem dX11_grant_20 : decode cX11_grant 20 = .ok (.invokevirtual 94, 3) := by decide +kernel
theorem dX11_grant_23 : decode cX11_grant 23 = .ok (.ireturn, 1) := by decide +kernel
theorem dX11_grant_24 : decode cX11_grant 24 = .ok (.iload_n 2, 1) := by decide +kernel
theorem dX11_grant_25 : decode cX11_grant 25 = .ok (.iconst 0, 1) := by decide +kernel
theorem dX11_grant_26 : decode cX11_grant 26 = .ok (.bipush 11, 2) := by decide +kernel
theorem dX11_grant_28 : decode cX11_grant 28 = .ok (.invokestatic 283, 3) := by decide +kernel
theorem dX11_grant_31 : decode cX11_grant 31 = .ok (.ifCond .ne 9, 3) := by decide +kernel
theorem dX11_grant_34 : decode cX11_grant 34 = .ok (.aload_n 0, 1) := by decide +kernel
theorem dX11_grant_35 : decode cX11_grant 35 = .ok (.iconst 5, 1) := by decide +kernel
theorem dX11_grant_36 : decode cX11_grant 36 = .ok (.invokevirtual 94, 3) := by decide +kernel
theorem dX11_grant_39 : decode cX11_grant 39 = .ok (.ireturn, 1) := by decide +kernel
theorem dX11_grant_40 : decode cX11_grant 40 = .ok (.aload 4, 2) := by decide +kernel
theorem dX11_grant_42 : decode cX11_grant 42 = .ok (.iload_n 1, 1) := by decide +kernel
theorem dX11_grant_43 : decode cX11_grant 43 = .ok (.iload_n 2, 1) := by decide +kernel
theorem dX11_grant_44 : decode cX11_grant 44 = .ok (.invokevirtual 296, 3) := by decide +kernel
theorem dX11_grant_47 : decode cX11_grant 47 = .ok (.iload_n 3, 1) := by decide +kernel
theorem dX11_grant_48 : decode cX11_grant 48 = .ok (.if_icmp .ne 10, 3) := by decide +kernel
theorem dX11_grant_51 : decode cX11_grant 51 = .ok (.aload_n 0, 1) := by decide +kernel
theorem dX11_grant_52 : decode cX11_grant 52 = .ok (.bipush 9, 2) := by decide +kernel
theorem dX11_grant_54 : decode cX11_grant 54 = .ok (.invokevirtual 94, 3) := by decide +kernel
theorem dX11_grant_57 : decode cX11_grant 57 = .ok (.ireturn, 1) := by decide +kernel
theorem dX11_grant_58 : decode cX11_grant 58 = .ok (.aload 4, 2) := by decide +kernel
theorem dX11_grant_60 : decode cX11_grant 60 = .ok (.getfield 247, 3) := by decide +kernel
theorem dX11_grant_63 : decode cX11_grant 63 = .ok (.iload_n 1, 1) := by decide +kernel
theorem dX11_grant_64 : decode cX11_grant 64 = .ok (.dup2, 1) := by decide +kernel
theorem dX11_grant_65 : decode cX11_grant 65 = .ok (.iaload, 1) := by decide +kernel
theorem dX11_grant_66 : decode cX11_grant 66 = .ok (.iconst 1, 1) := by decide +kernel
theorem dX11_grant_67 : decode cX11_grant 67 = .ok (.iload_n 2, 1) := by decide +kernel
theorem dX11_grant_68 : decode cX11_grant 68 = .ok (.ishl, 1) := by decide +kernel
theorem dX11_grant_69 : decode cX11_grant 69 = .ok (.ixor, 1) := by decide +kernel
theorem dX11_grant_70 : decode cX11_grant 70 = .ok (.iastore, 1) := by decide +kernel
theorem dX11_grant_71 : decode cX11_grant 71 = .ok (.aload_n 0, 1) := by decide +kernel
theorem dX11_grant_72 : decode cX11_grant 72 = .ok (.invokevirtual 101, 3) := by decide +kernel
theorem dX11_grant_75 : decode cX11_grant 75 = .ok (.ireturn, 1) := by decide +kernel
def F_X11_grant (w : Nat) (M : z_Mem) (a1 : Int32) (a2 : Int32) (a3 : Int32) : Option (Bool × z_Mem) :=
  (F_X6_isThere w M 7 a1).bind fun q1 =>
  if q1.1 = true then
  (F_X11_isWithin w q1.2 a2 (0 : Int32) (11 : Int32)).bind fun q4 =>
  if q4.1 = true then
  (F_X6_isIn w q4.2 7 a1 a2).bind fun q7 =>
  if (z_tb q7.1) = a3 then
  (F_X11_deny w q7.2 (9 : Int32)).bind fun q14 =>
  some (q14.1, q14.2)
  else
  if a1 < 0 ∨ 8 ≤ a1.toNatClampNeg then none else
  if a1 < 0 ∨ 8 ≤ a1.toNatClampNeg then none else
  (F_X11_allow w (z_wI q7.2 14 a1.toNatClampNeg ((q7.2.1 14 a1.toNatClampNeg) ^^^ ((1 : Int32) <<< (a2 &&& 31))))).bind fun q12 =>
  some (q12.1, q12.2)
  else
  (F_X11_deny w q4.2 (5 : Int32)).bind fun q16 =>
  some (q16.1, q16.2)
  else
  (F_X11_deny w q1.2 (2 : Int32)).bind fun q18 =>
  some (q18.1, q18.2)
set_option maxHeartbeats 4000000 in
theorem A_X11_grant {w : Nat} {M : z_Mem} {a1 : Int32} {a2 : Int32} {a3 : Int32} {r : Bool} {M' : z_Mem} {Q : Option Value → z_Mem → Prop} (h : F_X11_grant w M a1 a2 a3 = some (r, M')) (hq : Q (some (.int (z_tb r))) M') : z_Cl 1 mX11_grant [.ref 2, .int a1, .int a2, .int a3] M Q := by
  refine g_in (ls := [some (.ref 2), some (.int a1), some (.int a2), some (.int a3), none]) rfl ?_
  unfold F_X11_grant at h
  refine g_aload_n dX11_grant_0 rfl rfl ?_
  refine g_get (a := 0) (v := .ref 9) dX11_grant_1 f_11_26 sh_0 rfl rfl ?_
  refine g_get (a := 7) (v := .ref 11) dX11_grant_4 f_11_155 sh_7 rfl rfl ?_
  refine g_astore (ls' := [some (.ref 2), some (.int a1), some (.int a2), some (.int a3), some (.ref 11)]) dX11_grant_7 (Nat.le_of_ble_eq_true rfl) rfl ?_
  refine g_aload dX11_grant_9 rfl ?_
  refine g_iload_n dX11_grant_11 rfl rfl ?_
  obtain ⟨q1, e2, h⟩ := z_bd h
  refine g_callV (a := 9) (as := [.int a1]) (rest := []) (c := mX6_isThere) (k1 := 0) dX11_grant_12 rfl rfl rfl sh_9 rfl rfl (Nat.le_of_ble_eq_true rfl) (Nat.le_of_ble_eq_true rfl) (by decide) ?_
  refine A_X6_isThere z_par_7 e2 ?_
  show z_G none 1 mX11_grant 15 [some (.ref 2), some (.int a1), some (.int a2), some (.int a3), some (.ref 11)] [.int (z_tb q1.1)] q1.2 Q
  refine g_if_ne (t := 24) dX11_grant_15 (by decide) (fun c3 => ?_) (fun c3 => ?_)
  · replace h := z_ift (z_tbn.mp c3) h
    refine g_iload_n dX11_grant_24 rfl rfl ?_
    refine g_iconst (v := (0 : Int32)) dX11_grant_25 (by decide) ?_
    refine g_bipush (v := (11 : Int32)) dX11_grant_26 (by decide) ?_
    obtain ⟨q4, e5, h⟩ := z_bd h
    refine g_callS (as := [.int a2, .int (0 : Int32), .int (11 : Int32)]) (rest := []) (c := mX11_isWithin) (k1 := 0) dX11_grant_28 rfl rfl rfl rfl rfl (Nat.le_of_ble_eq_true rfl) (Nat.le_of_ble_eq_true rfl) (by decide) ?_
    refine A_X11_isWithin e5 ?_
    show z_G none 1 mX11_grant 31 [some (.ref 2), some (.int a1), some (.int a2), some (.int a3), some (.ref 11)] [.int (z_tb q4.1)] q4.2 Q
    refine g_if_ne (t := 40) dX11_grant_31 (by decide) (fun c6 => ?_) (fun c6 => ?_)
    · replace h := z_ift (z_tbn.mp c6) h
      refine g_aload dX11_grant_40 rfl ?_
      refine g_iload_n dX11_grant_42 rfl rfl ?_
      refine g_iload_n dX11_grant_43 rfl rfl ?_
      obtain ⟨q7, e8, h⟩ := z_bd h
      refine g_callV (a := 9) (as := [.int a1, .int a2]) (rest := []) (c := mX6_isIn) (k1 := 0) dX11_grant_44 rfl rfl rfl sh_9 rfl rfl (Nat.le_of_ble_eq_true rfl) (Nat.le_of_ble_eq_true rfl) (by decide) ?_
      refine A_X6_isIn z_par_7 e8 ?_
      show z_G none 1 mX11_grant 47 [some (.ref 2), some (.int a1), some (.int a2), some (.int a3), some (.ref 11)] [.int (z_tb q7.1)] q7.2 Q
      refine g_iload_n dX11_grant_47 rfl rfl ?_
      refine g_ic_ne (t := 58) dX11_grant_48 (by decide) (fun c9 => ?_) (fun c9 => ?_)
      · replace h := z_iff c9 h
        refine g_aload dX11_grant_58 rfl ?_
        refine g_get (a := 9) (v := .ref 16) dX11_grant_60 f_11_247 sh_9 rfl rfl ?_
        refine g_iload_n dX11_grant_63 rfl rfl ?_
        refine g_dup2 dX11_grant_64 rfl rfl ?_
        by_cases g10 : a1 < 0 ∨ 8 ≤ a1.toNatClampNeg
        · rw [if_pos g10] at h; cases h
        replace h := z_iff g10 h
        refine g_iald (a := 14) dX11_grant_65 sh_14 g10 ?_
        refine g_iconst (v := (1 : Int32)) dX11_grant_66 (by decide) ?_
        refine g_iload_n dX11_grant_67 rfl rfl ?_
        refine g_ishl dX11_grant_68 ?_
        refine g_ixor dX11_grant_69 ?_
        by_cases g11 : a1 < 0 ∨ 8 ≤ a1.toNatClampNeg
        · rw [if_pos g11] at h; cases h
        replace h := z_iff g11 h
        refine g_iast (a := 14) dX11_grant_70 sh_14 g11 ?_
        refine g_aload_n dX11_grant_71 rfl rfl ?_
        obtain ⟨q12, e13, h⟩ := z_bd h
        refine g_callV (a := 0) (as := []) (rest := []) (c := mX11_allow) (k1 := 0) dX11_grant_72 rfl rfl rfl sh_0 rfl rfl (Nat.le_of_ble_eq_true rfl) (Nat.le_of_ble_eq_true rfl) (by decide) ?_
        refine A_X11_allow e13 ?_
        show z_G none 1 mX11_grant 75 [some (.ref 2), some (.int a1), some (.int a2), some (.int a3), some (.ref 11)] [.int (z_tb q12.1)] q12.2 Q
        cases h
        exact g_iret dX11_grant_75 rfl nb_tb hq
      · replace h := z_ift c9 h
        refine g_aload_n dX11_grant_51 rfl rfl ?_
        refine g_bipush (v := (9 : Int32)) dX11_grant_52 (by decide) ?_
        obtain ⟨q14, e15, h⟩ := z_bd h
        refine g_callV (a := 0) (as := [.int (9 : Int32)]) (rest := []) (c := mX11_deny) (k1 := 0) dX11_grant_54 rfl rfl rfl sh_0 rfl rfl (Nat.le_of_ble_eq_true rfl) (Nat.le_of_ble_eq_true rfl) (by decide) ?_
        refine A_X11_deny e15 ?_
        show z_G none 1 mX11_grant 57 [some (.ref 2), some (.int a1), some (.int a2), some (.int a3), some (.ref 11)] [.int (z_tb q14.1)] q14.2 Q
        cases h
        exact g_iret dX11_grant_57 rfl nb_tb hq
    · replace h := z_iff (z_tb0.mp c6) h
      refine g_aload_n dX11_grant_34 rfl rfl ?_
      refine g_iconst (v := (5 : Int32)) dX11_grant_35 (by decide) ?_
      obtain ⟨q16, e17, h⟩ := z_bd h
      refine g_callV (a := 0) (as := [.int (5 : Int32)]) (rest := []) (c := mX11_deny) (k1 := 0) dX11_grant_36 rfl rfl rfl sh_0 rfl rfl (Nat.le_of_ble_eq_true rfl) (Nat.le_of_ble_eq_true rfl) (by decide) ?_
      refine A_X11_deny e17 ?_
      show z_G none 1 mX11_grant 39 [some (.ref 2), some (.int a1), some (.int a2), some (.int a3), some (.ref 11)] [.int (z_tb q16.1)] q16.2 Q
      cases h
      exact g_iret dX11_grant_39 rfl nb_tb hq
  · replace h := z_iff (z_tb0.mp c3) h
    refine g_aload_n dX11_grant_18 rfl rfl ?_
    refine g_iconst (v := (2 : Int32)) dX11_grant_19 (by decide) ?_
    obtain ⟨q18, e19, h⟩ := z_bd h
    refine g_callV (a := 0) (as := [.int (2 : Int32)]) (rest := []) (c := mX11_deny) (k1 := 0) dX11_grant_20 rfl rfl rfl sh_0 rfl rfl (Nat.le_of_ble_eq_true rfl) (Nat.le_of_ble_eq_true rfl) (by decide) ?_
    refine A_X11_deny e19 ?_
    show z_G none 1 mX11_grant 23 [some (.ref 2), some (.int a1), some (.int a2), some (.int a3), some (.ref 11)] [.int (z_tb q18.1)] q18.2 Q
    cases h
    exact g_iret dX11_grant_23 rfl nb_tb hq
theorem dX11_isPlan_0 : decode cX11_isPlan 0 = .ok (.iload_n 0, 1) := by decide +kernel
theorem dX11_isPlan_1 : decode cX11_isPlan 1 = .ok (.ifCond .lt 14, 3) := by decide +kernel
theorem dX11_isPlan_4 : decode cX11_isPlan 4 = .ok (.iload_n 0, 1) := by decide +kernel
theorem dX11_isPlan_5 : decode cX11_isPlan 5 = .ok (.sipush 4095, 3) := by decide +kernel
theorem dX11_isPlan_8 : decode cX11_isPlan 8 = .ok (.if_icmp .gt 7, 3) := by decide +kernel
theorem dX11_isPlan_11 : decode cX11_isPlan 11 = .ok (.iconst 1, 1) := by decide +kernel
theorem dX11_isPlan_12 : decode cX11_isPlan 12 = .ok (.goto 4, 3) := by decide +kernel
theorem dX11_isPlan_15 : decode cX11_isPlan 15 = .ok (.iconst 0, 1) := by decide +kernel
theorem dX11_isPlan_16 : decode cX11_isPlan 16 = .ok (.ireturn, 1) := by decide +kernel
def F_X11_isPlan (w : Nat) (M : z_Mem) (a0 : Int32) : Option (Bool × z_Mem) :=
  if a0 < (0 : Int32) then
  some (false, M)
  else
  if (4095 : Int32) < a0 then
  some (false, M)
  else
  some (true, M)
set_option maxHeartbeats 4000000 in
theorem A_X11_isPlan {w : Nat} {M : z_Mem} {a0 : Int32} {r : Bool} {M' : z_Mem} {Q : Option Value → z_Mem → Prop} (h : F_X11_isPlan w M a0 = some (r, M')) (hq : Q (some (.int (z_tb r))) M') : z_Cl 0 mX11_isPlan [.int a0] M Q := by
  refine g_in (ls := [some (.int a0)]) rfl ?_
  unfold F_X11_isPlan at h
  refine g_iload_n dX11_isPlan_0 rfl rfl ?_
  refine g_if_lt (t := 15) dX11_isPlan_1 (by decide) (fun c1 => ?_) (fun c1 => ?_)
  · replace h := z_ift c1 h
    refine g_iconst (v := (0 : Int32)) dX11_isPlan_15 (by decide) ?_
    cases h
    exact g_iret dX11_isPlan_16 rfl rfl hq
  · replace h := z_iff c1 h
    refine g_iload_n dX11_isPlan_4 rfl rfl ?_
    refine g_sipush (v := (4095 : Int32)) dX11_isPlan_5 (by decide) ?_
    refine g_ic_gt (t := 15) dX11_isPlan_8 (by decide) (fun c2 => ?_) (fun c2 => ?_)
    · replace h := z_ift c2 h
      refine g_iconst (v := (0 : Int32)) dX11_isPlan_15 (by decide) ?_
      cases h
      exact g_iret dX11_isPlan_16 rfl rfl hq
    · replace h := z_iff c2 h
      refine g_iconst (v := (1 : Int32)) dX11_isPlan_11 (by decide) ?_
      refine g_goto (t := 16) dX11_isPlan_12 (by decide) ?_
      cases h
      exact g_iret dX11_isPlan_16 rfl rfl hq
theorem dX11_claim_0 : decode cX11_claim 0 = .ok (.iload_n 1, 1) := by decide +kernel
theorem dX11_claim_1 : decode cX11_claim 1 = .ok (.invokestatic 226, 3) := by decide +kernel
theorem dX11_claim_4 : decode cX11_claim 4 = .ok (.ifCond .ne 9, 3) := by decide +kernel
theorem dX11_claim_7 : decode cX11_claim 7 = .ok (.aload_n 0, 1) := by decide +kernel
theorem dX11_claim_8 : decode cX11_claim 8 = .ok (.iconst 2, 1) := by decide +kernel
theorem dX11_claim_9 : decode cX11_claim 9 = .ok (.invokevirtual 113, 3) := by decide +kernel
theorem dX11_claim_12 : decode cX11_claim 12 = .ok (.ireturn, 1) := by decide +kernel
theorem dX11_claim_13 : decode cX11_claim 13 = .ok (.iload_n 2, 1) := by decide +kernel
theorem dX11_claim_14 : decode cX11_claim 14 = .ok (.iconst 2, 1) := by decide +kernel
theorem dX11_claim_15 : decode cX11_claim 15 = .ok (.if_icmp .ne 7, 3) := by decide +kernel
theorem dX11_claim_18 : decode cX11_claim 18 = .ok (.iconst 1, 1) := by decide +kernel
theorem dX11_claim_19 : decode cX11_claim 19 = .ok (.goto 4, 3) := by decide +kernel
theorem dX11_claim_22 : decode cX11_claim 22 = .ok (.iconst 0, 1) := by decide +kernel
theorem dX11_claim_23 : decode cX11_claim 23 = .ok (.istore 6, 2) := by decide +kernel
theorem dX11_claim_25 : decode cX11_claim 25 = .ok (.iload 6, 2) := by decide +kernel
theorem dX11_claim_27 : decode cX11_claim 27 = .ok (.ifCond .eq 13, 3) := by decide +kernel
theorem dX11_claim_30 : decode cX11_claim 30 = .ok (.iload_n 3, 1) := by decide +kernel
theorem dX11_claim_31 : decode cX11_claim 31 = .ok (.iconst 1, 1) := by decide +kernel
theorem dX11_claim_32 : decode cX11_claim 32 = .ok (.bipush 6, 2) := by decide +kernel
theorem dX11_claim_34 : decode cX11_claim 34 = .ok (.invokestatic 283, 3) := by decide +kernel
theorem dX11_claim_37 : decode cX11_claim 37 = .ok (.goto 12, 3) := by decide +kernel
theorem dX11_claim_40 : decode cX11_claim 40 = .ok (.iload_n 3, 1) := by decide +kernel
theorem dX11_claim_41 : decode cX11_claim 41 = .ok (.ifCond .ne 7, 3) := by decide +kernel
theorem dX11_claim_44 : decode cX11_claim 44 = .ok (.iconst 1, 1) := by decide +kernel
theorem dX11_claim_45 : decode cX11_claim 45 = .ok (.goto 4, 3) := by decide +kernel
theorem dX11_claim_48 : decode cX11_claim 48 = .ok (.iconst 0, 1) := by decide +kernel
theorem dX11_claim_49 : decode cX11_claim 49 = .ok (.istore 7, 2) := by decide +kernel
theorem dX11_claim_51 : decode cX11_claim 51 = .ok (.iload_n 2, 1) := by decide +kernel
theorem dX11_claim_52 : decode cX11_claim 52 = .ok (.iconst 0, 1) := by decide +kernel
theorem dX11_claim_53 : decode cX11_claim 53 = .ok (.iconst 2, 1) := by decide +kernel
theorem dX11_claim_54 : decode cX11_claim 54 = .ok (.invokestatic 283, 3) := by decide +kernel
theorem dX11_claim_57 : decode cX11_claim 57 = .ok (.ifCond .eq 8, 3) := by decide +kernel
theorem dX11_claim_60 : decode cX11_claim 60 = .ok (.iload 7, 2) := by decide +kernel
theorem dX11_claim_62 : decode cX11_claim 62 = .ok (.ifCond .ne 9, 3) := by decide +kernel
theorem dX11_claim_65 : decode cX11_claim 65 = .ok (.aload_n 0, 1) := by decide +kernel
theorem dX11_claim_66 : decode cX11_claim 66 = .ok (.iconst 5, 1) := by decide +kernel
theorem dX11_claim_67 : decode cX11_claim 67 = .ok (.invokevirtual 113, 3) := by decide +kernel
theorem dX11_claim_70 : decode cX11_claim 70 = .ok (.ireturn, 1) := by decide +kernel
theorem dX11_claim_71 : decode cX11_claim 71 = .ok (.iload 4, 2) := by decide +kernel
theorem dX11_claim_73 : decode cX11_claim 73 = .ok (.iconst 1, 1) := by decide +kernel
theorem dX11_claim_74 : decode cX11_claim 74 = .ok (.bipush 50, 2) := by decide +kernel
theorem dX11_claim_76 : decode cX11_claim 76 = .ok (.invokestatic 283, 3) := by decide +kernel
theorem dX11_claim_79 : decode cX11_claim 79 = .ok (.ifCond .eq 11, 3) := by decide +kernel
theorem dX11_claim_82 : decode cX11_claim 82 = .ok (.iload 5, 2) := by decide +kernel
theorem dX11_claim_84 : decode cX11_claim 84 = .ok (.invokestatic 299, 3) := by decide +kernel
theorem dX11_claim_87 : decode cX11_claim 87 = .ok (.ifCond .ne 9, 3) := by decide +kernel
theorem dX11_claim_90 : decode cX11_claim 90 = .ok (.aload_n 0, 1) := by decide +kernel
theorem dX11_claim_91 : decode cX11_claim 91 = .ok (.iconst 5, 1) := by decide +kernel
theorem dX11_claim_92 : decode cX11_claim 92 = .ok (.invokevirtual 113, 3) := by decide +kernel
theorem dX11_claim_95 : decode cX11_claim 95 = .ok (.ireturn, 1) := by decide +kernel
theorem dX11_claim_96 : decode cX11_claim 96 = .ok (.aload_n 0, 1) := by decide +kernel
theorem dX11_claim_97 : decode cX11_claim 97 = .ok (.getfield 26, 3) := by decide +kernel
theorem dX11_claim_100 : decode cX11_claim 100 = .ok (.getfield 155, 3) := by decide +kernel
theorem dX11_claim_103 : decode cX11_claim 103 = .ok (.iload_n 1, 1) := by decide +kernel
theorem dX11_claim_104 : decode cX11_claim 104 = .ok (.iload_n 2, 1) := by decide +kernel
theorem dX11_claim_105 : decode cX11_claim 105 = .ok (.iload_n 3, 1) := by decide +kernel
theorem dX11_claim_106 : decode cX11_claim 106 = .ok (.iload 4, 2) := by decide +kernel
theorem dX11_claim_108 : decode cX11_claim 108 = .ok (.iload 5, 2) := by decide +kernel
theorem dX11_claim_110 : decode cX11_claim 110 = .ok (.invokevirtual 302, 3) := by decide +kernel
theorem dX11_claim_113 : decode cX11_claim 113 = .ok (.ifCond .ne 10, 3) := by decide +kernel
theorem dX11_claim_116 : decode cX11_claim 116 = .ok (.aload_n 0, 1) := by decide +kernel
theorem dX11_claim_117 : decode cX11_claim 117 = .ok (.bipush 7, 2) := by decide +kernel
theorem dX11_claim_119 : decode cX11_claim 119 = .ok (.invokevirtual 113, 3) := by decide +kernel
theorem dX11_claim_122 : decode cX11_claim 122 = .ok (.ireturn, 1) := by decide +kernel
theorem dX11_claim_123 : decode cX11_claim 123 = .ok (.aload_n 0, 1) := by decide +kernel
theorem dX11_claim_124 : decode cX11_claim 124 = .ok (.aload_n 0, 1) := by decide +kernel
theorem dX11_claim_125 : decode cX11_claim 125 = .ok (.getfield 26, 3) := by decide +kernel
theorem dX11_claim_128 : decode cX11_claim 128 = .ok (.getfield 155, 3) := by decide +kernel
theorem dX11_claim_131 : decode cX11_claim 131 = .ok (.getfield 159, 3) := by decide +kernel
theorem dX11_claim_134 : decode cX11_claim 134 = .ok (.iconst 1, 1) := by decide +kernel
theorem dX11_claim_135 : decode cX11_claim 135 = .ok (.isub, 1) := by decide +kernel
theorem dX11_claim_136 : decode cX11_claim 136 = .ok (.invokevirtual 164, 3) := by decide +kernel
theorem dX11_claim_139 : decode cX11_claim 139 = .ok (.ireturn, 1) := by decide +kernel
def F_X11_claim (w : Nat) (M : z_Mem) (a1 : Int32) (a2 : Int32) (a3 : Int32) (a4 : Int32) (a5 : Int32) : Option (Int32 × z_Mem) :=
  (F_X11_isSide w M a1).bind fun q1 =>
  if q1.1 = true then
  if a2 = (2 : Int32) then
  (F_X11_isWithin w q1.2 a3 (1 : Int32) (6 : Int32)).bind fun q39 =>
  (F_X11_isWithin w q39.2 a2 (0 : Int32) (2 : Int32)).bind fun q41 =>
  if q41.1 = true then
  if q39.1 = true then
  (F_X11_isWithin w q41.2 a4 (1 : Int32) (50 : Int32)).bind fun q47 =>
  if q47.1 = true then
  (F_X11_isPlan w q47.2 a5).bind fun q52 =>
  if q52.1 = true then
  (F_X6_add w q52.2 7 a1 a2 a3 a4 a5).bind fun q55 =>
  if q55.1 = true then
  (F_X11_answer w q55.2 ((q55.2.1 9 5) - (1 : Int32))).bind fun q58 =>
  some (q58.1, q58.2)
  else
  (F_X11_refuse w q55.2 (7 : Int32)).bind fun q60 =>
  some (q60.1, q60.2)
  else
  (F_X11_refuse w q52.2 (5 : Int32)).bind fun q62 =>
  some (q62.1, q62.2)
  else
  (F_X11_refuse w q47.2 (5 : Int32)).bind fun q50 =>
  some (q50.1, q50.2)
  else
  (F_X11_refuse w q41.2 (5 : Int32)).bind fun q64 =>
  some (q64.1, q64.2)
  else
  (F_X11_refuse w q41.2 (5 : Int32)).bind fun q44 =>
  some (q44.1, q44.2)
  else
  if a3 = (0 : Int32) then
  (F_X11_isWithin w q1.2 a2 (0 : Int32) (2 : Int32)).bind fun q15 =>
  if q15.1 = true then
  (F_X11_isWithin w q15.2 a4 (1 : Int32) (50 : Int32)).bind fun q21 =>
  if q21.1 = true then
  (F_X11_isPlan w q21.2 a5).bind fun q26 =>
  if q26.1 = true then
  (F_X6_add w q26.2 7 a1 a2 a3 a4 a5).bind fun q29 =>
  if q29.1 = true then
  (F_X11_answer w q29.2 ((q29.2.1 9 5) - (1 : Int32))).bind fun q32 =>
  some (q32.1, q32.2)
  else
  (F_X11_refuse w q29.2 (7 : Int32)).bind fun q34 =>
  some (q34.1, q34.2)
  else
  (F_X11_refuse w q26.2 (5 : Int32)).bind fun q36 =>
  some (q36.1, q36.2)
  else
  (F_X11_refuse w q21.2 (5 : Int32)).bind fun q24 =>
  some (q24.1, q24.2)
  else
  (F_X11_refuse w q15.2 (5 : Int32)).bind fun q18 =>
  some (q18.1, q18.2)
  else
  (F_X11_isWithin w q1.2 a2 (0 : Int32) (2 : Int32)).bind fun q7 =>
  if q7.1 = true then
  (F_X11_refuse w q7.2 (5 : Int32)).bind fun q13 =>
  some (q13.1, q13.2)
  else
  (F_X11_refuse w q7.2 (5 : Int32)).bind fun q10 =>
  some (q10.1, q10.2)
  else
  (F_X11_refuse w q1.2 (2 : Int32)).bind fun q66 =>
  some (q66.1, q66.2)
set_option maxHeartbeats 4000000 in
theorem A_X11_claim {w : Nat} {M : z_Mem} {a1 : Int32} {a2 : Int32} {a3 : Int32} {a4 : Int32} {a5 : Int32} {r : Int32} {M' : z_Mem} {Q : Option Value → z_Mem → Prop} (h : F_X11_claim w M a1 a2 a3 a4 a5 = some (r, M')) (hq : Q (some (.int r)) M') : z_Cl 1 mX11_claim [.ref 2, .int a1, .int a2, .int a3, .int a4, .int a5] M Q := by
  refine g_in (ls := [some (.ref 2), some (.int a1), some (.int a2), some (.int a3), some (.int a4), some (.int a5), none, none]) rfl ?_
  unfold F_X11_claim at h
  refine g_iload_n dX11_claim_0 rfl rfl ?_
  obtain ⟨q1, e2, h⟩ := z_bd h
  refine g_callS (as := [.int a1]) (rest := []) (c := mX11_isSide) (k1 := 0) dX11_claim_1 rfl rfl rfl rfl rfl (Nat.le_of_ble_eq_true rfl) (Nat.le_of_ble_eq_true rfl) (by decide) ?_
  refine A_X11_isSide e2 ?_
  show z_G none 1 mX11_claim 4 [some (.ref 2), some (.int a1), some (.int a2), some (.int a3), some (.int a4), some (.int a5), none, none] [.int (z_tb q1.1)] q1.2 Q
  refine g_if_ne (t := 13) dX11_claim_4 (by decide) (fun c3 => ?_) (fun c3 => ?_)
  · replace h := z_ift (z_tbn.mp c3) h
    refine g_iload_n dX11_claim_13 rfl rfl ?_
    refine g_iconst (v := (2 : Int32)) dX11_claim_14 (by decide) ?_
    refine g_ic_ne (t := 22) dX11_claim_15 (by decide) (fun c4 => ?_) (fun c4 => ?_)
    · replace h := z_iff c4 h
      refine g_iconst (v := (0 : Int32)) dX11_claim_22 (by decide) ?_
      refine g_istore (ls' := [some (.ref 2), some (.int a1), some (.int a2), some (.int a3), some (.int a4), some (.int a5), some (.int (0 : Int32)), none]) dX11_claim_23 (Nat.le_of_ble_eq_true rfl) rfl ?_
      refine g_iload dX11_claim_25 rfl ?_
      refine g_if_eq (t := 40) dX11_claim_27 (by decide) (fun c5 => ?_) (fun c5 => ?_)
      · skip
        refine g_iload_n dX11_claim_40 rfl rfl ?_
        refine g_if_ne (t := 48) dX11_claim_41 (by decide) (fun c6 => ?_) (fun c6 => ?_)
        · replace h := z_iff c6 h
          refine g_iconst (v := (0 : Int32)) dX11_claim_48 (by decide) ?_
          refine g_istore (ls' := [some (.ref 2), some (.int a1), some (.int a2), some (.int a3), some (.int a4), some (.int a5), some (.int (0 : Int32)), some (.int (0 : Int32))]) dX11_claim_49 (Nat.le_of_ble_eq_true rfl) rfl ?_
          refine g_iload_n dX11_claim_51 rfl rfl ?_
          refine g_iconst (v := (0 : Int32)) dX11_claim_52 (by decide) ?_
          refine g_iconst (v := (2 : Int32)) dX11_claim_53 (by decide) ?_
          obtain ⟨q7, e8, h⟩ := z_bd h
          refine g_callS (as := [.int a2, .int (0 : Int32), .int (2 : Int32)]) (rest := []) (c := mX11_isWithin) (k1 := 0) dX11_claim_54 rfl rfl rfl rfl rfl (Nat.le_of_ble_eq_true rfl) (Nat.le_of_ble_eq_true rfl) (by decide) ?_
          refine A_X11_isWithin e8 ?_
          show z_G none 1 mX11_claim 57 [some (.ref 2), some (.int a1), some (.int a2), some (.int a3), some (.int a4), some (.int a5), some (.int (0 : Int32)), some (.int (0 : Int32))] [.int (z_tb q7.1)] q7.2 Q
          refine g_if_eq (t := 65) dX11_claim_57 (by decide) (fun c9 => ?_) (fun c9 => ?_)
          · replace h := z_iff (z_tb0.mp c9) h
            refine g_aload_n dX11_claim_65 rfl rfl ?_
            refine g_iconst (v := (5 : Int32)) dX11_claim_66 (by decide) ?_
            obtain ⟨q10, e11, h⟩ := z_bd h
            refine g_callV (a := 0) (as := [.int (5 : Int32)]) (rest := []) (c := mX11_refuse) (k1 := 0) dX11_claim_67 rfl rfl rfl sh_0 rfl rfl (Nat.le_of_ble_eq_true rfl) (Nat.le_of_ble_eq_true rfl) (by decide) ?_
            refine A_X11_refuse e11 ?_
            show z_G none 1 mX11_claim 70 [some (.ref 2), some (.int a1), some (.int a2), some (.int a3), some (.int a4), some (.int a5), some (.int (0 : Int32)), some (.int (0 : Int32))] [.int q10.1] q10.2 Q
            cases h
            exact g_iret dX11_claim_70 rfl rfl hq
          · replace h := z_ift (z_tbn.mp c9) h
            refine g_iload dX11_claim_60 rfl ?_
            refine g_if_ne (t := 71) dX11_claim_62 (by decide) (fun c12 => ?_) (fun c12 => ?_)
            · exact absurd c12 (by decide)
            · skip
              refine g_aload_n dX11_claim_65 rfl rfl ?_
              refine g_iconst (v := (5 : Int32)) dX11_claim_66 (by decide) ?_
              obtain ⟨q13, e14, h⟩ := z_bd h
              refine g_callV (a := 0) (as := [.int (5 : Int32)]) (rest := []) (c := mX11_refuse) (k1 := 0) dX11_claim_67 rfl rfl rfl sh_0 rfl rfl (Nat.le_of_ble_eq_true rfl) (Nat.le_of_ble_eq_true rfl) (by decide) ?_
              refine A_X11_refuse e14 ?_
              show z_G none 1 mX11_claim 70 [some (.ref 2), some (.int a1), some (.int a2), some (.int a3), some (.int a4), some (.int a5), some (.int (0 : Int32)), some (.int (0 : Int32))] [.int q13.1] q13.2 Q
              cases h
              exact g_iret dX11_claim_70 rfl rfl hq
        · replace h := z_ift c6 h
          refine g_iconst (v := (1 : Int32)) dX11_claim_44 (by decide) ?_
          refine g_goto (t := 49) dX11_claim_45 (by decide) ?_
          refine g_istore (ls' := [some (.ref 2), some (.int a1), some (.int a2), some (.int a3), some (.int a4), some (.int a5), some (.int (0 : Int32)), some (.int (1 : Int32))]) dX11_claim_49 (Nat.le_of_ble_eq_true rfl) rfl ?_
          refine g_iload_n dX11_claim_51 rfl rfl ?_
          refine g_iconst (v := (0 : Int32)) dX11_claim_52 (by decide) ?_
          refine g_iconst (v := (2 : Int32)) dX11_claim_53 (by decide) ?_
          obtain ⟨q15, e16, h⟩ := z_bd h
          refine g_callS (as := [.int a2, .int (0 : Int32), .int (2 : Int32)]) (rest := []) (c := mX11_isWithin) (k1 := 0) dX11_claim_54 rfl rfl rfl rfl rfl (Nat.le_of_ble_eq_true rfl) (Nat.le_of_ble_eq_true rfl) (by decide) ?_
          refine A_X11_isWithin e16 ?_
          show z_G none 1 mX11_claim 57 [some (.ref 2), some (.int a1), some (.int a2), some (.int a3), some (.int a4), some (.int a5), some (.int (0 : Int32)), some (.int (1 : Int32))] [.int (z_tb q15.1)] q15.2 Q
          refine g_if_eq (t := 65) dX11_claim_57 (by decide) (fun c17 => ?_) (fun c17 => ?_)
          · replace h := z_iff (z_tb0.mp c17) h
            refine g_aload_n dX11_claim_65 rfl rfl ?_
            refine g_iconst (v := (5 : Int32)) dX11_claim_66 (by decide) ?_
            obtain ⟨q18, e19, h⟩ := z_bd h
            refine g_callV (a := 0) (as := [.int (5 : Int32)]) (rest := []) (c := mX11_refuse) (k1 := 0) dX11_claim_67 rfl rfl rfl sh_0 rfl rfl (Nat.le_of_ble_eq_true rfl) (Nat.le_of_ble_eq_true rfl) (by decide) ?_
            refine A_X11_refuse e19 ?_
            show z_G none 1 mX11_claim 70 [some (.ref 2), some (.int a1), some (.int a2), some (.int a3), some (.int a4), some (.int a5), some (.int (0 : Int32)), some (.int (1 : Int32))] [.int q18.1] q18.2 Q
            cases h
            exact g_iret dX11_claim_70 rfl rfl hq
          · replace h := z_ift (z_tbn.mp c17) h
            refine g_iload dX11_claim_60 rfl ?_
            refine g_if_ne (t := 71) dX11_claim_62 (by decide) (fun c20 => ?_) (fun c20 => ?_)
            · skip
              refine g_iload dX11_claim_71 rfl ?_
              refine g_iconst (v := (1 : Int32)) dX11_claim_73 (by decide) ?_
              refine g_bipush (v := (50 : Int32)) dX11_claim_74 (by decide) ?_
              obtain ⟨q21, e22, h⟩ := z_bd h
              refine g_callS (as := [.int a4, .int (1 : Int32), .int (50 : Int32)]) (rest := []) (c := mX11_isWithin) (k1 := 0) dX11_claim_76 rfl rfl rfl rfl rfl (Nat.le_of_ble_eq_true rfl) (Nat.le_of_ble_eq_true rfl) (by decide) ?_
              refine A_X11_isWithin e22 ?_
              show z_G none 1 mX11_claim 79 [some (.ref 2), some (.int a1), some (.int a2), some (.int a3), some (.int a4), some (.int a5), some (.int (0 : Int32)), some (.int (1 : Int32))] [.int (z_tb q21.1)] q21.2 Q
              refine g_if_eq (t := 90) dX11_claim_79 (by decide) (fun c23 => ?_) (fun c23 => ?_)
              · replace h := z_iff (z_tb0.mp c23) h
                refine g_aload_n dX11_claim_90 rfl rfl ?_
                refine g_iconst (v := (5 : Int32)) dX11_claim_91 (by decide) ?_
                obtain ⟨q24, e25, h⟩ := z_bd h
                refine g_callV (a := 0) (as := [.int (5 : Int32)]) (rest := []) (c := mX11_refuse) (k1 := 0) dX11_claim_92 rfl rfl rfl sh_0 rfl rfl (Nat.le_of_ble_eq_true rfl) (Nat.le_of_ble_eq_true rfl) (by decide) ?_
                refine A_X11_refuse e25 ?_
                show z_G none 1 mX11_claim 95 [some (.ref 2), some (.int a1), some (.int a2), some (.int a3), some (.int a4), some (.int a5), some (.int (0 : Int32)), some (.int (1 : Int32))] [.int q24.1] q24.2 Q
                cases h
                exact g_iret dX11_claim_95 rfl rfl hq
              · replace h := z_ift (z_tbn.mp c23) h
                refine g_iload dX11_claim_82 rfl ?_
                obtain ⟨q26, e27, h⟩ := z_bd h
                refine g_callS (as := [.int a5]) (rest := []) (c := mX11_isPlan) (k1 := 0) dX11_claim_84 rfl rfl rfl rfl rfl (Nat.le_of_ble_eq_true rfl) (Nat.le_of_ble_eq_true rfl) (by decide) ?_
                refine A_X11_isPlan e27 ?_
                show z_G none 1 mX11_claim 87 [some (.ref 2), some (.int a1), some (.int a2), some (.int a3), some (.int a4), some (.int a5), some (.int (0 : Int32)), some (.int (1 : Int32))] [.int (z_tb q26.1)] q26.2 Q
                refine g_if_ne (t := 96) dX11_claim_87 (by decide) (fun c28 => ?_) (fun c28 => ?_)
                · replace h := z_ift (z_tbn.mp c28) h
                  refine g_aload_n dX11_claim_96 rfl rfl ?_
                  refine g_get (a := 0) (v := .ref 9) dX11_claim_97 f_11_26 sh_0 rfl rfl ?_
                  refine g_get (a := 7) (v := .ref 11) dX11_claim_100 f_11_155 sh_7 rfl rfl ?_
                  refine g_iload_n dX11_claim_103 rfl rfl ?_
                  refine g_iload_n dX11_claim_104 rfl rfl ?_
                  refine g_iload_n dX11_claim_105 rfl rfl ?_
                  refine g_iload dX11_claim_106 rfl ?_
                  refine g_iload dX11_claim_108 rfl ?_
                  obtain ⟨q29, e30, h⟩ := z_bd h
                  refine g_callV (a := 9) (as := [.int a1, .int a2, .int a3, .int a4, .int a5]) (rest := []) (c := mX6_add) (k1 := 0) dX11_claim_110 rfl rfl rfl sh_9 rfl rfl (Nat.le_of_ble_eq_true rfl) (Nat.le_of_ble_eq_true rfl) (by decide) ?_
                  refine A_X6_add z_par_7 e30 ?_
                  show z_G none 1 mX11_claim 113 [some (.ref 2), some (.int a1), some (.int a2), some (.int a3), some (.int a4), some (.int a5), some (.int (0 : Int32)), some (.int (1 : Int32))] [.int (z_tb q29.1)] q29.2 Q
                  refine g_if_ne (t := 123) dX11_claim_113 (by decide) (fun c31 => ?_) (fun c31 => ?_)
                  · replace h := z_ift (z_tbn.mp c31) h
                    refine g_aload_n dX11_claim_123 rfl rfl ?_
                    refine g_aload_n dX11_claim_124 rfl rfl ?_
                    refine g_get (a := 0) (v := .ref 9) dX11_claim_125 f_11_26 sh_0 rfl rfl ?_
                    refine g_get (a := 7) (v := .ref 11) dX11_claim_128 f_11_155 sh_7 rfl rfl ?_
                    refine g_get (a := 9) (v := .int (q29.2.1 9 5)) dX11_claim_131 f_11_159 sh_9 rfl rfl ?_
                    refine g_iconst (v := (1 : Int32)) dX11_claim_134 (by decide) ?_
                    refine g_isub dX11_claim_135 ?_
                    obtain ⟨q32, e33, h⟩ := z_bd h
                    refine g_callV (a := 0) (as := [.int ((q29.2.1 9 5) - (1 : Int32))]) (rest := []) (c := mX11_answer) (k1 := 0) dX11_claim_136 rfl rfl rfl sh_0 rfl rfl (Nat.le_of_ble_eq_true rfl) (Nat.le_of_ble_eq_true rfl) (by decide) ?_
                    refine A_X11_answer e33 ?_
                    show z_G none 1 mX11_claim 139 [some (.ref 2), some (.int a1), some (.int a2), some (.int a3), some (.int a4), some (.int a5), some (.int (0 : Int32)), some (.int (1 : Int32))] [.int q32.1] q32.2 Q
                    cases h
                    exact g_iret dX11_claim_139 rfl rfl hq
                  · replace h := z_iff (z_tb0.mp c31) h
                    refine g_aload_n dX11_claim_116 rfl rfl ?_
                    refine g_bipush (v := (7 : Int32)) dX11_claim_117 (by decide) ?_
                    obtain ⟨q34, e35, h⟩ := z_bd h
                    refine g_callV (a := 0) (as := [.int (7 : Int32)]) (rest := []) (c := mX11_refuse) (k1 := 0) dX11_claim_119 rfl rfl rfl sh_0 rfl rfl (Nat.le_of_ble_eq_true rfl) (Nat.le_of_ble_eq_true rfl) (by decide) ?_
                    refine A_X11_refuse e35 ?_
                    show z_G none 1 mX11_claim 122 [some (.ref 2), some (.int a1), some (.int a2), some (.int a3), some (.int a4), some (.int a5), some (.int (0 : Int32)), some (.int (1 : Int32))] [.int q34.1] q34.2 Q
                    cases h
                    exact g_iret dX11_claim_122 rfl rfl hq
                · replace h := z_iff (z_tb0.mp c28) h
                  refine g_aload_n dX11_claim_90 rfl rfl ?_
                  refine g_iconst (v := (5 : Int32)) dX11_claim_91 (by decide) ?_
                  obtain ⟨q36, e37, h⟩ := z_bd h
                  refine g_callV (a := 0) (as := [.int (5 : Int32)]) (rest := []) (c := mX11_refuse) (k1 := 0) dX11_claim_92 rfl rfl rfl sh_0 rfl rfl (Nat.le_of_ble_eq_true rfl) (Nat.le_of_ble_eq_true rfl) (by decide) ?_
                  refine A_X11_refuse e37 ?_
                  show z_G none 1 mX11_claim 95 [some (.ref 2), some (.int a1), some (.int a2), some (.int a3), some (.int a4), some (.int a5), some (.int (0 : Int32)), some (.int (1 : Int32))] [.int q36.1] q36.2 Q
                  cases h
                  exact g_iret dX11_claim_95 rfl rfl hq
            · exact absurd c20 (by decide)
      · exact absurd c5 (by decide)
    · replace h := z_ift c4 h
      refine g_iconst (v := (1 : Int32)) dX11_claim_18 (by decide) ?_
      refine g_goto (t := 23) dX11_claim_19 (by decide) ?_
      refine g_istore (ls' := [some (.ref 2), some (.int a1), some (.int a2), some (.int a3), some (.int a4), some (.int a5), some (.int (1 : Int32)), none]) dX11_claim_23 (Nat.le_of_ble_eq_true rfl) rfl ?_
      refine g_iload dX11_claim_25 rfl ?_
      refine g_if_eq (t := 40) dX11_claim_27 (by decide) (fun c38 => ?_) (fun c38 => ?_)
      · exact absurd c38 (by decide)
      · skip
        refine g_iload_n dX11_claim_30 rfl rfl ?_
        refine g_iconst (v := (1 : Int32)) dX11_claim_31 (by decide) ?_
        refine g_bipush (v := (6 : Int32)) dX11_claim_32 (by decide) ?_
        obtain ⟨q39, e40, h⟩ := z_bd h
        refine g_callS (as := [.int a3, .int (1 : Int32), .int (6 : Int32)]) (rest := []) (c := mX11_isWithin) (k1 := 0) dX11_claim_34 rfl rfl rfl rfl rfl (Nat.le_of_ble_eq_true rfl) (Nat.le_of_ble_eq_true rfl) (by decide) ?_
        refine A_X11_isWithin e40 ?_
        show z_G none 1 mX11_claim 37 [some (.ref 2), some (.int a1), some (.int a2), some (.int a3), some (.int a4), some (.int a5), some (.int (1 : Int32)), none] [.int (z_tb q39.1)] q39.2 Q
        refine g_goto (t := 49) dX11_claim_37 (by decide) ?_
        refine g_istore (ls' := [some (.ref 2), some (.int a1), some (.int a2), some (.int a3), some (.int a4), some (.int a5), some (.int (1 : Int32)), some (.int (z_tb q39.1))]) dX11_claim_49 (Nat.le_of_ble_eq_true rfl) rfl ?_
        refine g_iload_n dX11_claim_51 rfl rfl ?_
        refine g_iconst (v := (0 : Int32)) dX11_claim_52 (by decide) ?_
        refine g_iconst (v := (2 : Int32)) dX11_claim_53 (by decide) ?_
        obtain ⟨q41, e42, h⟩ := z_bd h
        refine g_callS (as := [.int a2, .int (0 : Int32), .int (2 : Int32)]) (rest := []) (c := mX11_isWithin) (k1 := 0) dX11_claim_54 rfl rfl rfl rfl rfl (Nat.le_of_ble_eq_true rfl) (Nat.le_of_ble_eq_true rfl) (by decide) ?_
        refine A_X11_isWithin e42 ?_
        show z_G none 1 mX11_claim 57 [some (.ref 2), some (.int a1), some (.int a2), some (.int a3), some (.int a4), some (.int a5), some (.int (1 : Int32)), some (.int (z_tb q39.1))] [.int (z_tb q41.1)] q41.2 Q
        refine g_if_eq (t := 65) dX11_claim_57 (by decide) (fun c43 => ?_) (fun c43 => ?_)
        · replace h := z_iff (z_tb0.mp c43) h
          refine g_aload_n dX11_claim_65 rfl rfl ?_
          refine g_iconst (v := (5 : Int32)) dX11_claim_66 (by decide) ?_
          obtain ⟨q44, e45, h⟩ := z_bd h
          refine g_callV (a := 0) (as := [.int (5 : Int32)]) (rest := []) (c := mX11_refuse) (k1 := 0) dX11_claim_67 rfl rfl rfl sh_0 rfl rfl (Nat.le_of_ble_eq_true rfl) (Nat.le_of_ble_eq_true rfl) (by decide) ?_
          refine A_X11_refuse e45 ?_
          show z_G none 1 mX11_claim 70 [some (.ref 2), some (.int a1), some (.int a2), some (.int a3), some (.int a4), some (.int a5), some (.int (1 : Int32)), some (.int (z_tb q39.1))] [.int q44.1] q44.2 Q
          cases h
          exact g_iret dX11_claim_70 rfl rfl hq
        · replace h := z_ift (z_tbn.mp c43) h
          refine g_iload dX11_claim_60 rfl ?_
          refine g_if_ne (t := 71) dX11_claim_62 (by decide) (fun c46 => ?_) (fun c46 => ?_)
          · replace h := z_ift (z_tbn.mp c46) h
            refine g_iload dX11_claim_71 rfl ?_
            refine g_iconst (v := (1 : Int32)) dX11_claim_73 (by decide) ?_
            refine g_bipush (v := (50 : Int32)) dX11_claim_74 (by decide) ?_
            obtain ⟨q47, e48, h⟩ := z_bd h
            refine g_callS (as := [.int a4, .int (1 : Int32), .int (50 : Int32)]) (rest := []) (c := mX11_isWithin) (k1 := 0) dX11_claim_76 rfl rfl rfl rfl rfl (Nat.le_of_ble_eq_true rfl) (Nat.le_of_ble_eq_true rfl) (by decide) ?_
            refine A_X11_isWithin e48 ?_
            show z_G none 1 mX11_claim 79 [some (.ref 2), some (.int a1), some (.int a2), some (.int a3), some (.int a4), some (.int a5), some (.int (1 : Int32)), some (.int (z_tb q39.1))] [.int (z_tb q47.1)] q47.2 Q
            refine g_if_eq (t := 90) dX11_claim_79 (by decide) (fun c49 => ?_) (fun c49 => ?_)
            · replace h := z_iff (z_tb0.mp c49) h
              refine g_aload_n dX11_claim_90 rfl rfl ?_
              refine g_iconst (v := (5 : Int32)) dX11_claim_91 (by decide) ?_
              obtain ⟨q50, e51, h⟩ := z_bd h
              refine g_callV (a := 0) (as := [.int (5 : Int32)]) (rest := []) (c := mX11_refuse) (k1 := 0) dX11_claim_92 rfl rfl rfl sh_0 rfl rfl (Nat.le_of_ble_eq_true rfl) (Nat.le_of_ble_eq_true rfl) (by decide) ?_
              refine A_X11_refuse e51 ?_
              show z_G none 1 mX11_claim 95 [some (.ref 2), some (.int a1), some (.int a2), some (.int a3), some (.int a4), some (.int a5), some (.int (1 : Int32)), some (.int (z_tb q39.1))] [.int q50.1] q50.2 Q
              cases h
              exact g_iret dX11_claim_95 rfl rfl hq
            · replace h := z_ift (z_tbn.mp c49) h
              refine g_iload dX11_claim_82 rfl ?_
              obtain ⟨q52, e53, h⟩ := z_bd h
              refine g_callS (as := [.int a5]) (rest := []) (c := mX11_isPlan) (k1 := 0) dX11_claim_84 rfl rfl rfl rfl rfl (Nat.le_of_ble_eq_true rfl) (Nat.le_of_ble_eq_true rfl) (by decide) ?_
              refine A_X11_isPlan e53 ?_
              show z_G none 1 mX11_claim 87 [some (.ref 2), some (.int a1), some (.int a2), some (.int a3), some (.int a4), some (.int a5), some (.int (1 : Int32)), some (.int (z_tb q39.1))] [.int (z_tb q52.1)] q52.2 Q
              refine g_if_ne (t := 96) dX11_claim_87 (by decide) (fun c54 => ?_) (fun c54 => ?_)
              · replace h := z_ift (z_tbn.mp c54) h
                refine g_aload_n dX11_claim_96 rfl rfl ?_
                refine g_get (a := 0) (v := .ref 9) dX11_claim_97 f_11_26 sh_0 rfl rfl ?_
                refine g_get (a := 7) (v := .ref 11) dX11_claim_100 f_11_155 sh_7 rfl rfl ?_
                refine g_iload_n dX11_claim_103 rfl rfl ?_
                refine g_iload_n dX11_claim_104 rfl rfl ?_
                refine g_iload_n dX11_claim_105 rfl rfl ?_
                refine g_iload dX11_claim_106 rfl ?_
                refine g_iload dX11_claim_108 rfl ?_
                obtain ⟨q55, e56, h⟩ := z_bd h
                refine g_callV (a := 9) (as := [.int a1, .int a2, .int a3, .int a4, .int a5]) (rest := []) (c := mX6_add) (k1 := 0) dX11_claim_110 rfl rfl rfl sh_9 rfl rfl (Nat.le_of_ble_eq_true rfl) (Nat.le_of_ble_eq_true rfl) (by decide) ?_
                refine A_X6_add z_par_7 e56 ?_
                show z_G none 1 mX11_claim 113 [some (.ref 2), some (.int a1), some (.int a2), some (.int a3), some (.int a4), some (.int a5), some (.int (1 : Int32)), some (.int (z_tb q39.1))] [.int (z_tb q55.1)] q55.2 Q
                refine g_if_ne (t := 123) dX11_claim_113 (by decide) (fun c57 => ?_) (fun c57 => ?_)
                · replace h := z_ift (z_tbn.mp c57) h
                  refine g_aload_n dX11_claim_123 rfl rfl ?_
                  refine g_aload_n dX11_claim_124 rfl rfl ?_
                  refine g_get (a := 0) (v := .ref 9) dX11_claim_125 f_11_26 sh_0 rfl rfl ?_
                  refine g_get (a := 7) (v := .ref 11) dX11_claim_128 f_11_155 sh_7 rfl rfl ?_
                  refine g_get (a := 9) (v := .int (q55.2.1 9 5)) dX11_claim_131 f_11_159 sh_9 rfl rfl ?_
                  refine g_iconst (v := (1 : Int32)) dX11_claim_134 (by decide) ?_
                  refine g_isub dX11_claim_135 ?_
                  obtain ⟨q58, e59, h⟩ := z_bd h
                  refine g_callV (a := 0) (as := [.int ((q55.2.1 9 5) - (1 : Int32))]) (rest := []) (c := mX11_answer) (k1 := 0) dX11_claim_136 rfl rfl rfl sh_0 rfl rfl (Nat.le_of_ble_eq_true rfl) (Nat.le_of_ble_eq_true rfl) (by decide) ?_
                  refine A_X11_answer e59 ?_
                  show z_G none 1 mX11_claim 139 [some (.ref 2), some (.int a1), some (.int a2), some (.int a3), some (.int a4), some (.int a5), some (.int (1 : Int32)), some (.int (z_tb q39.1))] [.int q58.1] q58.2 Q
                  cases h
                  exact g_iret dX11_claim_139 rfl rfl hq
                · replace h := z_iff (z_tb0.mp c57) h
                  refine g_aload_n dX11_claim_116 rfl rfl ?_
                  refine g_bipush (v := (7 : Int32)) dX11_claim_117 (by decide) ?_
                  obtain ⟨q60, e61, h⟩ := z_bd h
                  refine g_callV (a := 0) (as := [.int (7 : Int32)]) (rest := []) (c := mX11_refuse) (k1 := 0) dX11_claim_119 rfl rfl rfl sh_0 rfl rfl (Nat.le_of_ble_eq_true rfl) (Nat.le_of_ble_eq_true rfl) (by decide) ?_
                  refine A_X11_refuse e61 ?_
                  show z_G none 1 mX11_claim 122 [some (.ref 2), some (.int a1), some (.int a2), some (.int a3), some (.int a4), some (.int a5), some (.int (1 : Int32)), some (.int (z_tb q39.1))] [.int q60.1] q60.2 Q
                  cases h
                  exact g_iret dX11_claim_122 rfl rfl hq
              · replace h := z_iff (z_tb0.mp c54) h
                refine g_aload_n dX11_claim_90 rfl rfl ?_
                refine g_iconst (v := (5 : Int32)) dX11_claim_91 (by decide) ?_
                obtain ⟨q62, e63, h⟩ := z_bd h
                refine g_callV (a := 0) (as := [.int (5 : Int32)]) (rest := []) (c := mX11_refuse) (k1 := 0) dX11_claim_92 rfl rfl rfl sh_0 rfl rfl (Nat.le_of_ble_eq_true rfl) (Nat.le_of_ble_eq_true rfl) (by decide) ?_
                refine A_X11_refuse e63 ?_
                show z_G none 1 mX11_claim 95 [some (.ref 2), some (.int a1), some (.int a2), some (.int a3), some (.int a4), some (.int a5), some (.int (1 : Int32)), some (.int (z_tb q39.1))] [.int q62.1] q62.2 Q
                cases h
                exact g_iret dX11_claim_95 rfl rfl hq
          · replace h := z_iff (z_tb0.mp c46) h
            refine g_aload_n dX11_claim_65 rfl rfl ?_
            refine g_iconst (v := (5 : Int32)) dX11_claim_66 (by decide) ?_
            obtain ⟨q64, e65, h⟩ := z_bd h
            refine g_callV (a := 0) (as := [.int (5 : Int32)]) (rest := []) (c := mX11_refuse) (k1 := 0) dX11_claim_67 rfl rfl rfl sh_0 rfl rfl (Nat.le_of_ble_eq_true rfl) (Nat.le_of_ble_eq_true rfl) (by decide) ?_
            refine A_X11_refuse e65 ?_
            show z_G none 1 mX11_claim 70 [some (.ref 2), some (.int a1), some (.int a2), some (.int a3), some (.int a4), some (.int a5), some (.int (1 : Int32)), some (.int (z_tb q39.1))] [.int q64.1] q64.2 Q
            cases h
            exact g_iret dX11_claim_70 rfl rfl hq
  · replace h := z_iff (z_tb0.mp c3) h
    refine g_aload_n dX11_claim_7 rfl rfl ?_
    refine g_iconst (v := (2 : Int32)) dX11_claim_8 (by decide) ?_
    obtain ⟨q66, e67, h⟩ := z_bd h
    refine g_callV (a := 0) (as := [.int (2 : Int32)]) (rest := []) (c := mX11_refuse) (k1 := 0) dX11_claim_9 rfl rfl rfl sh_0 rfl rfl (Nat.le_of_ble_eq_true rfl) (Nat.le_of_ble_eq_true rfl) (by decide) ?_
    refine A_X11_refuse e67 ?_
    show z_G none 1 mX11_claim 12 [some (.ref 2), some (.int a1), some (.int a2), some (.int a3), some (.int a4), some (.int a5), none, none] [.int q66.1] q66.2 Q
    cases h
    exact g_iret dX11_claim_12 rfl rfl hq
theorem dX11_rule_0 : decode cX11_rule 0 = .ok (.iload_n 1, 1) := by decide +kernel
theorem dX11_rule_1 : decode cX11_rule 1 = .ok (.iconst 5, 1) := by decide +kernel
theorem dX11_rule_2 : decode cX11_rule 2 = .ok (.if_icmp .ne 13, 3) := by decide +kernel
theorem dX11_rule_5 : decode cX11_rule 5 = .ok (.iload_n 2, 1) := by decide +kernel
theorem dX11_rule_6 : decode cX11_rule 6 = .ok (.iconst 0, 1) := by decide +kernel
theorem dX11_rule_7 : decode cX11_rule 7 = .ok (.bipush 16, 2) := by decide +kernel
theorem dX11_rule_9 : decode cX11_rule 9 = .ok (.invokestatic 283, 3) := by decide +kernel
theorem dX11_rule_12 : decode cX11_rule 12 = .ok (.goto 29, 3) := by decide +kernel
theorem dX11_rule_15 : decode cX11_rule 15 = .ok (.iload_n 1, 1) := by decide +kernel
theorem dX11_rule_16 : decode cX11_rule 16 = .ok (.bipush 6, 2) := by decide +kernel
theorem dX11_rule_18 : decode cX11_rule 18 = .ok (.bipush 7, 2) := by decide +kernel
theorem dX11_rule_20 : decode cX11_rule 20 = .ok (.invokestatic 283, 3) := by decide +kernel
theorem dX11_rule_23 : decode cX11_rule 23 = .ok (.ifCond .eq 17, 3) := by decide +kernel
theorem dX11_rule_26 : decode cX11_rule 26 = .ok (.iload_n 2, 1) := by decide +kernel
theorem dX11_rule_27 : decode cX11_rule 27 = .ok (.iconst 0, 1) := by decide +kernel
theorem dX11_rule_28 : decode cX11_rule 28 = .ok (.bipush 99, 2) := by decide +kernel
theorem dX11_rule_30 : decode cX11_rule 30 = .ok (.invokestatic 283, 3) := by decide +kernel
theorem dX11_rule_33 : decode cX11_rule 33 = .ok (.ifCond .eq 7, 3) := by decide +kernel
theorem dX11_rule_36 : decode cX11_rule 36 = .ok (.iconst 1, 1) := by decide +kernel
theorem dX11_rule_37 : decode cX11_rule 37 = .ok (.goto 4, 3) := by decide +kernel
theorem dX11_rule_40 : decode cX11_rule 40 = .ok (.iconst 0, 1) := by decide +kernel
theorem dX11_rule_41 : decode cX11_rule 41 = .ok (.istore_n 3, 1) := by decide +kernel
theorem dX11_rule_42 : decode cX11_rule 42 = .ok (.iload_n 3, 1) := by decide +kernel
theorem dX11_rule_43 : decode cX11_rule 43 = .ok (.ifCond .ne 9, 3) := by decide +kernel
theorem dX11_rule_46 : decode cX11_rule 46 = .ok (.aload_n 0, 1) := by decide +kernel
theorem dX11_rule_47 : decode cX11_rule 47 = .ok (.iconst 5, 1) := by decide +kernel
theorem dX11_rule_48 : decode cX11_rule 48 = .ok (.invokevirtual 94, 3) := by decide +kernel
theorem dX11_rule_51 : decode cX11_rule 51 = .ok (.ireturn, 1) := by decide +kernel
theorem dX11_rule_52 : decode cX11_rule 52 = .ok (.aload_n 0, 1) := by decide +kernel
theorem dX11_rule_53 : decode cX11_rule 53 = .ok (.getfield 26, 3) := by decide +kernel
theorem dX11_rule_56 : decode cX11_rule 56 = .ok (.iload_n 1, 1) := by decide +kernel
theorem dX11_rule_57 : decode cX11_rule 57 = .ok (.iconst 5, 1) := by decide +kernel
theorem dX11_rule_58 : decode cX11_rule 58 = .ok (.isub, 1) := by decide +kernel
theorem dX11_rule_59 : decode cX11_rule 59 = .ok (.iload_n 2, 1) := by decide +kernel
theorem dX11_rule_60 : decode cX11_rule 60 = .ok (.invokevirtual 305, 3) := by decide +kernel
theorem dX11_rule_63 : decode cX11_rule 63 = .ok (.aload_n 0, 1) := by decide +kernel
theorem dX11_rule_64 : decode cX11_rule 64 = .ok (.invokevirtual 101, 3) := by decide +kernel
theorem dX11_rule_67 : decode cX11_rule 67 = .ok (.ireturn, 1) := by decide +kernel
def F_X11_rule (w : Nat) (M : z_Mem) (a1 : Int32) (a2 : Int32) : Option (Bool × z_Mem) :=
  if a1 = (5 : Int32) then
  (F_X11_isWithin w M a2 (0 : Int32) (16 : Int32)).bind fun q19 =>
  if q19.1 = true then
  (F_X3_setRule w q19.2 7 (a1 - (5 : Int32)) a2).bind fun q22 =>
  (F_X11_allow w q22.2).bind fun q24 =>
  some (q24.1, q24.2)
  else
  (F_X11_deny w q19.2 (5 : Int32)).bind fun q26 =>
  some (q26.1, q26.2)
  else
  (F_X11_isWithin w M a1 (6 : Int32) (7 : Int32)).bind fun q2 =>
  if q2.1 = true then
  (F_X11_isWithin w q2.2 a2 (0 : Int32) (99 : Int32)).bind fun q8 =>
  if q8.1 = true then
  (F_X3_setRule w q8.2 7 (a1 - (5 : Int32)) a2).bind fun q15 =>
  (F_X11_allow w q15.2).bind fun q17 =>
  some (q17.1, q17.2)
  else
  (F_X11_deny w q8.2 (5 : Int32)).bind fun q12 =>
  some (q12.1, q12.2)
  else
  (F_X11_deny w q2.2 (5 : Int32)).bind fun q6 =>
  some (q6.1, q6.2)
set_option maxHeartbeats 4000000 in
theorem A_X11_rule {w : Nat} {M : z_Mem} {a1 : Int32} {a2 : Int32} {r : Bool} {M' : z_Mem} {Q : Option Value → z_Mem → Prop} (h : F_X11_rule w M a1 a2 = some (r, M')) (hq : Q (some (.int (z_tb r))) M') : z_Cl 1 mX11_rule [.ref 2, .int a1, .int a2] M Q := by
  refine g_in (ls := [some (.ref 2), some (.int a1), some (.int a2), none]) rfl ?_
  unfold F_X11_rule at h
  refine g_iload_n dX11_rule_0 rfl rfl ?_
  refine g_iconst (v := (5 : Int32)) dX11_rule_1 (by decide) ?_
  refine g_ic_ne (t := 15) dX11_rule_2 (by decide) (fun c1 => ?_) (fun c1 => ?_)
  · replace h := z_iff c1 h
    refine g_iload_n dX11_rule_15 rfl rfl ?_
    refine g_bipush (v := (6 : Int32)) dX11_rule_16 (by decide) ?_
    refine g_bipush (v := (7 : Int32)) dX11_rule_18 (by decide) ?_
    obtain ⟨q2, e3, h⟩ := z_bd h
    refine g_callS (as := [.int a1, .int (6 : Int32), .int (7 : Int32)]) (rest := []) (c := mX11_isWithin) (k1 := 0) dX11_rule_20 rfl rfl rfl rfl rfl (Nat.le_of_ble_eq_true rfl) (Nat.le_of_ble_eq_true rfl) (by decide) ?_
    refine A_X11_isWithin e3 ?_
    show z_G none 1 mX11_rule 23 [some (.ref 2), some (.int a1), some (.int a2), none] [.int (z_tb q2.1)] q2.2 Q
    refine g_if_eq (t := 40) dX11_rule_23 (by decide) (fun c4 => ?_) (fun c4 => ?_)
    · replace h := z_iff (z_tb0.mp c4) h
      refine g_iconst (v := (0 : Int32)) dX11_rule_40 (by decide) ?_
      refine g_istore_n (ls' := [some (.ref 2), some (.int a1), some (.int a2), some (.int (0 : Int32))]) dX11_rule_41 rfl (Nat.le_of_ble_eq_true rfl) rfl ?_
      refine g_iload_n dX11_rule_42 rfl rfl ?_
      refine g_if_ne (t := 52) dX11_rule_43 (by decide) (fun c5 => ?_) (fun c5 => ?_)
      · exact absurd c5 (by decide)
      · skip
        refine g_aload_n dX11_rule_46 rfl rfl ?_
        refine g_iconst (v := (5 : Int32)) dX11_rule_47 (by decide) ?_
        obtain ⟨q6, e7, h⟩ := z_bd h
        refine g_callV (a := 0) (as := [.int (5 : Int32)]) (rest := []) (c := mX11_deny) (k1 := 0) dX11_rule_48 rfl rfl rfl sh_0 rfl rfl (Nat.le_of_ble_eq_true rfl) (Nat.le_of_ble_eq_true rfl) (by decide) ?_
        refine A_X11_deny e7 ?_
        show z_G none 1 mX11_rule 51 [some (.ref 2), some (.int a1), some (.int a2), some (.int (0 : Int32))] [.int (z_tb q6.1)] q6.2 Q
        cases h
        exact g_iret dX11_rule_51 rfl nb_tb hq
    · replace h := z_ift (z_tbn.mp c4) h
      refine g_iload_n dX11_rule_26 rfl rfl ?_
      refine g_iconst (v := (0 : Int32)) dX11_rule_27 (by decide) ?_
      refine g_bipush (v := (99 : Int32)) dX11_rule_28 (by decide) ?_
      obtain ⟨q8, e9, h⟩ := z_bd h
      refine g_callS (as := [.int a2, .int (0 : Int32), .int (99 : Int32)]) (rest := []) (c := mX11_isWithin) (k1 := 0) dX11_rule_30 rfl rfl rfl rfl rfl (Nat.le_of_ble_eq_true rfl) (Nat.le_of_ble_eq_true rfl) (by decide) ?_
      refine A_X11_isWithin e9 ?_
      show z_G none 1 mX11_rule 33 [some (.ref 2), some (.int a1), some (.int a2), none] [.int (z_tb q8.1)] q8.2 Q
      refine g_if_eq (t := 40) dX11_rule_33 (by decide) (fun c10 => ?_) (fun c10 => ?_)
      · replace h := z_iff (z_tb0.mp c10) h
        refine g_iconst (v := (0 : Int32)) dX11_rule_40 (by decide) ?_
        refine g_istore_n (ls' := [some (.ref 2), some (.int a1), some (.int a2), some (.int (0 : Int32))]) dX11_rule_41 rfl (Nat.le_of_ble_eq_true rfl) rfl ?_
        refine g_iload_n dX11_rule_42 rfl rfl ?_
        refine g_if_ne (t := 52) dX11_rule_43 (by decide) (fun c11 => ?_) (fun c11 => ?_)
        · exact absurd c11 (by decide)
        · skip
          refine g_aload_n dX11_rule_46 rfl rfl ?_
          refine g_iconst (v := (5 : Int32)) dX11_rule_47 (by decide) ?_
          obtain ⟨q12, e13, h⟩ := z_bd h
          refine g_callV (a := 0) (as := [.int (5 : Int32)]) (rest := []) (c := mX11_deny) (k1 := 0) dX11_rule_48 rfl rfl rfl sh_0 rfl rfl (Nat.le_of_ble_eq_true rfl) (Nat.le_of_ble_eq_true rfl) (by decide) ?_
          refine A_X11_deny e13 ?_
          show z_G none 1 mX11_rule 51 [some (.ref 2), some (.int a1), some (.int a2), some (.int (0 : Int32))] [.int (z_tb q12.1)] q12.2 Q
          cases h
          exact g_iret dX11_rule_51 rfl nb_tb hq
      · replace h := z_ift (z_tbn.mp c10) h
        refine g_iconst (v := (1 : Int32)) dX11_rule_36 (by decide) ?_
        refine g_goto (t := 41) dX11_rule_37 (by decide) ?_
        refine g_istore_n (ls' := [some (.ref 2), some (.int a1), some (.int a2), some (.int (1 : Int32))]) dX11_rule_41 rfl (Nat.le_of_ble_eq_true rfl) rfl ?_
        refine g_iload_n dX11_rule_42 rfl rfl ?_
        refine g_if_ne (t := 52) dX11_rule_43 (by decide) (fun c14 => ?_) (fun c14 => ?_)
        · skip
          refine g_aload_n dX11_rule_52 rfl rfl ?_
          refine g_get (a := 0) (v := .ref 9) dX11_rule_53 f_11_26 sh_0 rfl rfl ?_
          refine g_iload_n dX11_rule_56 rfl rfl ?_
          refine g_iconst (v := (5 : Int32)) dX11_rule_57 (by decide) ?_
          refine g_isub dX11_rule_58 ?_
          refine g_iload_n dX11_rule_59 rfl rfl ?_
          obtain ⟨q15, e16, h⟩ := z_bd h
          refine g_callV (a := 7) (as := [.int (a1 - (5 : Int32)), .int a2]) (rest := []) (c := mX3_setRule) (k1 := 0) dX11_rule_60 rfl rfl rfl sh_7 rfl rfl (Nat.le_of_ble_eq_true rfl) (Nat.le_of_ble_eq_true rfl) (by decide) ?_
          refine A_X3_setRule z_par_7 e16 ?_
          show z_G none 1 mX11_rule 63 [some (.ref 2), some (.int a1), some (.int a2), some (.int (1 : Int32))] [] q15.2 Q
          refine g_aload_n dX11_rule_63 rfl rfl ?_
          obtain ⟨q17, e18, h⟩ := z_bd h
          refine g_callV (a := 0) (as := []) (rest := []) (c := mX11_allow) (k1 := 0) dX11_rule_64 rfl rfl rfl sh_0 rfl rfl (Nat.le_of_ble_eq_true rfl) (Nat.le_of_ble_eq_true rfl) (by decide) ?_
          refine A_X11_allow e18 ?_
          show z_G none 1 mX11_rule 67 [some (.ref 2), some (.int a1), some (.int a2), some (.int (1 : Int32))] [.int (z_tb q17.1)] q17.2 Q
          cases h
          exact g_iret dX11_rule_67 rfl nb_tb hq
        · exact absurd c14 (by decide)
  · replace h := z_ift c1 h
    refine g_iload_n dX11_rule_5 rfl rfl ?_
    refine g_iconst (v := (0 : Int32)) dX11_rule_6 (by decide) ?_
    refine g_bipush (v := (16 : Int32)) dX11_rule_7 (by decide) ?_
    obtain ⟨q19, e20, h⟩ := z_bd h
    refine g_callS (as := [.int a2, .int (0 : Int32), .int (16 : Int32)]) (rest := []) (c := mX11_isWithin) (k1 := 0) dX11_rule_9 rfl rfl rfl rfl rfl (Nat.le_of_ble_eq_true rfl) (Nat.le_of_ble_eq_true rfl) (by decide) ?_
    refine A_X11_isWithin e20 ?_
    show z_G none 1 mX11_rule 12 [some (.ref 2), some (.int a1), some (.int a2), none] [.int (z_tb q19.1)] q19.2 Q
    refine g_goto (t := 41) dX11_rule_12 (by decide) ?_
    refine g_istore_n (ls' := [some (.ref 2), some (.int a1), some (.int a2), some (.int (z_tb q19.1))]) dX11_rule_41 rfl (Nat.le_of_ble_eq_true rfl) rfl ?_
    refine g_iload_n dX11_rule_42 rfl rfl ?_
    refine g_if_ne (t := 52) dX11_rule_43 (by decide) (fun c21 => ?_) (fun c21 => ?_)
    · replace h := z_ift (z_tbn.mp c21) h
      refine g_aload_n dX11_rule_52 rfl rfl ?_
      refine g_get (a := 0) (v := .ref 9) dX11_rule_53 f_11_26 sh_0 rfl rfl ?_
      refine g_iload_n dX11_rule_56 rfl rfl ?_
      refine g_iconst (v := (5 : Int32)) dX11_rule_57 (by decide) ?_
      refine g_isub dX11_rule_58 ?_
      refine g_iload_n dX11_rule_59 rfl rfl ?_
      obtain ⟨q22, e23, h⟩ := z_bd h
      refine g_callV (a := 7) (as := [.int (a1 - (5 : Int32)), .int a2]) (rest := []) (c := mX3_setRule) (k1 := 0) dX11_rule_60 rfl rfl rfl sh_7 rfl rfl (Nat.le_of_ble_eq_true rfl) (Nat.le_of_ble_eq_true rfl) (by decide) ?_
      refine A_X3_setRule z_par_7 e23 ?_
      show z_G none 1 mX11_rule 63 [some (.ref 2), some (.int a1), some (.int a2), some (.int (z_tb q19.1))] [] q22.2 Q
      refine g_aload_n dX11_rule_63 rfl rfl ?_
      obtain ⟨q24, e25, h⟩ := z_bd h
      refine g_callV (a := 0) (as := []) (rest := []) (c := mX11_allow) (k1 := 0) dX11_rule_64 rfl rfl rfl sh_0 rfl rfl (Nat.le_of_ble_eq_true rfl) (Nat.le_of_ble_eq_true rfl) (by decide) ?_
      refine A_X11_allow e25 ?_
      show z_G none 1 mX11_rule 67 [some (.ref 2), some (.int a1), some (.int a2), some (.int (z_tb q19.1))] [.int (z_tb q24.1)] q24.2 Q
      cases h
      exact g_iret dX11_rule_67 rfl nb_tb hq
    · replace h := z_iff (z_tb0.mp c21) h
      refine g_aload_n dX11_rule_46 rfl rfl ?_
      refine g_iconst (v := (5 : Int32)) dX11_rule_47 (by decide) ?_
      obtain ⟨q26, e27, h⟩ := z_bd h
      refine g_callV (a := 0) (as := [.int (5 : Int32)]) (rest := []) (c := mX11_deny) (k1 := 0) dX11_rule_48 rfl rfl rfl sh_0 rfl rfl (Nat.le_of_ble_eq_true rfl) (Nat.le_of_ble_eq_true rfl) (by decide) ?_
      refine A_X11_deny e27 ?_
      show z_G none 1 mX11_rule 51 [some (.ref 2), some (.int a1), some (.int a2), some (.int (z_tb q19.1))] [.int (z_tb q26.1)] q26.2 Q
      cases h
      exact g_iret dX11_rule_51 rfl nb_tb hq
theorem dX11_chestIn_0 : decode cX11_chestIn 0 = .ok (.iload_n 1, 1) := by decide +kernel
theorem dX11_chestIn_1 : decode cX11_chestIn 1 = .ok (.invokestatic 226, 3) := by decide +kernel
theorem dX11_chestIn_4 : decode cX11_chestIn 4 = .ok (.ifCond .ne 9, 3) := by decide +kernel
theorem dX11_chestIn_7 : decode cX11_chestIn 7 = .ok (.aload_n 0, 1) := by decide +kernel
theorem dX11_chestIn_8 : decode cX11_chestIn 8 = .ok (.iconst 2, 1) := by decide +kernel
theorem dX11_chestIn_9 : decode cX11_chestIn 9 = .ok (.invokevirtual 113, 3) := by decide +kernel
theorem dX11_chestIn_12 : decode cX11_chestIn 12 = .ok (.ireturn, 1) := by decide +kernel
theorem dX11_chestIn_13 : decode cX11_chestIn 13 = .ok (.iload_n 2, 1) := by decide +kernel
theorem dX11_chestIn_14 : decode cX11_chestIn 14 = .ok (.iconst 0, 1) := by decide +kernel
theorem dX11_chestIn_15 : decode cX11_chestIn 15 = .ok (.bipush 60, 2) := by decide +kernel
theorem dX11_chestIn_17 : decode cX11_chestIn 17 = .ok (.invokestatic 283, 3) := by decide +kernel
theorem dX11_chestIn_20 : decode cX11_chestIn 20 = .ok (.ifCond .ne 9, 3) := by decide +kernel
theorem dX11_chestIn_23 : decode cX11_chestIn 23 = .ok (.aload_n 0, 1) := by decide +kernel
theorem dX11_chestIn_24 : decode cX11_chestIn 24 = .ok (.iconst 5, 1) := by decide +kernel
theorem dX11_chestIn_25 : decode cX11_chestIn 25 = .ok (.invokevirtual 113, 3) := by decide +kernel
theorem dX11_chestIn_28 : decode cX11_chestIn 28 = .ok (.ireturn, 1) := by decide +kernel
theorem dX11_chestIn_29 : decode cX11_chestIn 29 = .ok (.aload_n 0, 1) := by decide +kernel
theorem dX11_chestIn_30 : decode cX11_chestIn 30 = .ok (.getfield 30, 3) := by decide +kernel
theorem dX11_chestIn_33 : decode cX11_chestIn 33 = .ok (.aload_n 0, 1) := by decide +kernel
theorem dX11_chestIn_34 : decode cX11_chestIn 34 = .ok (.getfield 26, 3) := by decide +kernel
theorem dX11_chestIn_37 : decode cX11_chestIn 37 = .ok (.invokevirtual 151, 3) := by decide +kernel
theorem dX11_chestIn_40 : decode cX11_chestIn 40 = .ok (.iconst 0, 1) := by decide +kernel
theorem dX11_chestIn_41 : decode cX11_chestIn 41 = .ok (.istore_n 3, 1) := by decide +kernel
theorem dX11_chestIn_42 : decode cX11_chestIn 42 = .ok (.iload_n 3, 1) := by decide +kernel
theorem dX11_chestIn_43 : decode cX11_chestIn 43 = .ok (.iload_n 2, 1) := by decide +kernel
theorem dX11_chestIn_44 : decode cX11_chestIn 44 = .ok (.if_icmp .ge 16, 3) := by decide +kernel
theorem dX11_chestIn_47 : decode cX11_chestIn 47 = .ok (.aload_n 0, 1) := by decide +kernel
theorem dX11_chestIn_48 : decode cX11_chestIn 48 = .ok (.getfield 30, 3) := by decide +kernel
theorem dX11_chestIn_51 : decode cX11_chestIn 51 = .ok (.invokevirtual 309, 3) := by decide +kernel
theorem dX11_chestIn_54 : decode cX11_chestIn 54 = .ok (.iinc 3 1, 3) := by decide +kernel
theorem dX11_chestIn_57 : decode cX11_chestIn 57 = .ok (.goto (-15), 3) := by decide +kernel
theorem dX11_chestIn_60 : decode cX11_chestIn 60 = .ok (.aload_n 0, 1) := by decide +kernel
theorem dX11_chestIn_61 : decode cX11_chestIn 61 = .ok (.aload_n 0, 1) := by decide +kernel
theorem dX11_chestIn_62 : decode cX11_chestIn 62 = .ok (.getfield 30, 3) := by decide +kernel
theorem dX11_chestIn_65 : decode cX11_chestIn 65 = .ok (.getfield 229, 3) := by decide +kernel
theorem dX11_chestIn_68 : decode cX11_chestIn 68 = .ok (.iload_n 1, 1) := by decide +kernel
theorem dX11_chestIn_69 : decode cX11_chestIn 69 = .ok (.iaload, 1) := by decide +kernel
theorem dX11_chestIn_70 : decode cX11_chestIn 70 = .ok (.invokevirtual 164, 3) := by decide +kernel
theorem dX11_chestIn_73 : decode cX11_chestIn 73 = .ok (.ireturn, 1) := by decide +kernel
def L_X11_chestIn (w : Nat) : Nat → z_Mem → Int32 → Int32 → Int32 → Option (Int32 × z_Mem)
  | 0, _, _, _, _ => none
  | c + 1, M, x1, x2, x3 =>
    if x2 ≤ x3 then
    if x1 < 0 ∨ 2 ≤ x1.toNatClampNeg then none else
    (F_X11_answer w M (M.1 31 x1.toNatClampNeg)).bind fun q3 =>
    some (q3.1, q3.2)
    else
    (F_X3_passMonth w M 30).bind fun q5 =>
    L_X11_chestIn w c q5.2 x1 x2 (x3 + (1 : Int32))
set_option maxHeartbeats 4000000 in
theorem AL_X11_chestIn {w : Nat} : ∀ (c : Nat), (∀ (M : z_Mem) (x1 : Int32) (x2 : Int32) (x3 : Int32) (r : Int32) (M' : z_Mem) (Q : Option Value → z_Mem → Prop), L_X11_chestIn w c M x1 x2 x3 = some (r, M') → Q (some (.int r)) M' → z_G none 3 mX11_chestIn 42 [some (.ref 2), some (.int x1), some (.int x2), some (.int x3)] [] M Q) := by
  intro c
  induction c with
  | zero => exact (fun M x1 x2 x3 r M' Q h hq => by rw [L_X11_chestIn] at h; cases h)
  | succ c ih =>
    intro M x1 x2 x3 r M' Q h hq
    rw [L_X11_chestIn] at h
    refine g_iload_n dX11_chestIn_42 rfl rfl ?_
    refine g_iload_n dX11_chestIn_43 rfl rfl ?_
    refine g_ic_ge (t := 60) dX11_chestIn_44 (by decide) (fun c1 => ?_) (fun c1 => ?_)
    · replace h := z_ift c1 h
      refine g_aload_n dX11_chestIn_60 rfl rfl ?_
      refine g_aload_n dX11_chestIn_61 rfl rfl ?_
      refine g_get (a := 0) (v := .ref 32) dX11_chestIn_62 f_11_30 sh_0 rfl rfl ?_
      refine g_get (a := 30) (v := .ref 33) dX11_chestIn_65 f_11_229 sh_30 rfl rfl ?_
      refine g_iload_n dX11_chestIn_68 rfl rfl ?_
      by_cases g2 : x1 < 0 ∨ 2 ≤ x1.toNatClampNeg
      · rw [if_pos g2] at h; cases h
      replace h := z_iff g2 h
      refine g_iald (a := 31) dX11_chestIn_69 sh_31 g2 ?_
      obtain ⟨q3, e4, h⟩ := z_bd h
      refine g_callV (a := 0) (as := [.int (M.1 31 x1.toNatClampNeg)]) (rest := []) (c := mX11_answer) (k1 := 0) dX11_chestIn_70 rfl rfl rfl sh_0 rfl rfl (Nat.le_of_ble_eq_true rfl) (Nat.le_of_ble_eq_true rfl) (by decide) ?_
      refine A_X11_answer e4 ?_
      show z_G none 3 mX11_chestIn 73 [some (.ref 2), some (.int x1), some (.int x2), some (.int x3)] [.int q3.1] q3.2 Q
      cases h
      exact g_iret dX11_chestIn_73 rfl rfl hq
    · replace h := z_iff c1 h
      refine g_aload_n dX11_chestIn_47 rfl rfl ?_
      refine g_get (a := 0) (v := .ref 32) dX11_chestIn_48 f_11_30 sh_0 rfl rfl ?_
      obtain ⟨q5, e6, h⟩ := z_bd h
      refine g_callV (a := 30) (as := []) (rest := []) (c := mX3_passMonth) (k1 := 2) dX11_chestIn_51 rfl rfl rfl sh_30 rfl rfl (Nat.le_of_ble_eq_true rfl) (Nat.le_of_ble_eq_true rfl) (by decide) ?_
      refine A_X3_passMonth z_par_30 e6 ?_
      show z_G none 3 mX11_chestIn 54 [some (.ref 2), some (.int x1), some (.int x2), some (.int x3)] [] q5.2 Q
      refine g_iinc (v := x3 + (1 : Int32)) (ls' := [some (.ref 2), some (.int x1), some (.int x2), some (.int (x3 + (1 : Int32)))]) dX11_chestIn_54 rfl rfl rfl ?_
      refine g_goto (t := 42) dX11_chestIn_57 (by decide) ?_
      exact g_sub (z_sub_s (z_sub_s (z_sub_s (z_sub_s z_sub_nil)))) (ih _ _ _ _ _ _ _ h hq)
def F_X11_chestIn (w : Nat) (M : z_Mem) (a1 : Int32) (a2 : Int32) : Option (Int32 × z_Mem) :=
  (F_X11_isSide w M a1).bind fun q7 =>
  if q7.1 = true then
  (F_X11_isWithin w q7.2 a2 (0 : Int32) (60 : Int32)).bind fun q10 =>
  if q10.1 = true then
  (F_X3_copyFrom w q10.2 30 7).bind fun q13 =>
  L_X11_chestIn w w q13.2 a1 a2 (0 : Int32)
  else
  (F_X11_refuse w q10.2 (5 : Int32)).bind fun q15 =>
  some (q15.1, q15.2)
  else
  (F_X11_refuse w q7.2 (2 : Int32)).bind fun q17 =>
  some (q17.1, q17.2)
set_option maxHeartbeats 4000000 in
theorem A_X11_chestIn {w : Nat} {M : z_Mem} {a1 : Int32} {a2 : Int32} {r : Int32} {M' : z_Mem} {Q : Option Value → z_Mem → Prop} (h : F_X11_chestIn w M a1 a2 = some (r, M')) (hq : Q (some (.int r)) M') : z_Cl 3 mX11_chestIn [.ref 2, .int a1, .int a2] M Q := by
  refine g_in (ls := [some (.ref 2), some (.int a1), some (.int a2), none]) rfl ?_
  unfold F_X11_chestIn at h
  refine g_iload_n dX11_chestIn_0 rfl rfl ?_
  obtain ⟨q7, e8, h⟩ := z_bd h
  refine g_callS (as := [.int a1]) (rest := []) (c := mX11_isSide) (k1 := 0) dX11_chestIn_1 rfl rfl rfl rfl rfl (Nat.le_of_ble_eq_true rfl) (Nat.le_of_ble_eq_true rfl) (by decide) ?_
  refine A_X11_isSide e8 ?_
  show z_G none 3 mX11_chestIn 4 [some (.ref 2), some (.int a1), some (.int a2), none] [.int (z_tb q7.1)] q7.2 Q
  refine g_if_ne (t := 13) dX11_chestIn_4 (by decide) (fun c9 => ?_) (fun c9 => ?_)
  · replace h := z_ift (z_tbn.mp c9) h
    refine g_iload_n dX11_chestIn_13 rfl rfl ?_
    refine g_iconst (v := (0 : Int32)) dX11_chestIn_14 (by decide) ?_
    refine g_bipush (v := (60 : Int32)) dX11_chestIn_15 (by decide) ?_
    obtain ⟨q10, e11, h⟩ := z_bd h
    refine g_callS (as := [.int a2, .int (0 : Int32), .int (60 : Int32)]) (rest := []) (c := mX11_isWithin) (k1 := 0) dX11_chestIn_17 rfl rfl rfl rfl rfl (Nat.le_of_ble_eq_true rfl) (Nat.le_of_ble_eq_true rfl) (by decide) ?_
    refine A_X11_isWithin e11 ?_
    show z_G none 3 mX11_chestIn 20 [some (.ref 2), some (.int a1), some (.int a2), none] [.int (z_tb q10.1)] q10.2 Q
    refine g_if_ne (t := 29) dX11_chestIn_20 (by decide) (fun c12 => ?_) (fun c12 => ?_)
    · replace h := z_ift (z_tbn.mp c12) h
      refine g_aload_n dX11_chestIn_29 rfl rfl ?_
      refine g_get (a := 0) (v := .ref 32) dX11_chestIn_30 f_11_30 sh_0 rfl rfl ?_
      refine g_aload_n dX11_chestIn_33 rfl rfl ?_
      refine g_get (a := 0) (v := .ref 9) dX11_chestIn_34 f_11_26 sh_0 rfl rfl ?_
      obtain ⟨q13, e14, h⟩ := z_bd h
      refine g_callV (a := 30) (as := [.ref 9]) (rest := []) (c := mX3_copyFrom) (k1 := 2) dX11_chestIn_37 rfl rfl rfl sh_30 rfl rfl (Nat.le_of_ble_eq_true rfl) (Nat.le_of_ble_eq_true rfl) (by decide) ?_
      refine A_X3_copyFrom z_par_30 z_par_7 e14 ?_
      show z_G none 3 mX11_chestIn 40 [some (.ref 2), some (.int a1), some (.int a2), none] [] q13.2 Q
      refine g_iconst (v := (0 : Int32)) dX11_chestIn_40 (by decide) ?_
      refine g_istore_n (ls' := [some (.ref 2), some (.int a1), some (.int a2), some (.int (0 : Int32))]) dX11_chestIn_41 rfl (Nat.le_of_ble_eq_true rfl) rfl ?_
      exact g_sub (z_sub_s (z_sub_s (z_sub_s (z_sub_s z_sub_nil)))) ((AL_X11_chestIn (w := w) w) _ _ _ _ _ _ _ h hq)
    · replace h := z_iff (z_tb0.mp c12) h
      refine g_aload_n dX11_chestIn_23 rfl rfl ?_
      refine g_iconst (v := (5 : Int32)) dX11_chestIn_24 (by decide) ?_
      obtain ⟨q15, e16, h⟩ := z_bd h
      refine g_callV (a := 0) (as := [.int (5 : Int32)]) (rest := []) (c := mX11_refuse) (k1 := 0) dX11_chestIn_25 rfl rfl rfl sh_0 rfl rfl (Nat.le_of_ble_eq_true rfl) (Nat.le_of_ble_eq_true rfl) (by decide) ?_
      refine A_X11_refuse e16 ?_
      show z_G none 3 mX11_chestIn 28 [some (.ref 2), some (.int a1), some (.int a2), none] [.int q15.1] q15.2 Q
      cases h
      exact g_iret dX11_chestIn_28 rfl rfl hq
  · replace h := z_iff (z_tb0.mp c9) h
    refine g_aload_n dX11_chestIn_7 rfl rfl ?_
    refine g_iconst (v := (2 : Int32)) dX11_chestIn_8 (by decide) ?_
    obtain ⟨q17, e18, h⟩ := z_bd h
    refine g_callV (a := 0) (as := [.int (2 : Int32)]) (rest := []) (c := mX11_refuse) (k1 := 0) dX11_chestIn_9 rfl rfl rfl sh_0 rfl rfl (Nat.le_of_ble_eq_true rfl) (Nat.le_of_ble_eq_true rfl) (by decide) ?_
    refine A_X11_refuse e18 ?_
    show z_G none 3 mX11_chestIn 12 [some (.ref 2), some (.int a1), some (.int a2), none] [.int q17.1] q17.2 Q
    cases h
    exact g_iret dX11_chestIn_12 rfl rfl hq
theorem dX11_tollIn_0 : decode cX11_tollIn 0 = .ok (.aload_n 0, 1) := by decide +kernel
theorem dX11_tollIn_1 : decode cX11_tollIn 1 = .ok (.getfield 30, 3) := by decide +kernel
theorem dX11_tollIn_4 : decode cX11_tollIn 4 = .ok (.aload_n 0, 1) := by decide +kernel
theorem dX11_tollIn_5 : decode cX11_tollIn 5 = .ok (.getfield 26, 3) := by decide +kernel
theorem dX11_tollIn_8 : decode cX11_tollIn 8 = .ok (.invokevirtual 151, 3) := by decide +kernel
theorem dX11_tollIn_11 : decode cX11_tollIn 11 = .ok (.iconst 1, 1) := by decide +kernel
theorem dX11_tollIn_12 : decode cX11_tollIn 12 = .ok (.aload_n 0, 1) := by decide +kernel
theorem dX11_tollIn_13 : decode cX11_tollIn 13 = .ok (.getfield 30, 3) := by decide +kernel
theorem dX11_tollIn_16 : decode cX11_tollIn 16 = .ok (.getfield 214, 3) := by decide +kernel
theorem dX11_tollIn_19 : decode cX11_tollIn 19 = .ok (.isub, 1) := by decide +kernel
theorem dX11_tollIn_20 : decode cX11_tollIn 20 = .ok (.istore_n 1, 1) := by decide +kernel
theorem dX11_tollIn_21 : decode cX11_tollIn 21 = .ok (.iconst 0, 1) := by decide +kernel
theorem dX11_tollIn_22 : decode cX11_tollIn 22 = .ok (.istore_n 2, 1) := by decide +kernel
theorem dX11_tollIn_23 : decode cX11_tollIn 23 = .ok (.iload_n 2, 1) := by decide +kernel
theorem dX11_tollIn_24 : decode cX11_tollIn 24 = .ok (.bipush 60, 2) := by decide +kernel
theorem dX11_tollIn_26 : decode cX11_tollIn 26 = .ok (.if_icmp .gt 41, 3) := by decide +kernel
theorem dX11_tollIn_29 : decode cX11_tollIn 29 = .ok (.aload_n 0, 1) := by decide +kernel
theorem dX11_tollIn_30 : decode cX11_tollIn 30 = .ok (.getfield 30, 3) := by decide +kernel
theorem dX11_tollIn_33 : decode cX11_tollIn 33 = .ok (.getfield 229, 3) := by decide +kernel
theorem dX11_tollIn_36 : decode cX11_tollIn 36 = .ok (.iload_n 1, 1) := by decide +kernel
theorem dX11_tollIn_37 : decode cX11_tollIn 37 = .ok (.iaload, 1) := by decide +kernel
theorem dX11_tollIn_38 : decode cX11_tollIn 38 = .ok (.aload_n 0, 1) := by decide +kernel
theorem dX11_tollIn_39 : decode cX11_tollIn 39 = .ok (.getfield 30, 3) := by decide +kernel
theorem dX11_tollIn_42 : decode cX11_tollIn 42 = .ok (.getfield 208, 3) := by decide +kernel
theorem dX11_tollIn_45 : decode cX11_tollIn 45 = .ok (.if_icmp .lt 9, 3) := by decide +kernel
theorem dX11_tollIn_48 : decode cX11_tollIn 48 = .ok (.aload_n 0, 1) := by decide +kernel
theorem dX11_tollIn_49 : decode cX11_tollIn 49 = .ok (.iload_n 2, 1) := by decide +kernel
theorem dX11_tollIn_50 : decode cX11_tollIn 50 = .ok (.invokevirtual 164, 3) := by decide +kernel
theorem dX11_tollIn_53 : decode cX11_tollIn 53 = .ok (.ireturn, 1) := by decide +kernel
theorem dX11_tollIn_54 : decode cX11_tollIn 54 = .ok (.aload_n 0, 1) := by decide +kernel
theorem dX11_tollIn_55 : decode cX11_tollIn 55 = .ok (.getfield 30, 3) := by decide +kernel
theorem dX11_tollIn_58 : decode cX11_tollIn 58 = .ok (.invokevirtual 309, 3) := by decide +kernel
theorem dX11_tollIn_61 : decode cX11_tollIn 61 = .ok (.iinc 2 1, 3) := by decide +kernel
theorem dX11_tollIn_64 : decode cX11_tollIn 64 = .ok (.goto (-41), 3) := by decide +kernel
theorem dX11_tollIn_67 : decode cX11_tollIn 67 = .ok (.aload_n 0, 1) := by decide +kernel
theorem dX11_tollIn_68 : decode cX11_tollIn 68 = .ok (.bipush 8, 2) := by decide +kernel
theorem dX11_tollIn_70 : decode cX11_tollIn 70 = .ok (.invokevirtual 113, 3) := by decide +kernel
theorem dX11_tollIn_73 : decode cX11_tollIn 73 = .ok (.ireturn, 1) := by decide +kernel
def L_X11_tollIn (w : Nat) : Nat → z_Mem → Int32 → Int32 → Option (Int32 × z_Mem)
  | 0, _, _, _ => none
  | c + 1, M, x1, x2 =>
    if (60 : Int32) < x2 then
    (F_X11_refuse w M (8 : Int32)).bind fun q2 =>
    some (q2.1, q2.2)
    else
    if x1 < 0 ∨ 2 ≤ x1.toNatClampNeg then none else
    if (M.1 31 x1.toNatClampNeg) < (M.1 30 6) then
    (F_X3_passMonth w M 30).bind fun q6 =>
    L_X11_tollIn w c q6.2 x1 (x2 + (1 : Int32))
    else
    (F_X11_answer w M x2).bind fun q8 =>
    some (q8.1, q8.2)
set_option maxHeartbeats 4000000 in
theorem AL_X11_tollIn {w : Nat} : ∀ (c : Nat), (∀ (M : z_Mem) (x1 : Int32) (x2 : Int32) (r : Int32) (M' : z_Mem) (Q : Option Value → z_Mem → Prop), L_X11_tollIn w c M x1 x2 = some (r, M') → Q (some (.int r)) M' → z_G none 3 mX11_tollIn 23 [some (.ref 2), some (.int x1), some (.int x2)] [] M Q) := by
  intro c
  induction c with
  | zero => exact (fun M x1 x2 r M' Q h hq => by rw [L_X11_tollIn] at h; cases h)
  | succ c ih =>
    intro M x1 x2 r M' Q h hq
    rw [L_X11_tollIn] at h
    refine g_iload_n dX11_tollIn_23 rfl rfl ?_
    refine g_bipush (v := (60 : Int32)) dX11_tollIn_24 (by decide) ?_
    refine g_ic_gt (t := 67) dX11_tollIn_26 (by decide) (fun c1 => ?_) (fun c1 => ?_)
    · replace h := z_ift c1 h
      refine g_aload_n dX11_tollIn_67 rfl rfl ?_
      refine g_bipush (v := (8 : Int32)) dX11_tollIn_68 (by decide) ?_
      obtain ⟨q2, e3, h⟩ := z_bd h
      refine g_callV (a := 0) (as := [.int (8 : Int32)]) (rest := []) (c := mX11_refuse) (k1 := 0) dX11_tollIn_70 rfl rfl rfl sh_0 rfl rfl (Nat.le_of_ble_eq_true rfl) (Nat.le_of_ble_eq_true rfl) (by decide) ?_
      refine A_X11_refuse e3 ?_
      show z_G none 3 mX11_tollIn 73 [some (.ref 2), some (.int x1), some (.int x2)] [.int q2.1] q2.2 Q
      cases h
      exact g_iret dX11_tollIn_73 rfl rfl hq
    · replace h := z_iff c1 h
      refine g_aload_n dX11_tollIn_29 rfl rfl ?_
      refine g_get (a := 0) (v := .ref 32) dX11_tollIn_30 f_11_30 sh_0 rfl rfl ?_
      refine g_get (a := 30) (v := .ref 33) dX11_tollIn_33 f_11_229 sh_30 rfl rfl ?_
      refine g_iload_n dX11_tollIn_36 rfl rfl ?_
      by_cases g4 : x1 < 0 ∨ 2 ≤ x1.toNatClampNeg
      · rw [if_pos g4] at h; cases h
      replace h := z_iff g4 h
      refine g_iald (a := 31) dX11_tollIn_37 sh_31 g4 ?_
      refine g_aload_n dX11_tollIn_38 rfl rfl ?_
      refine g_get (a := 0) (v := .ref 32) dX11_tollIn_39 f_11_30 sh_0 rfl rfl ?_
      refine g_get (a := 30) (v := .int (M.1 30 6)) dX11_tollIn_42 f_11_208 sh_30 rfl rfl ?_
      refine g_ic_lt (t := 54) dX11_tollIn_45 (by decide) (fun c5 => ?_) (fun c5 => ?_)
      · replace h := z_ift c5 h
        refine g_aload_n dX11_tollIn_54 rfl rfl ?_
        refine g_get (a := 0) (v := .ref 32) dX11_tollIn_55 f_11_30 sh_0 rfl rfl ?_
        obtain ⟨q6, e7, h⟩ := z_bd h
        refine g_callV (a := 30) (as := []) (rest := []) (c := mX3_passMonth) (k1 := 2) dX11_tollIn_58 rfl rfl rfl sh_30 rfl rfl (Nat.le_of_ble_eq_true rfl) (Nat.le_of_ble_eq_true rfl) (by decide) ?_
        refine A_X3_passMonth z_par_30 e7 ?_
        show z_G none 3 mX11_tollIn 61 [some (.ref 2), some (.int x1), some (.int x2)] [] q6.2 Q
        refine g_iinc (v := x2 + (1 : Int32)) (ls' := [some (.ref 2), some (.int x1), some (.int (x2 + (1 : Int32)))]) dX11_tollIn_61 rfl rfl rfl ?_
        refine g_goto (t := 23) dX11_tollIn_64 (by decide) ?_
        exact g_sub (z_sub_s (z_sub_s (z_sub_s z_sub_nil))) (ih _ _ _ _ _ _ h hq)
      · replace h := z_iff c5 h
        refine g_aload_n dX11_tollIn_48 rfl rfl ?_
        refine g_iload_n dX11_tollIn_49 rfl rfl ?_
        obtain ⟨q8, e9, h⟩ := z_bd h
        refine g_callV (a := 0) (as := [.int x2]) (rest := []) (c := mX11_answer) (k1 := 0) dX11_tollIn_50 rfl rfl rfl sh_0 rfl rfl (Nat.le_of_ble_eq_true rfl) (Nat.le_of_ble_eq_true rfl) (by decide) ?_
        refine A_X11_answer e9 ?_
        show z_G none 3 mX11_tollIn 53 [some (.ref 2), some (.int x1), some (.int x2)] [.int q8.1] q8.2 Q
        cases h
        exact g_iret dX11_tollIn_53 rfl rfl hq
def F_X11_tollIn (w : Nat) (M : z_Mem) : Option (Int32 × z_Mem) :=
  (F_X3_copyFrom w M 30 7).bind fun q10 =>
  L_X11_tollIn w w q10.2 ((1 : Int32) - (q10.2.1 30 8)) (0 : Int32)
set_option maxHeartbeats 4000000 in
theorem A_X11_tollIn {w : Nat} {M : z_Mem} {r : Int32} {M' : z_Mem} {Q : Option Value → z_Mem → Prop} (h : F_X11_tollIn w M = some (r, M')) (hq : Q (some (.int r)) M') : z_Cl 3 mX11_tollIn [.ref 2] M Q := by
  refine g_in (ls := [some (.ref 2), none, none]) rfl ?_
  unfold F_X11_tollIn at h
  refine g_aload_n dX11_tollIn_0 rfl rfl ?_
  refine g_get (a := 0) (v := .ref 32) dX11_tollIn_1 f_11_30 sh_0 rfl rfl ?_
  refine g_aload_n dX11_tollIn_4 rfl rfl ?_
  refine g_get (a := 0) (v := .ref 9) dX11_tollIn_5 f_11_26 sh_0 rfl rfl ?_
  obtain ⟨q10, e11, h⟩ := z_bd h
  refine g_callV (a := 30) (as := [.ref 9]) (rest := []) (c := mX3_copyFrom) (k1 := 2) dX11_tollIn_8 rfl rfl rfl sh_30 rfl rfl (Nat.le_of_ble_eq_true rfl) (Nat.le_of_ble_eq_true rfl) (by decide) ?_
  refine A_X3_copyFrom z_par_30 z_par_7 e11 ?_
  show z_G none 3 mX11_tollIn 11 [some (.ref 2), none, none] [] q10.2 Q
  refine g_iconst (v := (1 : Int32)) dX11_tollIn_11 (by decide) ?_
  refine g_aload_n dX11_tollIn_12 rfl rfl ?_
  refine g_get (a := 0) (v := .ref 32) dX11_tollIn_13 f_11_30 sh_0 rfl rfl ?_
  refine g_get (a := 30) (v := .int (q10.2.1 30 8)) dX11_tollIn_16 f_11_214 sh_30 rfl rfl ?_
  refine g_isub dX11_tollIn_19 ?_
  refine g_istore_n (ls' := [some (.ref 2), some (.int ((1 : Int32) - (q10.2.1 30 8))), none]) dX11_tollIn_20 rfl (Nat.le_of_ble_eq_true rfl) rfl ?_
  refine g_iconst (v := (0 : Int32)) dX11_tollIn_21 (by decide) ?_
  refine g_istore_n (ls' := [some (.ref 2), some (.int ((1 : Int32) - (q10.2.1 30 8))), some (.int (0 : Int32))]) dX11_tollIn_22 rfl (Nat.le_of_ble_eq_true rfl) rfl ?_
  exact g_sub (z_sub_s (z_sub_s (z_sub_s z_sub_nil))) ((AL_X11_tollIn (w := w) w) _ _ _ _ _ _ h hq)
theorem dX11_bears_0 : decode cX11_bears 0 = .ok (.iconst 0, 1) := by decide +kernel
theorem dX11_bears_1 : decode cX11_bears 1 = .ok (.istore_n 1, 1) := by decide +kernel
theorem dX11_bears_2 : decode cX11_bears 2 = .ok (.iconst 0, 1) := by decide +kernel
theorem dX11_bears_3 : decode cX11_bears 3 = .ok (.istore_n 2, 1) := by decide +kernel
theorem dX11_bears_4 : decode cX11_bears 4 = .ok (.iload_n 2, 1) := by decide +kernel
theorem dX11_bears_5 : decode cX11_bears 5 = .ok (.aload_n 0, 1) := by decide +kernel
theorem dX11_bears_6 : decode cX11_bears 6 = .ok (.getfield 26, 3) := by decide +kernel
theorem dX11_bears_9 : decode cX11_bears 9 = .ok (.getfield 155, 3) := by decide +kernel
theorem dX11_bears_12 : decode cX11_bears 12 = .ok (.getfield 159, 3) := by decide +kernel
theorem dX11_bears_15 : decode cX11_bears 15 = .ok (.if_icmp .ge 26, 3) := by decide +kernel
theorem dX11_bears_18 : decode cX11_bears 18 = .ok (.aload_n 0, 1) := by decide +kernel
theorem dX11_bears_19 : decode cX11_bears 19 = .ok (.getfield 26, 3) := by decide +kernel
theorem dX11_bears_22 : decode cX11_bears 22 = .ok (.iload_n 2, 1) := by decide +kernel
theorem dX11_bears_23 : decode cX11_bears 23 = .ok (.invokevirtual 312, 3) := by decide +kernel
theorem dX11_bears_26 : decode cX11_bears 26 = .ok (.ifCond .eq 9, 3) := by decide +kernel
theorem dX11_bears_29 : decode cX11_bears 29 = .ok (.iload_n 1, 1) := by decide +kernel
theorem dX11_bears_30 : decode cX11_bears 30 = .ok (.iconst 1, 1) := by decide +kernel
theorem dX11_bears_31 : decode cX11_bears 31 = .ok (.iload_n 2, 1) := by decide +kernel
theorem dX11_bears_32 : decode cX11_bears 32 = .ok (.ishl, 1) := by decide +kernel
theorem dX11_bears_33 : decode cX11_bears 33 = .ok (.ior, 1) := by decide +kernel
theorem dX11_bears_34 : decode cX11_bears 34 = .ok (.istore_n 1, 1) := by decide +kernel
theorem dX11_bears_35 : decode cX11_bears 35 = .ok (.iinc 2 1, 3) := by decide +kernel
theorem dX11_bears_38 : decode cX11_bears 38 = .ok (.goto (-34), 3) := by decide +kernel
theorem dX11_bears_41 : decode cX11_bears 41 = .ok (.aload_n 0, 1) := by decide +kernel
theorem dX11_bears_42 : decode cX11_bears 42 = .ok (.iload_n 1, 1) := by decide +kernel
theorem dX11_bears_43 : decode cX11_bears 43 = .ok (.invokevirtual 164, 3) := by decide +kernel
theorem dX11_bears_46 : decode cX11_bears 46 = .ok (.ireturn, 1) := by decide +kernel
def L_X11_bears (w : Nat) : Nat → z_Mem → Int32 → Int32 → Option (Int32 × z_Mem)
  | 0, _, _, _ => none
  | c + 1, M, x1, x2 =>
    if (M.1 9 5) ≤ x2 then
    (F_X11_answer w M x1).bind fun q2 =>
    some (q2.1, q2.2)
    else
    (F_X3_isBearing w M 7 x2).bind fun q4 =>
    if q4.1 = true then
    L_X11_bears w c q4.2 (x1 ||| ((1 : Int32) <<< (x2 &&& 31))) (x2 + (1 : Int32))
    else
    L_X11_bears w c q4.2 x1 (x2 + (1 : Int32))
set_option maxHeartbeats 4000000 in
theorem AL_X11_bears {w : Nat} : ∀ (c : Nat), (∀ (M : z_Mem) (x1 : Int32) (x2 : Int32) (r : Int32) (M' : z_Mem) (Q : Option Value → z_Mem → Prop), L_X11_bears w c M x1 x2 = some (r, M') → Q (some (.int r)) M' → z_G none 2 mX11_bears 4 [some (.ref 2), some (.int x1), some (.int x2)] [] M Q) := by
  intro c
  induction c with
  | zero => exact (fun M x1 x2 r M' Q h hq => by rw [L_X11_bears] at h; cases h)
  | succ c ih =>
    intro M x1 x2 r M' Q h hq
    rw [L_X11_bears] at h
    refine g_iload_n dX11_bears_4 rfl rfl ?_
    refine g_aload_n dX11_bears_5 rfl rfl ?_
    refine g_get (a := 0) (v := .ref 9) dX11_bears_6 f_11_26 sh_0 rfl rfl ?_
    refine g_get (a := 7) (v := .ref 11) dX11_bears_9 f_11_155 sh_7 rfl rfl ?_
    refine g_get (a := 9) (v := .int (M.1 9 5)) dX11_bears_12 f_11_159 sh_9 rfl rfl ?_
    refine g_ic_ge (t := 41) dX11_bears_15 (by decide) (fun c1 => ?_) (fun c1 => ?_)
    · replace h := z_ift c1 h
      refine g_aload_n dX11_bears_41 rfl rfl ?_
      refine g_iload_n dX11_bears_42 rfl rfl ?_
      obtain ⟨q2, e3, h⟩ := z_bd h
      refine g_callV (a := 0) (as := [.int x1]) (rest := []) (c := mX11_answer) (k1 := 0) dX11_bears_43 rfl rfl rfl sh_0 rfl rfl (Nat.le_of_ble_eq_true rfl) (Nat.le_of_ble_eq_true rfl) (by decide) ?_
      refine A_X11_answer e3 ?_
      show z_G none 2 mX11_bears 46 [some (.ref 2), some (.int x1), some (.int x2)] [.int q2.1] q2.2 Q
      cases h
      exact g_iret dX11_bears_46 rfl rfl hq
    · replace h := z_iff c1 h
      refine g_aload_n dX11_bears_18 rfl rfl ?_
      refine g_get (a := 0) (v := .ref 9) dX11_bears_19 f_11_26 sh_0 rfl rfl ?_
      refine g_iload_n dX11_bears_22 rfl rfl ?_
      obtain ⟨q4, e5, h⟩ := z_bd h
      refine g_callV (a := 7) (as := [.int x2]) (rest := []) (c := mX3_isBearing) (k1 := 1) dX11_bears_23 rfl rfl rfl sh_7 rfl rfl (Nat.le_of_ble_eq_true rfl) (Nat.le_of_ble_eq_true rfl) (by decide) ?_
      refine A_X3_isBearing z_par_7 e5 ?_
      show z_G none 2 mX11_bears 26 [some (.ref 2), some (.int x1), some (.int x2)] [.int (z_tb q4.1)] q4.2 Q
      refine g_if_eq (t := 35) dX11_bears_26 (by decide) (fun c6 => ?_) (fun c6 => ?_)
      · replace h := z_iff (z_tb0.mp c6) h
        refine g_iinc (v := x2 + (1 : Int32)) (ls' := [some (.ref 2), some (.int x1), some (.int (x2 + (1 : Int32)))]) dX11_bears_35 rfl rfl rfl ?_
        refine g_goto (t := 4) dX11_bears_38 (by decide) ?_
        exact g_sub (z_sub_s (z_sub_s (z_sub_s z_sub_nil))) (ih _ _ _ _ _ _ h hq)
      · replace h := z_ift (z_tbn.mp c6) h
        refine g_iload_n dX11_bears_29 rfl rfl ?_
        refine g_iconst (v := (1 : Int32)) dX11_bears_30 (by decide) ?_
        refine g_iload_n dX11_bears_31 rfl rfl ?_
        refine g_ishl dX11_bears_32 ?_
        refine g_ior dX11_bears_33 ?_
        refine g_istore_n (ls' := [some (.ref 2), some (.int (x1 ||| ((1 : Int32) <<< (x2 &&& 31)))), some (.int x2)]) dX11_bears_34 rfl (Nat.le_of_ble_eq_true rfl) rfl ?_
        refine g_iinc (v := x2 + (1 : Int32)) (ls' := [some (.ref 2), some (.int (x1 ||| ((1 : Int32) <<< (x2 &&& 31)))), some (.int (x2 + (1 : Int32)))]) dX11_bears_35 rfl rfl rfl ?_
        refine g_goto (t := 4) dX11_bears_38 (by decide) ?_
        exact g_sub (z_sub_s (z_sub_s (z_sub_s z_sub_nil))) (ih _ _ _ _ _ _ h hq)
def F_X11_bears (w : Nat) (M : z_Mem) : Option (Int32 × z_Mem) :=
  L_X11_bears w w M (0 : Int32) (0 : Int32)
set_option maxHeartbeats 4000000 in
theorem A_X11_bears {w : Nat} {M : z_Mem} {r : Int32} {M' : z_Mem} {Q : Option Value → z_Mem → Prop} (h : F_X11_bears w M = some (r, M')) (hq : Q (some (.int r)) M') : z_Cl 2 mX11_bears [.ref 2] M Q := by
  refine g_in (ls := [some (.ref 2), none, none]) rfl ?_
  unfold F_X11_bears at h
  refine g_iconst (v := (0 : Int32)) dX11_bears_0 (by decide) ?_
  refine g_istore_n (ls' := [some (.ref 2), some (.int (0 : Int32)), none]) dX11_bears_1 rfl (Nat.le_of_ble_eq_true rfl) rfl ?_
  refine g_iconst (v := (0 : Int32)) dX11_bears_2 (by decide) ?_
  refine g_istore_n (ls' := [some (.ref 2), some (.int (0 : Int32)), some (.int (0 : Int32))]) dX11_bears_3 rfl (Nat.le_of_ble_eq_true rfl) rfl ?_
  exact g_sub (z_sub_s (z_sub_s (z_sub_s z_sub_nil))) ((AL_X11_bears (w := w) w) _ _ _ _ _ _ h hq)
theorem dX11_gain_0 : decode cX11_gain 0 = .ok (.iload_n 1, 1) := by decide +kernel
theorem dX11_gain_1 : decode cX11_gain 1 = .ok (.invokestatic 226, 3) := by decide +kernel
theorem dX11_gain_4 : decode cX11_gain 4 = .ok (.ifCond .ne 9, 3) := by decide +kernel
theorem dX11_gain_7 : decode cX11_gain 7 = .ok (.aload_n 0, 1) := by decide +kernel
theorem dX11_gain_8 : decode cX11_gain 8 = .ok (.iconst 2, 1) := by decide +kernel
theorem dX11_gain_9 : decode cX11_gain 9 = .ok (.invokevirtual 113, 3) := by decide +kernel
theorem dX11_gain_12 : decode cX11_gain 12 = .ok (.ireturn, 1) := by decide +kernel
theorem dX11_gain_13 : decode cX11_gain 13 = .ok (.iload_n 2, 1) := by decide +kernel
theorem dX11_gain_14 : decode cX11_gain 14 = .ok (.invokestatic 299, 3) := by decide +kernel
theorem dX11_gain_17 : decode cX11_gain 17 = .ok (.ifCond .ne 9, 3) := by decide +kernel
theorem dX11_gain_20 : decode cX11_gain 20 = .ok (.aload_n 0, 1) := by decide +kernel
theorem dX11_gain_21 : decode cX11_gain 21 = .ok (.iconst 5, 1) := by decide +kernel
theorem dX11_gain_22 : decode cX11_gain 22 = .ok (.invokevirtual 113, 3) := by decide +kernel
theorem dX11_gain_25 : decode cX11_gain 25 = .ok (.ireturn, 1) := by decide +kernel
theorem dX11_gain_26 : decode cX11_gain 26 = .ok (.aload_n 0, 1) := by decide +kernel
theorem dX11_gain_27 : decode cX11_gain 27 = .ok (.getfield 62, 3) := by decide +kernel
theorem dX11_gain_30 : decode cX11_gain 30 = .ok (.aload_n 0, 1) := by decide +kernel
theorem dX11_gain_31 : decode cX11_gain 31 = .ok (.getfield 26, 3) := by decide +kernel
theorem dX11_gain_34 : decode cX11_gain 34 = .ok (.invokevirtual 315, 3) := by decide +kernel
theorem dX11_gain_37 : decode cX11_gain 37 = .ok (.aload_n 0, 1) := by decide +kernel
theorem dX11_gain_38 : decode cX11_gain 38 = .ok (.aload_n 0, 1) := by decide +kernel
theorem dX11_gain_39 : decode cX11_gain 39 = .ok (.getfield 62, 3) := by decide +kernel
theorem dX11_gain_42 : decode cX11_gain 42 = .ok (.iload_n 1, 1) := by decide +kernel
theorem dX11_gain_43 : decode cX11_gain 43 = .ok (.iload_n 2, 1) := by decide +kernel
theorem dX11_gain_44 : decode cX11_gain 44 = .ok (.invokevirtual 318, 3) := by decide +kernel
theorem dX11_gain_47 : decode cX11_gain 47 = .ok (.invokevirtual 164, 3) := by decide +kernel
theorem dX11_gain_50 : decode cX11_gain 50 = .ok (.ireturn, 1) := by decide +kernel
def F_X11_gain (w : Nat) (M : z_Mem) (a1 : Int32) (a2 : Int32) : Option (Int32 × z_Mem) :=
  (F_X11_isSide w M a1).bind fun q1 =>
  if q1.1 = true then
  (F_X11_isPlan w q1.2 a2).bind fun q4 =>
  if q4.1 = true then
  (F_X5_weigh w q4.2 7).bind fun q7 =>
  (F_X5_gainOf w q7.2 a1 a2).bind fun q9 =>
  (F_X11_answer w q9.2 q9.1).bind fun q11 =>
  some (q11.1, q11.2)
  else
  (F_X11_refuse w q4.2 (5 : Int32)).bind fun q13 =>
  some (q13.1, q13.2)
  else
  (F_X11_refuse w q1.2 (2 : Int32)).bind fun q15 =>
  some (q15.1, q15.2)
set_option maxHeartbeats 4000000 in
theorem A_X11_gain {w : Nat} {M : z_Mem} {a1 : Int32} {a2 : Int32} {r : Int32} {M' : z_Mem} {Q : Option Value → z_Mem → Prop} (h : F_X11_gain w M a1 a2 = some (r, M')) (hq : Q (some (.int r)) M') : z_Cl 3 mX11_gain [.ref 2, .int a1, .int a2] M Q := by
  refine g_in (ls := [some (.ref 2), some (.int a1), some (.int a2)]) rfl ?_
  unfold F_X11_gain at h
  refine g_iload_n dX11_gain_0 rfl rfl ?_
  obtain ⟨q1, e2, h⟩ := z_bd h
  refine g_callS (as := [.int a1]) (rest := []) (c := mX11_isSide) (k1 := 0) dX11_gain_1 rfl rfl rfl rfl rfl (Nat.le_of_ble_eq_true rfl) (Nat.le_of_ble_eq_true rfl) (by decide) ?_
  refine A_X11_isSide e2 ?_
  show z_G none 3 mX11_gain 4 [some (.ref 2), some (.int a1), some (.int a2)] [.int (z_tb q1.1)] q1.2 Q
  refine g_if_ne (t := 13) dX11_gain_4 (by decide) (fun c3 => ?_) (fun c3 => ?_)
  · replace h := z_ift (z_tbn.mp c3) h
    refine g_iload_n dX11_gain_13 rfl rfl ?_
    obtain ⟨q4, e5, h⟩ := z_bd h
    refine g_callS (as := [.int a2]) (rest := []) (c := mX11_isPlan) (k1 := 0) dX11_gain_14 rfl rfl rfl rfl rfl (Nat.le_of_ble_eq_true rfl) (Nat.le_of_ble_eq_true rfl) (by decide) ?_
    refine A_X11_isPlan e5 ?_
    show z_G none 3 mX11_gain 17 [some (.ref 2), some (.int a1), some (.int a2)] [.int (z_tb q4.1)] q4.2 Q
    refine g_if_ne (t := 26) dX11_gain_17 (by decide) (fun c6 => ?_) (fun c6 => ?_)
    · replace h := z_ift (z_tbn.mp c6) h
      refine g_aload_n dX11_gain_26 rfl rfl ?_
      refine g_get (a := 0) (v := .ref 61) dX11_gain_27 f_11_62 sh_0 rfl rfl ?_
      refine g_aload_n dX11_gain_30 rfl rfl ?_
      refine g_get (a := 0) (v := .ref 9) dX11_gain_31 f_11_26 sh_0 rfl rfl ?_
      obtain ⟨q7, e8, h⟩ := z_bd h
      refine g_callV (a := 59) (as := [.ref 9]) (rest := []) (c := mX5_weigh) (k1 := 2) dX11_gain_34 rfl rfl rfl sh_59 rfl rfl (Nat.le_of_ble_eq_true rfl) (Nat.le_of_ble_eq_true rfl) (by decide) ?_
      refine A_X5_weigh z_par_7 e8 ?_
      show z_G none 3 mX11_gain 37 [some (.ref 2), some (.int a1), some (.int a2)] [] q7.2 Q
      refine g_aload_n dX11_gain_37 rfl rfl ?_
      refine g_aload_n dX11_gain_38 rfl rfl ?_
      refine g_get (a := 0) (v := .ref 61) dX11_gain_39 f_11_62 sh_0 rfl rfl ?_
      refine g_iload_n dX11_gain_42 rfl rfl ?_
      refine g_iload_n dX11_gain_43 rfl rfl ?_
      obtain ⟨q9, e10, h⟩ := z_bd h
      refine g_callV (a := 59) (as := [.int a1, .int a2]) (rest := [.ref 2]) (c := mX5_gainOf) (k1 := 0) dX11_gain_44 rfl rfl rfl sh_59 rfl rfl (Nat.le_of_ble_eq_true rfl) (Nat.le_of_ble_eq_true rfl) (by decide) ?_
      refine A_X5_gainOf e10 ?_
      show z_G none 3 mX11_gain 47 [some (.ref 2), some (.int a1), some (.int a2)] [.int q9.1, .ref 2] q9.2 Q
      obtain ⟨q11, e12, h⟩ := z_bd h
      refine g_callV (a := 0) (as := [.int q9.1]) (rest := []) (c := mX11_answer) (k1 := 0) dX11_gain_47 rfl rfl rfl sh_0 rfl rfl (Nat.le_of_ble_eq_true rfl) (Nat.le_of_ble_eq_true rfl) (by decide) ?_
      refine A_X11_answer e12 ?_
      show z_G none 3 mX11_gain 50 [some (.ref 2), some (.int a1), some (.int a2)] [.int q11.1] q11.2 Q
      cases h
      exact g_iret dX11_gain_50 rfl rfl hq
    · replace h := z_iff (z_tb0.mp c6) h
      refine g_aload_n dX11_gain_20 rfl rfl ?_
      refine g_iconst (v := (5 : Int32)) dX11_gain_21 (by decide) ?_
      obtain ⟨q13, e14, h⟩ := z_bd h
      refine g_callV (a := 0) (as := [.int (5 : Int32)]) (rest := []) (c := mX11_refuse) (k1 := 0) dX11_gain_22 rfl rfl rfl sh_0 rfl rfl (Nat.le_of_ble_eq_true rfl) (Nat.le_of_ble_eq_true rfl) (by decide) ?_
      refine A_X11_refuse e14 ?_
      show z_G none 3 mX11_gain 25 [some (.ref 2), some (.int a1), some (.int a2)] [.int q13.1] q13.2 Q
      cases h
      exact g_iret dX11_gain_25 rfl rfl hq
  · replace h := z_iff (z_tb0.mp c3) h
    refine g_aload_n dX11_gain_7 rfl rfl ?_
    refine g_iconst (v := (2 : Int32)) dX11_gain_8 (by decide) ?_
    obtain ⟨q15, e16, h⟩ := z_bd h
    refine g_callV (a := 0) (as := [.int (2 : Int32)]) (rest := []) (c := mX11_refuse) (k1 := 0) dX11_gain_9 rfl rfl rfl sh_0 rfl rfl (Nat.le_of_ble_eq_true rfl) (Nat.le_of_ble_eq_true rfl) (by decide) ?_
    refine A_X11_refuse e16 ?_
    show z_G none 3 mX11_gain 12 [some (.ref 2), some (.int a1), some (.int a2)] [.int q15.1] q15.2 Q
    cases h
    exact g_iret dX11_gain_12 rfl rfl hq
theorem dX11_changes_0 : decode cX11_changes 0 = .ok (.iload_n 1, 1) := by decide +kernel
theorem dX11_changes_1 : decode cX11_changes 1 = .ok (.invokestatic 299, 3) := by decide +kernel
theorem dX11_changes_4 : decode cX11_changes 4 = .ok (.ifCond .eq 14, 3) := by decide +kernel
theorem dX11_changes_7 : decode cX11_changes 7 = .ok (.aload_n 0, 1) := by decide +kernel
theorem dX11_changes_8 : decode cX11_changes 8 = .ok (.iload_n 1, 1) := by decide +kernel
theorem dX11_changes_9 : decode cX11_changes 9 = .ok (.invokestatic 321, 3) := by decide +kernel
theorem dX11_changes_12 : decode cX11_changes 12 = .ok (.invokevirtual 164, 3) := by decide +kernel
theorem dX11_changes_15 : decode cX11_changes 15 = .ok (.goto 8, 3) := by decide +kernel
theorem dX11_changes_18 : decode cX11_changes 18 = .ok (.aload_n 0, 1) := by decide +kernel
theorem dX11_changes_19 : decode cX11_changes 19 = .ok (.iconst 5, 1) := by decide +kernel
theorem dX11_changes_20 : decode cX11_changes 20 = .ok (.invokevirtual 113, 3) := by decide +kernel
theorem dX11_changes_23 : decode cX11_changes 23 = .ok (.ireturn, 1) := by decide +kernel
def F_X11_changes (w : Nat) (M : z_Mem) (a1 : Int32) : Option (Int32 × z_Mem) :=
  (F_X11_isPlan w M a1).bind fun q1 =>
  if q1.1 = true then
  (F_X5_changesOf w q1.2 a1).bind fun q6 =>
  (F_X11_answer w q6.2 q6.1).bind fun q8 =>
  some (q8.1, q8.2)
  else
  (F_X11_refuse w q1.2 (5 : Int32)).bind fun q4 =>
  some (q4.1, q4.2)
set_option maxHeartbeats 4000000 in
theorem A_X11_changes {w : Nat} {M : z_Mem} {a1 : Int32} {r : Int32} {M' : z_Mem} {Q : Option Value → z_Mem → Prop} (h : F_X11_changes w M a1 = some (r, M')) (hq : Q (some (.int r)) M') : z_Cl 2 mX11_changes [.ref 2, .int a1] M Q := by
  refine g_in (ls := [some (.ref 2), some (.int a1)]) rfl ?_
  unfold F_X11_changes at h
  refine g_iload_n dX11_changes_0 rfl rfl ?_
  obtain ⟨q1, e2, h⟩ := z_bd h
  refine g_callS (as := [.int a1]) (rest := []) (c := mX11_isPlan) (k1 := 0) dX11_changes_1 rfl rfl rfl rfl rfl (Nat.le_of_ble_eq_true rfl) (Nat.le_of_ble_eq_true rfl) (by decide) ?_
  refine A_X11_isPlan e2 ?_
  show z_G none 2 mX11_changes 4 [some (.ref 2), some (.int a1)] [.int (z_tb q1.1)] q1.2 Q
  refine g_if_eq (t := 18) dX11_changes_4 (by decide) (fun c3 => ?_) (fun c3 => ?_)
  · replace h := z_iff (z_tb0.mp c3) h
    refine g_aload_n dX11_changes_18 rfl rfl ?_
    refine g_iconst (v := (5 : Int32)) dX11_changes_19 (by decide) ?_
    obtain ⟨q4, e5, h⟩ := z_bd h
    refine g_callV (a := 0) (as := [.int (5 : Int32)]) (rest := []) (c := mX11_refuse) (k1 := 0) dX11_changes_20 rfl rfl rfl sh_0 rfl rfl (Nat.le_of_ble_eq_true rfl) (Nat.le_of_ble_eq_true rfl) (by decide) ?_
    refine A_X11_refuse e5 ?_
    show z_G none 2 mX11_changes 23 [some (.ref 2), some (.int a1)] [.int q4.1] q4.2 Q
    cases h
    exact g_iret dX11_changes_23 rfl rfl hq
  · replace h := z_ift (z_tbn.mp c3) h
    refine g_aload_n dX11_changes_7 rfl rfl ?_
    refine g_iload_n dX11_changes_8 rfl rfl ?_
    obtain ⟨q6, e7, h⟩ := z_bd h
    refine g_callS (as := [.int a1]) (rest := [.ref 2]) (c := mX5_changesOf) (k1 := 1) dX11_changes_9 rfl rfl rfl rfl rfl (Nat.le_of_ble_eq_true rfl) (Nat.le_of_ble_eq_true rfl) (by decide) ?_
    refine A_X5_changesOf e7 ?_
    show z_G none 2 mX11_changes 12 [some (.ref 2), some (.int a1)] [.int q6.1, .ref 2] q6.2 Q
    obtain ⟨q8, e9, h⟩ := z_bd h
    refine g_callV (a := 0) (as := [.int q6.1]) (rest := []) (c := mX11_answer) (k1 := 0) dX11_changes_12 rfl rfl rfl sh_0 rfl rfl (Nat.le_of_ble_eq_true rfl) (Nat.le_of_ble_eq_true rfl) (by decide) ?_
    refine A_X11_answer e9 ?_
    show z_G none 2 mX11_changes 15 [some (.ref 2), some (.int a1)] [.int q8.1] q8.2 Q
    refine g_goto (t := 23) dX11_changes_15 (by decide) ?_
    cases h
    exact g_iret dX11_changes_23 rfl rfl hq
theorem dX11_net_0 : decode cX11_net 0 = .ok (.iload_n 1, 1) := by decide +kernel
theorem dX11_net_1 : decode cX11_net 1 = .ok (.invokestatic 299, 3) := by decide +kernel
theorem dX11_net_4 : decode cX11_net 4 = .ok (.ifCond .ne 9, 3) := by decide +kernel
theorem dX11_net_7 : decode cX11_net 7 = .ok (.aload_n 0, 1) := by decide +kernel
theorem dX11_net_8 : decode cX11_net 8 = .ok (.iconst 5, 1) := by decide +kernel
theorem dX11_net_9 : decode cX11_net 9 = .ok (.invokevirtual 113, 3) := by decide +kernel
theorem dX11_net_12 : decode cX11_net 12 = .ok (.ireturn, 1) := by decide +kernel
theorem dX11_net_13 : decode cX11_net 13 = .ok (.aload_n 0, 1) := by decide +kernel
theorem dX11_net_14 : decode cX11_net 14 = .ok (.getfield 62, 3) := by decide +kernel
theorem dX11_net_17 : decode cX11_net 17 = .ok (.aload_n 0, 1) := by decide +kernel
theorem dX11_net_18 : decode cX11_net 18 = .ok (.getfield 26, 3) := by decide +kernel
theorem dX11_net_21 : decode cX11_net 21 = .ok (.invokevirtual 315, 3) := by decide +kernel
theorem dX11_net_24 : decode cX11_net 24 = .ok (.aload_n 0, 1) := by decide +kernel
theorem dX11_net_25 : decode cX11_net 25 = .ok (.aload_n 0, 1) := by decide +kernel
theorem dX11_net_26 : decode cX11_net 26 = .ok (.getfield 62, 3) := by decide +kernel
theorem dX11_net_29 : decode cX11_net 29 = .ok (.iload_n 1, 1) := by decide +kernel
theorem dX11_net_30 : decode cX11_net 30 = .ok (.invokevirtual 324, 3) := by decide +kernel
theorem dX11_net_33 : decode cX11_net 33 = .ok (.invokevirtual 164, 3) := by decide +kernel
theorem dX11_net_36 : decode cX11_net 36 = .ok (.ireturn, 1) := by decide +kernel
def F_X11_net (w : Nat) (M : z_Mem) (a1 : Int32) : Option (Int32 × z_Mem) :=
  (F_X11_isPlan w M a1).bind fun q1 =>
  if q1.1 = true then
  (F_X5_weigh w q1.2 7).bind fun q4 =>
  (F_X5_netOf w q4.2 a1).bind fun q6 =>
  (F_X11_answer w q6.2 q6.1).bind fun q8 =>
  some (q8.1, q8.2)
  else
  (F_X11_refuse w q1.2 (5 : Int32)).bind fun q10 =>
  some (q10.1, q10.2)
set_option maxHeartbeats 4000000 in
theorem A_X11_net {w : Nat} {M : z_Mem} {a1 : Int32} {r : Int32} {M' : z_Mem} {Q : Option Value → z_Mem → Prop} (h : F_X11_net w M a1 = some (r, M')) (hq : Q (some (.int r)) M') : z_Cl 3 mX11_net [.ref 2, .int a1] M Q := by
  refine g_in (ls := [some (.ref 2), some (.int a1)]) rfl ?_
  unfold F_X11_net at h
  refine g_iload_n dX11_net_0 rfl rfl ?_
  obtain ⟨q1, e2, h⟩ := z_bd h
  refine g_callS (as := [.int a1]) (rest := []) (c := mX11_isPlan) (k1 := 0) dX11_net_1 rfl rfl rfl rfl rfl (Nat.le_of_ble_eq_true rfl) (Nat.le_of_ble_eq_true rfl) (by decide) ?_
  refine A_X11_isPlan e2 ?_
  show z_G none 3 mX11_net 4 [some (.ref 2), some (.int a1)] [.int (z_tb q1.1)] q1.2 Q
  refine g_if_ne (t := 13) dX11_net_4 (by decide) (fun c3 => ?_) (fun c3 => ?_)
  · replace h := z_ift (z_tbn.mp c3) h
    refine g_aload_n dX11_net_13 rfl rfl ?_
    refine g_get (a := 0) (v := .ref 61) dX11_net_14 f_11_62 sh_0 rfl rfl ?_
    refine g_aload_n dX11_net_17 rfl rfl ?_
    refine g_get (a := 0) (v := .ref 9) dX11_net_18 f_11_26 sh_0 rfl rfl ?_
    obtain ⟨q4, e5, h⟩ := z_bd h
    refine g_callV (a := 59) (as := [.ref 9]) (rest := []) (c := mX5_weigh) (k1 := 2) dX11_net_21 rfl rfl rfl sh_59 rfl rfl (Nat.le_of_ble_eq_true rfl) (Nat.le_of_ble_eq_true rfl) (by decide) ?_
    refine A_X5_weigh z_par_7 e5 ?_
    show z_G none 3 mX11_net 24 [some (.ref 2), some (.int a1)] [] q4.2 Q
    refine g_aload_n dX11_net_24 rfl rfl ?_
    refine g_aload_n dX11_net_25 rfl rfl ?_
    refine g_get (a := 0) (v := .ref 61) dX11_net_26 f_11_62 sh_0 rfl rfl ?_
    refine g_iload_n dX11_net_29 rfl rfl ?_
    obtain ⟨q6, e7, h⟩ := z_bd h
    refine g_callV (a := 59) (as := [.int a1]) (rest := [.ref 2]) (c := mX5_netOf) (k1 := 2) dX11_net_30 rfl rfl rfl sh_59 rfl rfl (Nat.le_of_ble_eq_true rfl) (Nat.le_of_ble_eq_true rfl) (by decide) ?_
    refine A_X5_netOf e7 ?_
    show z_G none 3 mX11_net 33 [some (.ref 2), some (.int a1)] [.int q6.1, .ref 2] q6.2 Q
    obtain ⟨q8, e9, h⟩ := z_bd h
    refine g_callV (a := 0) (as := [.int q6.1]) (rest := []) (c := mX11_answer) (k1 := 0) dX11_net_33 rfl rfl rfl sh_0 rfl rfl (Nat.le_of_ble_eq_true rfl) (Nat.le_of_ble_eq_true rfl) (by decide) ?_
    refine A_X11_answer e9 ?_
    show z_G none 3 mX11_net 36 [some (.ref 2), some (.int a1)] [.int q8.1] q8.2 Q
    cases h
    exact g_iret dX11_net_36 rfl rfl hq
  · replace h := z_iff (z_tb0.mp c3) h
    refine g_aload_n dX11_net_7 rfl rfl ?_
    refine g_iconst (v := (5 : Int32)) dX11_net_8 (by decide) ?_
    obtain ⟨q10, e11, h⟩ := z_bd h
    refine g_callV (a := 0) (as := [.int (5 : Int32)]) (rest := []) (c := mX11_refuse) (k1 := 0) dX11_net_9 rfl rfl rfl sh_0 rfl rfl (Nat.le_of_ble_eq_true rfl) (Nat.le_of_ble_eq_true rfl) (by decide) ?_
    refine A_X11_refuse e11 ?_
    show z_G none 3 mX11_net 12 [some (.ref 2), some (.int a1)] [.int q10.1] q10.2 Q
    cases h
    exact g_iret dX11_net_12 rfl rfl hq
theorem dX11_best_0 : decode cX11_best 0 = .ok (.iload_n 1, 1) := by decide +kernel
theorem dX11_best_1 : decode cX11_best 1 = .ok (.iconst 0, 1) := by decide +kernel
theorem dX11_best_2 : decode cX11_best 2 = .ok (.bipush 12, 2) := by decide +kernel
theorem dX11_best_4 : decode cX11_best 4 = .ok (.invokestatic 283, 3) := by decide +kernel
theorem dX11_best_7 : decode cX11_best 7 = .ok (.ifCond .ne 9, 3) := by decide +kernel
theorem dX11_best_10 : decode cX11_best 10 = .ok (.aload_n 0, 1) := by decide +kernel
theorem dX11_best_11 : decode cX11_best 11 = .ok (.iconst 5, 1) := by decide +kernel
theorem dX11_best_12 : decode cX11_best 12 = .ok (.invokevirtual 113, 3) := by decide +kernel
theorem dX11_best_15 : decode cX11_best 15 = .ok (.ireturn, 1) := by decide +kernel
theorem dX11_best_16 : decode cX11_best 16 = .ok (.aload_n 0, 1) := by decide +kernel
theorem dX11_best_17 : decode cX11_best 17 = .ok (.getfield 62, 3) := by decide +kernel
theorem dX11_best_20 : decode cX11_best 20 = .ok (.aload_n 0, 1) := by decide +kernel
theorem dX11_best_21 : decode cX11_best 21 = .ok (.getfield 26, 3) := by decide +kernel
theorem dX11_best_24 : decode cX11_best 24 = .ok (.invokevirtual 315, 3) := by decide +kernel
theorem dX11_best_27 : decode cX11_best 27 = .ok (.aload_n 0, 1) := by decide +kernel
theorem dX11_best_28 : decode cX11_best 28 = .ok (.aload_n 0, 1) := by decide +kernel
theorem dX11_best_29 : decode cX11_best 29 = .ok (.getfield 62, 3) := by decide +kernel
theorem dX11_best_32 : decode cX11_best 32 = .ok (.iload_n 1, 1) := by decide +kernel
theorem dX11_best_33 : decode cX11_best 33 = .ok (.invokevirtual 327, 3) := by decide +kernel
theorem dX11_best_36 : decode cX11_best 36 = .ok (.invokevirtual 164, 3) := by decide +kernel
theorem dX11_best_39 : decode cX11_best 39 = .ok (.ireturn, 1) := by decide +kernel
def F_X11_best (w : Nat) (M : z_Mem) (a1 : Int32) : Option (Int32 × z_Mem) :=
  (F_X11_isWithin w M a1 (0 : Int32) (12 : Int32)).bind fun q1 =>
  if q1.1 = true then
  (F_X5_weigh w q1.2 7).bind fun q4 =>
  (F_X5_bestWithin w q4.2 a1).bind fun q6 =>
  (F_X11_answer w q6.2 q6.1).bind fun q8 =>
  some (q8.1, q8.2)
  else
  (F_X11_refuse w q1.2 (5 : Int32)).bind fun q10 =>
  some (q10.1, q10.2)
set_option maxHeartbeats 4000000 in
theorem A_X11_best {w : Nat} {M : z_Mem} {a1 : Int32} {r : Int32} {M' : z_Mem} {Q : Option Value → z_Mem → Prop} (h : F_X11_best w M a1 = some (r, M')) (hq : Q (some (.int r)) M') : z_Cl 4 mX11_best [.ref 2, .int a1] M Q := by
  refine g_in (ls := [some (.ref 2), some (.int a1)]) rfl ?_
  unfold F_X11_best at h
  refine g_iload_n dX11_best_0 rfl rfl ?_
  refine g_iconst (v := (0 : Int32)) dX11_best_1 (by decide) ?_
  refine g_bipush (v := (12 : Int32)) dX11_best_2 (by decide) ?_
  obtain ⟨q1, e2, h⟩ := z_bd h
  refine g_callS (as := [.int a1, .int (0 : Int32), .int (12 : Int32)]) (rest := []) (c := mX11_isWithin) (k1 := 0) dX11_best_4 rfl rfl rfl rfl rfl (Nat.le_of_ble_eq_true rfl) (Nat.le_of_ble_eq_true rfl) (by decide) ?_
  refine A_X11_isWithin e2 ?_
  show z_G none 4 mX11_best 7 [some (.ref 2), some (.int a1)] [.int (z_tb q1.1)] q1.2 Q
  refine g_if_ne (t := 16) dX11_best_7 (by decide) (fun c3 => ?_) (fun c3 => ?_)
  · replace h := z_ift (z_tbn.mp c3) h
    refine g_aload_n dX11_best_16 rfl rfl ?_
    refine g_get (a := 0) (v := .ref 61) dX11_best_17 f_11_62 sh_0 rfl rfl ?_
    refine g_aload_n dX11_best_20 rfl rfl ?_
    refine g_get (a := 0) (v := .ref 9) dX11_best_21 f_11_26 sh_0 rfl rfl ?_
    obtain ⟨q4, e5, h⟩ := z_bd h
    refine g_callV (a := 59) (as := [.ref 9]) (rest := []) (c := mX5_weigh) (k1 := 2) dX11_best_24 rfl rfl rfl sh_59 rfl rfl (Nat.le_of_ble_eq_true rfl) (Nat.le_of_ble_eq_true rfl) (by decide) ?_
    refine A_X5_weigh z_par_7 e5 ?_
    show z_G none 4 mX11_best 27 [some (.ref 2), some (.int a1)] [] q4.2 Q
    refine g_aload_n dX11_best_27 rfl rfl ?_
    refine g_aload_n dX11_best_28 rfl rfl ?_
    refine g_get (a := 0) (v := .ref 61) dX11_best_29 f_11_62 sh_0 rfl rfl ?_
    refine g_iload_n dX11_best_32 rfl rfl ?_
    obtain ⟨q6, e7, h⟩ := z_bd h
    refine g_callV (a := 59) (as := [.int a1]) (rest := [.ref 2]) (c := mX5_bestWithin) (k1 := 3) dX11_best_33 rfl rfl rfl sh_59 rfl rfl (Nat.le_of_ble_eq_true rfl) (Nat.le_of_ble_eq_true rfl) (by decide) ?_
    refine A_X5_bestWithin e7 ?_
    show z_G none 4 mX11_best 36 [some (.ref 2), some (.int a1)] [.int q6.1, .ref 2] q6.2 Q
    obtain ⟨q8, e9, h⟩ := z_bd h
    refine g_callV (a := 0) (as := [.int q6.1]) (rest := []) (c := mX11_answer) (k1 := 0) dX11_best_36 rfl rfl rfl sh_0 rfl rfl (Nat.le_of_ble_eq_true rfl) (Nat.le_of_ble_eq_true rfl) (by decide) ?_
    refine A_X11_answer e9 ?_
    show z_G none 4 mX11_best 39 [some (.ref 2), some (.int a1)] [.int q8.1] q8.2 Q
    cases h
    exact g_iret dX11_best_39 rfl rfl hq
  · replace h := z_iff (z_tb0.mp c3) h
    refine g_aload_n dX11_best_10 rfl rfl ?_
    refine g_iconst (v := (5 : Int32)) dX11_best_11 (by decide) ?_
    obtain ⟨q10, e11, h⟩ := z_bd h
    refine g_callV (a := 0) (as := [.int (5 : Int32)]) (rest := []) (c := mX11_refuse) (k1 := 0) dX11_best_12 rfl rfl rfl sh_0 rfl rfl (Nat.le_of_ble_eq_true rfl) (Nat.le_of_ble_eq_true rfl) (by decide) ?_
    refine A_X11_refuse e11 ?_
    show z_G none 4 mX11_best 15 [some (.ref 2), some (.int a1)] [.int q10.1] q10.2 Q
    cases h
    exact g_iret dX11_best_15 rfl rfl hq
theorem dX11_isSo_0 : decode cX11_isSo 0 = .ok (.iload_n 1, 1) := by decide +kernel
theorem dX11_isSo_1 : decode cX11_isSo 1 = .ok (.invokestatic 299, 3) := by decide +kernel
theorem dX11_isSo_4 : decode cX11_isSo 4 = .ok (.ifCond .eq 12, 3) := by decide +kernel
theorem dX11_isSo_7 : decode cX11_isSo 7 = .ok (.iload_n 2, 1) := by decide +kernel
theorem dX11_isSo_8 : decode cX11_isSo 8 = .ok (.iconst 0, 1) := by decide +kernel
theorem dX11_isSo_9 : decode cX11_isSo 9 = .ok (.iconst 1, 1) := by decide +kernel
theorem dX11_isSo_10 : decode cX11_isSo 10 = .ok (.invokestatic 283, 3) := by decide +kernel
theorem dX11_isSo_13 : decode cX11_isSo 13 = .ok (.ifCond .ne 9, 3) := by decide +kernel
theorem dX11_isSo_16 : decode cX11_isSo 16 = .ok (.aload_n 0, 1) := by decide +kernel
theorem dX11_isSo_17 : decode cX11_isSo 17 = .ok (.iconst 5, 1) := by decide +kernel
theorem dX11_isSo_18 : decode cX11_isSo 18 = .ok (.invokevirtual 113, 3) := by decide +kernel
theorem dX11_isSo_21 : decode cX11_isSo 21 = .ok (.ireturn, 1) := by decide +kernel
theorem dX11_isSo_22 : decode cX11_isSo 22 = .ok (.aload_n 0, 1) := by decide +kernel
theorem dX11_isSo_23 : decode cX11_isSo 23 = .ok (.getfield 62, 3) := by decide +kernel
theorem dX11_isSo_26 : decode cX11_isSo 26 = .ok (.aload_n 0, 1) := by decide +kernel
theorem dX11_isSo_27 : decode cX11_isSo 27 = .ok (.getfield 26, 3) := by decide +kernel
theorem dX11_isSo_30 : decode cX11_isSo 30 = .ok (.invokevirtual 315, 3) := by decide +kernel
theorem dX11_isSo_33 : decode cX11_isSo 33 = .ok (.aload_n 0, 1) := by decide +kernel
theorem dX11_isSo_34 : decode cX11_isSo 34 = .ok (.aload_n 0, 1) := by decide +kernel
theorem dX11_isSo_35 : decode cX11_isSo 35 = .ok (.getfield 62, 3) := by decide +kernel
theorem dX11_isSo_38 : decode cX11_isSo 38 = .ok (.iload_n 1, 1) := by decide +kernel
theorem dX11_isSo_39 : decode cX11_isSo 39 = .ok (.iload_n 2, 1) := by decide +kernel
theorem dX11_isSo_40 : decode cX11_isSo 40 = .ok (.invokevirtual 330, 3) := by decide +kernel
theorem dX11_isSo_43 : decode cX11_isSo 43 = .ok (.ifCond .eq 7, 3) := by decide +kernel
theorem dX11_isSo_46 : decode cX11_isSo 46 = .ok (.iconst 1, 1) := by decide +kernel
theorem dX11_isSo_47 : decode cX11_isSo 47 = .ok (.goto 4, 3) := by decide +kernel
theorem dX11_isSo_50 : decode cX11_isSo 50 = .ok (.iconst 0, 1) := by decide +kernel
theorem dX11_isSo_51 : decode cX11_isSo 51 = .ok (.invokevirtual 164, 3) := by decide +kernel
theorem dX11_isSo_54 : decode cX11_isSo 54 = .ok (.ireturn, 1) := by decide +kernel
def F_X11_isSo (w : Nat) (M : z_Mem) (a1 : Int32) (a2 : Int32) : Option (Int32 × z_Mem) :=
  (F_X11_isPlan w M a1).bind fun q1 =>
  if q1.1 = true then
  (F_X11_isWithin w q1.2 a2 (0 : Int32) (1 : Int32)).bind fun q6 =>
  if q6.1 = true then
  (F_X5_weigh w q6.2 7).bind fun q9 =>
  (F_X5_isOf w q9.2 a1 a2).bind fun q11 =>
  if q11.1 = true then
  (F_X11_answer w q11.2 (1 : Int32)).bind fun q16 =>
  some (q16.1, q16.2)
  else
  (F_X11_answer w q11.2 (0 : Int32)).bind fun q14 =>
  some (q14.1, q14.2)
  else
  (F_X11_refuse w q6.2 (5 : Int32)).bind fun q18 =>
  some (q18.1, q18.2)
  else
  (F_X11_refuse w q1.2 (5 : Int32)).bind fun q4 =>
  some (q4.1, q4.2)
set_option maxHeartbeats 4000000 in
theorem A_X11_isSo {w : Nat} {M : z_Mem} {a1 : Int32} {a2 : Int32} {r : Int32} {M' : z_Mem} {Q : Option Value → z_Mem → Prop} (h : F_X11_isSo w M a1 a2 = some (r, M')) (hq : Q (some (.int r)) M') : z_Cl 3 mX11_isSo [.ref 2, .int a1, .int a2] M Q := by
  refine g_in (ls := [some (.ref 2), some (.int a1), some (.int a2)]) rfl ?_
  unfold F_X11_isSo at h
  refine g_iload_n dX11_isSo_0 rfl rfl ?_
  obtain ⟨q1, e2, h⟩ := z_bd h
  refine g_callS (as := [.int a1]) (rest := []) (c := mX11_isPlan) (k1 := 0) dX11_isSo_1 rfl rfl rfl rfl rfl (Nat.le_of_ble_eq_true rfl) (Nat.le_of_ble_eq_true rfl) (by decide) ?_
  refine A_X11_isPlan e2 ?_
  show z_G none 3 mX11_isSo 4 [some (.ref 2), some (.int a1), some (.int a2)] [.int (z_tb q1.1)] q1.2 Q
  refine g_if_eq (t := 16) dX11_isSo_4 (by decide) (fun c3 => ?_) (fun c3 => ?_)
  · replace h := z_iff (z_tb0.mp c3) h
    refine g_aload_n dX11_isSo_16 rfl rfl ?_
    refine g_iconst (v := (5 : Int32)) dX11_isSo_17 (by decide) ?_
    obtain ⟨q4, e5, h⟩ := z_bd h
    refine g_callV (a := 0) (as := [.int (5 : Int32)]) (rest := []) (c := mX11_refuse) (k1 := 0) dX11_isSo_18 rfl rfl rfl sh_0 rfl rfl (Nat.le_of_ble_eq_true rfl) (Nat.le_of_ble_eq_true rfl) (by decide) ?_
    refine A_X11_refuse e5 ?_
    show z_G none 3 mX11_isSo 21 [some (.ref 2), some (.int a1), some (.int a2)] [.int q4.1] q4.2 Q
    cases h
    exact g_iret dX11_isSo_21 rfl rfl hq
  · replace h := z_ift (z_tbn.mp c3) h
    refine g_iload_n dX11_isSo_7 rfl rfl ?_
    refine g_iconst (v := (0 : Int32)) dX11_isSo_8 (by decide) ?_
    refine g_iconst (v := (1 : Int32)) dX11_isSo_9 (by decide) ?_
    obtain ⟨q6, e7, h⟩ := z_bd h
    refine g_callS (as := [.int a2, .int (0 : Int32), .int (1 : Int32)]) (rest := []) (c := mX11_isWithin) (k1 := 0) dX11_isSo_10 rfl rfl rfl rfl rfl (Nat.le_of_ble_eq_true rfl) (Nat.le_of_ble_eq_true rfl) (by decide) ?_
    refine A_X11_isWithin e7 ?_
    show z_G none 3 mX11_isSo 13 [some (.ref 2), some (.int a1), some (.int a2)] [.int (z_tb q6.1)] q6.2 Q
    refine g_if_ne (t := 22) dX11_isSo_13 (by decide) (fun c8 => ?_) (fun c8 => ?_)
    · replace h := z_ift (z_tbn.mp c8) h
      refine g_aload_n dX11_isSo_22 rfl rfl ?_
      refine g_get (a := 0) (v := .ref 61) dX11_isSo_23 f_11_62 sh_0 rfl rfl ?_
      refine g_aload_n dX11_isSo_26 rfl rfl ?_
      refine g_get (a := 0) (v := .ref 9) dX11_isSo_27 f_11_26 sh_0 rfl rfl ?_
      obtain ⟨q9, e10, h⟩ := z_bd h
      refine g_callV (a := 59) (as := [.ref 9]) (rest := []) (c := mX5_weigh) (k1 := 2) dX11_isSo_30 rfl rfl rfl sh_59 rfl rfl (Nat.le_of_ble_eq_true rfl) (Nat.le_of_ble_eq_true rfl) (by decide) ?_
      refine A_X5_weigh z_par_7 e10 ?_
      show z_G none 3 mX11_isSo 33 [some (.ref 2), some (.int a1), some (.int a2)] [] q9.2 Q
      refine g_aload_n dX11_isSo_33 rfl rfl ?_
      refine g_aload_n dX11_isSo_34 rfl rfl ?_
      refine g_get (a := 0) (v := .ref 61) dX11_isSo_35 f_11_62 sh_0 rfl rfl ?_
      refine g_iload_n dX11_isSo_38 rfl rfl ?_
      refine g_iload_n dX11_isSo_39 rfl rfl ?_
      obtain ⟨q11, e12, h⟩ := z_bd h
      refine g_callV (a := 59) (as := [.int a1, .int a2]) (rest := [.ref 2]) (c := mX5_isOf) (k1 := 2) dX11_isSo_40 rfl rfl rfl sh_59 rfl rfl (Nat.le_of_ble_eq_true rfl) (Nat.le_of_ble_eq_true rfl) (by decide) ?_
      refine A_X5_isOf e12 ?_
      show z_G none 3 mX11_isSo 43 [some (.ref 2), some (.int a1), some (.int a2)] [.int (z_tb q11.1), .ref 2] q11.2 Q
      refine g_if_eq (t := 50) dX11_isSo_43 (by decide) (fun c13 => ?_) (fun c13 => ?_)
      · replace h := z_iff (z_tb0.mp c13) h
        refine g_iconst (v := (0 : Int32)) dX11_isSo_50 (by decide) ?_
        obtain ⟨q14, e15, h⟩ := z_bd h
        refine g_callV (a := 0) (as := [.int (0 : Int32)]) (rest := []) (c := mX11_answer) (k1 := 0) dX11_isSo_51 rfl rfl rfl sh_0 rfl rfl (Nat.le_of_ble_eq_true rfl) (Nat.le_of_ble_eq_true rfl) (by decide) ?_
        refine A_X11_answer e15 ?_
        show z_G none 3 mX11_isSo 54 [some (.ref 2), some (.int a1), some (.int a2)] [.int q14.1] q14.2 Q
        cases h
        exact g_iret dX11_isSo_54 rfl rfl hq
      · replace h := z_ift (z_tbn.mp c13) h
        refine g_iconst (v := (1 : Int32)) dX11_isSo_46 (by decide) ?_
        refine g_goto (t := 51) dX11_isSo_47 (by decide) ?_
        obtain ⟨q16, e17, h⟩ := z_bd h
        refine g_callV (a := 0) (as := [.int (1 : Int32)]) (rest := []) (c := mX11_answer) (k1 := 0) dX11_isSo_51 rfl rfl rfl sh_0 rfl rfl (Nat.le_of_ble_eq_true rfl) (Nat.le_of_ble_eq_true rfl) (by decide) ?_
        refine A_X11_answer e17 ?_
        show z_G none 3 mX11_isSo 54 [some (.ref 2), some (.int a1), some (.int a2)] [.int q16.1] q16.2 Q
        cases h
        exact g_iret dX11_isSo_54 rfl rfl hq
    · replace h := z_iff (z_tb0.mp c8) h
      refine g_aload_n dX11_isSo_16 rfl rfl ?_
      refine g_iconst (v := (5 : Int32)) dX11_isSo_17 (by decide) ?_
      obtain ⟨q18, e19, h⟩ := z_bd h
      refine g_callV (a := 0) (as := [.int (5 : Int32)]) (rest := []) (c := mX11_refuse) (k1 := 0) dX11_isSo_18 rfl rfl rfl sh_0 rfl rfl (Nat.le_of_ble_eq_true rfl) (Nat.le_of_ble_eq_true rfl) (by decide) ?_
      refine A_X11_refuse e19 ?_
      show z_G none 3 mX11_isSo 21 [some (.ref 2), some (.int a1), some (.int a2)] [.int q18.1] q18.2 Q
      cases h
      exact g_iret dX11_isSo_21 rfl rfl hq
theorem dX11_howMany_0 : decode cX11_howMany 0 = .ok (.iload_n 1, 1) := by decide +kernel
theorem dX11_howMany_1 : decode cX11_howMany 1 = .ok (.iconst 0, 1) := by decide +kernel
theorem dX11_howMany_2 : decode cX11_howMany 2 = .ok (.iconst 1, 1) := by decide +kernel
theorem dX11_howMany_3 : decode cX11_howMany 3 = .ok (.invokestatic 283, 3) := by decide +kernel
theorem dX11_howMany_6 : decode cX11_howMany 6 = .ok (.ifCond .ne 9, 3) := by decide +kernel
theorem dX11_howMany_9 : decode cX11_howMany 9 = .ok (.aload_n 0, 1) := by decide +kernel
theorem dX11_howMany_10 : decode cX11_howMany 10 = .ok (.iconst 5, 1) := by decide +kernel
theorem dX11_howMany_11 : decode cX11_howMany 11 = .ok (.invokevirtual 113, 3) := by decide +kernel
theorem dX11_howMany_14 : decode cX11_howMany 14 = .ok (.ireturn, 1) := by decide +kernel
theorem dX11_howMany_15 : decode cX11_howMany 15 = .ok (.aload_n 0, 1) := by decide +kernel
theorem dX11_howMany_16 : decode cX11_howMany 16 = .ok (.getfield 62, 3) := by decide +kernel
theorem dX11_howMany_19 : decode cX11_howMany 19 = .ok (.aload_n 0, 1) := by decide +kernel
theorem dX11_howMany_20 : decode cX11_howMany 20 = .ok (.getfield 26, 3) := by decide +kernel
theorem dX11_howMany_23 : decode cX11_howMany 23 = .ok (.invokevirtual 315, 3) := by decide +kernel
theorem dX11_howMany_26 : decode cX11_howMany 26 = .ok (.aload_n 0, 1) := by decide +kernel
theorem dX11_howMany_27 : decode cX11_howMany 27 = .ok (.aload_n 0, 1) := by decide +kernel
theorem dX11_howMany_28 : decode cX11_howMany 28 = .ok (.getfield 62, 3) := by decide +kernel
theorem dX11_howMany_31 : decode cX11_howMany 31 = .ok (.iload_n 1, 1) := by decide +kernel
theorem dX11_howMany_32 : decode cX11_howMany 32 = .ok (.invokevirtual 333, 3) := by decide +kernel
theorem dX11_howMany_35 : decode cX11_howMany 35 = .ok (.invokevirtual 164, 3) := by decide +kernel
theorem dX11_howMany_38 : decode cX11_howMany 38 = .ok (.ireturn, 1) := by decide +kernel
def F_X11_howMany (w : Nat) (M : z_Mem) (a1 : Int32) : Option (Int32 × z_Mem) :=
  (F_X11_isWithin w M a1 (0 : Int32) (1 : Int32)).bind fun q1 =>
  if q1.1 = true then
  (F_X5_weigh w q1.2 7).bind fun q4 =>
  (F_X5_countOf w q4.2 a1).bind fun q6 =>
  (F_X11_answer w q6.2 q6.1).bind fun q8 =>
  some (q8.1, q8.2)
  else
  (F_X11_refuse w q1.2 (5 : Int32)).bind fun q10 =>
  some (q10.1, q10.2)
set_option maxHeartbeats 4000000 in
theorem A_X11_howMany {w : Nat} {M : z_Mem} {a1 : Int32} {r : Int32} {M' : z_Mem} {Q : Option Value → z_Mem → Prop} (h : F_X11_howMany w M a1 = some (r, M')) (hq : Q (some (.int r)) M') : z_Cl 4 mX11_howMany [.ref 2, .int a1] M Q := by
  refine g_in (ls := [some (.ref 2), some (.int a1)]) rfl ?_
  unfold F_X11_howMany at h
  refine g_iload_n dX11_howMany_0 rfl rfl ?_
  refine g_iconst (v := (0 : Int32)) dX11_howMany_1 (by decide) ?_
  refine g_iconst (v := (1 : Int32)) dX11_howMany_2 (by decide) ?_
  obtain ⟨q1, e2, h⟩ := z_bd h
  refine g_callS (as := [.int a1, .int (0 : Int32), .int (1 : Int32)]) (rest := []) (c := mX11_isWithin) (k1 := 0) dX11_howMany_3 rfl rfl rfl rfl rfl (Nat.le_of_ble_eq_true rfl) (Nat.le_of_ble_eq_true rfl) (by decide) ?_
  refine A_X11_isWithin e2 ?_
  show z_G none 4 mX11_howMany 6 [some (.ref 2), some (.int a1)] [.int (z_tb q1.1)] q1.2 Q
  refine g_if_ne (t := 15) dX11_howMany_6 (by decide) (fun c3 => ?_) (fun c3 => ?_)
  · replace h := z_ift (z_tbn.mp c3) h
    refine g_aload_n dX11_howMany_15 rfl rfl ?_
    refine g_get (a := 0) (v := .ref 61) dX11_howMany_16 f_11_62 sh_0 rfl rfl ?_
    refine g_aload_n dX11_howMany_19 rfl rfl ?_
    refine g_get (a := 0) (v := .ref 9) dX11_howMany_20 f_11_26 sh_0 rfl rfl ?_
    obtain ⟨q4, e5, h⟩ := z_bd h
    refine g_callV (a := 59) (as := [.ref 9]) (rest := []) (c := mX5_weigh) (k1 := 2) dX11_howMany_23 rfl rfl rfl sh_59 rfl rfl (Nat.le_of_ble_eq_true rfl) (Nat.le_of_ble_eq_true rfl) (by decide) ?_
    refine A_X5_weigh z_par_7 e5 ?_
    show z_G none 4 mX11_howMany 26 [some (.ref 2), some (.int a1)] [] q4.2 Q
    refine g_aload_n dX11_howMany_26 rfl rfl ?_
    refine g_aload_n dX11_howMany_27 rfl rfl ?_
    refine g_get (a := 0) (v := .ref 61) dX11_howMany_28 f_11_62 sh_0 rfl rfl ?_
    refine g_iload_n dX11_howMany_31 rfl rfl ?_
    obtain ⟨q6, e7, h⟩ := z_bd h
    refine g_callV (a := 59) (as := [.int a1]) (rest := [.ref 2]) (c := mX5_countOf) (k1 := 3) dX11_howMany_32 rfl rfl rfl sh_59 rfl rfl (Nat.le_of_ble_eq_true rfl) (Nat.le_of_ble_eq_true rfl) (by decide) ?_
    refine A_X5_countOf e7 ?_
    show z_G none 4 mX11_howMany 35 [some (.ref 2), some (.int a1)] [.int q6.1, .ref 2] q6.2 Q
    obtain ⟨q8, e9, h⟩ := z_bd h
    refine g_callV (a := 0) (as := [.int q6.1]) (rest := []) (c := mX11_answer) (k1 := 0) dX11_howMany_35 rfl rfl rfl sh_0 rfl rfl (Nat.le_of_ble_eq_true rfl) (Nat.le_of_ble_eq_true rfl) (by decide) ?_
    refine A_X11_answer e9 ?_
    show z_G none 4 mX11_howMany 38 [some (.ref 2), some (.int a1)] [.int q8.1] q8.2 Q
    cases h
    exact g_iret dX11_howMany_38 rfl rfl hq
  · replace h := z_iff (z_tb0.mp c3) h
    refine g_aload_n dX11_howMany_9 rfl rfl ?_
    refine g_iconst (v := (5 : Int32)) dX11_howMany_10 (by decide) ?_
    obtain ⟨q10, e11, h⟩ := z_bd h
    refine g_callV (a := 0) (as := [.int (5 : Int32)]) (rest := []) (c := mX11_refuse) (k1 := 0) dX11_howMany_11 rfl rfl rfl sh_0 rfl rfl (Nat.le_of_ble_eq_true rfl) (Nat.le_of_ble_eq_true rfl) (by decide) ?_
    refine A_X11_refuse e11 ?_
    show z_G none 4 mX11_howMany 14 [some (.ref 2), some (.int a1)] [.int q10.1] q10.2 Q
    cases h
    exact g_iret dX11_howMany_14 rfl rfl hq
theorem dX11_bestOf_0 : decode cX11_bestOf 0 = .ok (.iload_n 1, 1) := by decide +kernel
theorem dX11_bestOf_1 : decode cX11_bestOf 1 = .ok (.iconst 0, 1) := by decide +kernel
theorem dX11_bestOf_2 : decode cX11_bestOf 2 = .ok (.iconst 1, 1) := by decide +kernel
theorem dX11_bestOf_3 : decode cX11_bestOf 3 = .ok (.invokestatic 283, 3) := by decide +kernel
theorem dX11_bestOf_6 : decode cX11_bestOf 6 = .ok (.ifCond .ne 9, 3) := by decide +kernel
theorem dX11_bestOf_9 : decode cX11_bestOf 9 = .ok (.aload_n 0, 1) := by decide +kernel
theorem dX11_bestOf_10 : decode cX11_bestOf 10 = .ok (.iconst 5, 1) := by decide +kernel
theorem dX11_bestOf_11 : decode cX11_bestOf 11 = .ok (.invokevirtual 113, 3) := by decide +kernel
theorem dX11_bestOf_14 : decode cX11_bestOf 14 = .ok (.ireturn, 1) := by decide +kernel
theorem dX11_bestOf_15 : decode cX11_bestOf 15 = .ok (.aload_n 0, 1) := by decide +kernel
theorem dX11_bestOf_16 : decode cX11_bestOf 16 = .ok (.getfield 62, 3) := by decide +kernel
theorem dX11_bestOf_19 : decode cX11_bestOf 19 = .ok (.aload_n 0, 1) := by decide +kernel
theorem dX11_bestOf_20 : decode cX11_bestOf 20 = .ok (.getfield 26, 3) := by decide +kernel
theorem dX11_bestOf_23 : decode cX11_bestOf 23 = .ok (.invokevirtual 315, 3) := by decide +kernel
theorem dX11_bestOf_26 : decode cX11_bestOf 26 = .ok (.aload_n 0, 1) := by decide +kernel
theorem dX11_bestOf_27 : decode cX11_bestOf 27 = .ok (.getfield 62, 3) := by decide +kernel
theorem dX11_bestOf_30 : decode cX11_bestOf 30 = .ok (.iload_n 1, 1) := by decide +kernel
theorem dX11_bestOf_31 : decode cX11_bestOf 31 = .ok (.invokevirtual 336, 3) := by decide +kernel
theorem dX11_bestOf_34 : decode cX11_bestOf 34 = .ok (.istore_n 2, 1) := by decide +kernel
theorem dX11_bestOf_35 : decode cX11_bestOf 35 = .ok (.iload_n 2, 1) := by decide +kernel
theorem dX11_bestOf_36 : decode cX11_bestOf 36 = .ok (.iconst (-1), 1) := by decide +kernel
theorem dX11_bestOf_37 : decode cX11_bestOf 37 = .ok (.if_icmp .ne 12, 3) := by decide +kernel
theorem dX11_bestOf_40 : decode cX11_bestOf 40 = .ok (.aload_n 0, 1) := by decide +kernel
theorem dX11_bestOf_41 : decode cX11_bestOf 41 = .ok (.bipush 8, 2) := by decide +kernel
theorem dX11_bestOf_43 : decode cX11_bestOf 43 = .ok (.invokevirtual 113, 3) := by decide +kernel
theorem dX11_bestOf_46 : decode cX11_bestOf 46 = .ok (.goto 8, 3) := by decide +kernel
theorem dX11_bestOf_49 : decode cX11_bestOf 49 = .ok (.aload_n 0, 1) := by decide +kernel
theorem dX11_bestOf_50 : decode cX11_bestOf 50 = .ok (.iload_n 2, 1) := by decide +kernel
theorem dX11_bestOf_51 : decode cX11_bestOf 51 = .ok (.invokevirtual 164, 3) := by decide +kernel
theorem dX11_bestOf_54 : decode cX11_bestOf 54 = .ok (.ireturn, 1) := by decide +kernel
def F_X11_bestOf (w : Nat) (M : z_Mem) (a1 : Int32) : Option (Int32 × z_Mem) :=
  (F_X11_isWithin w M a1 (0 : Int32) (1 : Int32)).bind fun q1 =>
  if q1.1 = true then
  (F_X5_weigh w q1.2 7).bind fun q4 =>
  (F_X5_bestAmong w q4.2 a1).bind fun q6 =>
  if q6.1 = (-1 : Int32) then
  (F_X11_refuse w q6.2 (8 : Int32)).bind fun q11 =>
  some (q11.1, q11.2)
  else
  (F_X11_answer w q6.2 q6.1).bind fun q9 =>
  some (q9.1, q9.2)
  else
  (F_X11_refuse w q1.2 (5 : Int32)).bind fun q13 =>
  some (q13.1, q13.2)
set_option maxHeartbeats 4000000 in
theorem A_X11_bestOf {w : Nat} {M : z_Mem} {a1 : Int32} {r : Int32} {M' : z_Mem} {Q : Option Value → z_Mem → Prop} (h : F_X11_bestOf w M a1 = some (r, M')) (hq : Q (some (.int r)) M') : z_Cl 4 mX11_bestOf [.ref 2, .int a1] M Q := by
  refine g_in (ls := [some (.ref 2), some (.int a1), none]) rfl ?_
  unfold F_X11_bestOf at h
  refine g_iload_n dX11_bestOf_0 rfl rfl ?_
  refine g_iconst (v := (0 : Int32)) dX11_bestOf_1 (by decide) ?_
  refine g_iconst (v := (1 : Int32)) dX11_bestOf_2 (by decide) ?_
  obtain ⟨q1, e2, h⟩ := z_bd h
  refine g_callS (as := [.int a1, .int (0 : Int32), .int (1 : Int32)]) (rest := []) (c := mX11_isWithin) (k1 := 0) dX11_bestOf_3 rfl rfl rfl rfl rfl (Nat.le_of_ble_eq_true rfl) (Nat.le_of_ble_eq_true rfl) (by decide) ?_
  refine A_X11_isWithin e2 ?_
  show z_G none 4 mX11_bestOf 6 [some (.ref 2), some (.int a1), none] [.int (z_tb q1.1)] q1.2 Q
  refine g_if_ne (t := 15) dX11_bestOf_6 (by decide) (fun c3 => ?_) (fun c3 => ?_)
  · replace h := z_ift (z_tbn.mp c3) h
    refine g_aload_n dX11_bestOf_15 rfl rfl ?_
    refine g_get (a := 0) (v := .ref 61) dX11_bestOf_16 f_11_62 sh_0 rfl rfl ?_
    refine g_aload_n dX11_bestOf_19 rfl rfl ?_
    refine g_get (a := 0) (v := .ref 9) dX11_bestOf_20 f_11_26 sh_0 rfl rfl ?_
    obtain ⟨q4, e5, h⟩ := z_bd h
    refine g_callV (a := 59) (as := [.ref 9]) (rest := []) (c := mX5_weigh) (k1 := 2) dX11_bestOf_23 rfl rfl rfl sh_59 rfl rfl (Nat.le_of_ble_eq_true rfl) (Nat.le_of_ble_eq_true rfl) (by decide) ?_
    refine A_X5_weigh z_par_7 e5 ?_
    show z_G none 4 mX11_bestOf 26 [some (.ref 2), some (.int a1), none] [] q4.2 Q
    refine g_aload_n dX11_bestOf_26 rfl rfl ?_
    refine g_get (a := 0) (v := .ref 61) dX11_bestOf_27 f_11_62 sh_0 rfl rfl ?_
    refine g_iload_n dX11_bestOf_30 rfl rfl ?_
    obtain ⟨q6, e7, h⟩ := z_bd h
    refine g_callV (a := 59) (as := [.int a1]) (rest := []) (c := mX5_bestAmong) (k1 := 3) dX11_bestOf_31 rfl rfl rfl sh_59 rfl rfl (Nat.le_of_ble_eq_true rfl) (Nat.le_of_ble_eq_true rfl) (by decide) ?_
    refine A_X5_bestAmong e7 ?_
    show z_G none 4 mX11_bestOf 34 [some (.ref 2), some (.int a1), none] [.int q6.1] q6.2 Q
    refine g_istore_n (ls' := [some (.ref 2), some (.int a1), some (.int q6.1)]) dX11_bestOf_34 rfl (Nat.le_of_ble_eq_true rfl) rfl ?_
    refine g_iload_n dX11_bestOf_35 rfl rfl ?_
    refine g_iconst (v := (-1 : Int32)) dX11_bestOf_36 (by decide) ?_
    refine g_ic_ne (t := 49) dX11_bestOf_37 (by decide) (fun c8 => ?_) (fun c8 => ?_)
    · replace h := z_iff c8 h
      refine g_aload_n dX11_bestOf_49 rfl rfl ?_
      refine g_iload_n dX11_bestOf_50 rfl rfl ?_
      obtain ⟨q9, e10, h⟩ := z_bd h
      refine g_callV (a := 0) (as := [.int q6.1]) (rest := []) (c := mX11_answer) (k1 := 0) dX11_bestOf_51 rfl rfl rfl sh_0 rfl rfl (Nat.le_of_ble_eq_true rfl) (Nat.le_of_ble_eq_true rfl) (by decide) ?_
      refine A_X11_answer e10 ?_
      show z_G none 4 mX11_bestOf 54 [some (.ref 2), some (.int a1), some (.int q6.1)] [.int q9.1] q9.2 Q
      cases h
      exact g_iret dX11_bestOf_54 rfl rfl hq
    · replace h := z_ift c8 h
      refine g_aload_n dX11_bestOf_40 rfl rfl ?_
      refine g_bipush (v := (8 : Int32)) dX11_bestOf_41 (by decide) ?_
      obtain ⟨q11, e12, h⟩ := z_bd h
      refine g_callV (a := 0) (as := [.int (8 : Int32)]) (rest := []) (c := mX11_refuse) (k1 := 0) dX11_bestOf_43 rfl rfl rfl sh_0 rfl rfl (Nat.le_of_ble_eq_true rfl) (Nat.le_of_ble_eq_true rfl) (by decide) ?_
      refine A_X11_refuse e12 ?_
      show z_G none 4 mX11_bestOf 46 [some (.ref 2), some (.int a1), some (.int q6.1)] [.int q11.1] q11.2 Q
      refine g_goto (t := 54) dX11_bestOf_46 (by decide) ?_
      cases h
      exact g_iret dX11_bestOf_54 rfl rfl hq
  · replace h := z_iff (z_tb0.mp c3) h
    refine g_aload_n dX11_bestOf_9 rfl rfl ?_
    refine g_iconst (v := (5 : Int32)) dX11_bestOf_10 (by decide) ?_
    obtain ⟨q13, e14, h⟩ := z_bd h
    refine g_callV (a := 0) (as := [.int (5 : Int32)]) (rest := []) (c := mX11_refuse) (k1 := 0) dX11_bestOf_11 rfl rfl rfl sh_0 rfl rfl (Nat.le_of_ble_eq_true rfl) (Nat.le_of_ble_eq_true rfl) (by decide) ?_
    refine A_X11_refuse e14 ?_
    show z_G none 4 mX11_bestOf 14 [some (.ref 2), some (.int a1), none] [.int q13.1] q13.2 Q
    cases h
    exact g_iret dX11_bestOf_14 rfl rfl hq
theorem dX11_even_0 : decode cX11_even 0 = .ok (.aload_n 0, 1) := by decide +kernel
theorem dX11_even_1 : decode cX11_even 1 = .ok (.getfield 62, 3) := by decide +kernel
theorem dX11_even_4 : decode cX11_even 4 = .ok (.aload_n 0, 1) := by decide +kernel
theorem dX11_even_5 : decode cX11_even 5 = .ok (.getfield 26, 3) := by decide +kernel
theorem dX11_even_8 : decode cX11_even 8 = .ok (.invokevirtual 315, 3) := by decide +kernel
theorem dX11_even_11 : decode cX11_even 11 = .ok (.aload_n 0, 1) := by decide +kernel
theorem dX11_even_12 : decode cX11_even 12 = .ok (.aload_n 0, 1) := by decide +kernel
theorem dX11_even_13 : decode cX11_even 13 = .ok (.getfield 62, 3) := by decide +kernel
theorem dX11_even_16 : decode cX11_even 16 = .ok (.invokevirtual 339, 3) := by decide +kernel
theorem dX11_even_19 : decode cX11_even 19 = .ok (.invokevirtual 164, 3) := by decide +kernel
theorem dX11_even_22 : decode cX11_even 22 = .ok (.ireturn, 1) := by decide +kernel
def F_X11_even (w : Nat) (M : z_Mem) : Option (Int32 × z_Mem) :=
  (F_X5_weigh w M 7).bind fun q1 =>
  (F_X5_evenPlan w q1.2).bind fun q3 =>
  (F_X11_answer w q3.2 q3.1).bind fun q5 =>
  some (q5.1, q5.2)
set_option maxHeartbeats 4000000 in
theorem A_X11_even {w : Nat} {M : z_Mem} {r : Int32} {M' : z_Mem} {Q : Option Value → z_Mem → Prop} (h : F_X11_even w M = some (r, M')) (hq : Q (some (.int r)) M') : z_Cl 3 mX11_even [.ref 2] M Q := by
  refine g_in (ls := [some (.ref 2)]) rfl ?_
  unfold F_X11_even at h
  refine g_aload_n dX11_even_0 rfl rfl ?_
  refine g_get (a := 0) (v := .ref 61) dX11_even_1 f_11_62 sh_0 rfl rfl ?_
  refine g_aload_n dX11_even_4 rfl rfl ?_
  refine g_get (a := 0) (v := .ref 9) dX11_even_5 f_11_26 sh_0 rfl rfl ?_
  obtain ⟨q1, e2, h⟩ := z_bd h
  refine g_callV (a := 59) (as := [.ref 9]) (rest := []) (c := mX5_weigh) (k1 := 2) dX11_even_8 rfl rfl rfl sh_59 rfl rfl (Nat.le_of_ble_eq_true rfl) (Nat.le_of_ble_eq_true rfl) (by decide) ?_
  refine A_X5_weigh z_par_7 e2 ?_
  show z_G none 3 mX11_even 11 [some (.ref 2)] [] q1.2 Q
  refine g_aload_n dX11_even_11 rfl rfl ?_
  refine g_aload_n dX11_even_12 rfl rfl ?_
  refine g_get (a := 0) (v := .ref 61) dX11_even_13 f_11_62 sh_0 rfl rfl ?_
  obtain ⟨q3, e4, h⟩ := z_bd h
  refine g_callV (a := 59) (as := []) (rest := [.ref 2]) (c := mX5_evenPlan) (k1 := 1) dX11_even_16 rfl rfl rfl sh_59 rfl rfl (Nat.le_of_ble_eq_true rfl) (Nat.le_of_ble_eq_true rfl) (by decide) ?_
  refine A_X5_evenPlan e4 ?_
  show z_G none 3 mX11_even 19 [some (.ref 2)] [.int q3.1, .ref 2] q3.2 Q
  obtain ⟨q5, e6, h⟩ := z_bd h
  refine g_callV (a := 0) (as := [.int q3.1]) (rest := []) (c := mX11_answer) (k1 := 0) dX11_even_19 rfl rfl rfl sh_0 rfl rfl (Nat.le_of_ble_eq_true rfl) (Nat.le_of_ble_eq_true rfl) (by decide) ?_
  refine A_X11_answer e6 ?_
  show z_G none 3 mX11_even 22 [some (.ref 2)] [.int q5.1] q5.2 Q
  cases h
  exact g_iret dX11_even_22 rfl rfl hq
theorem dX11_rent_0 : decode cX11_rent 0 = .ok (.iload_n 1, 1) := by decide +kernel
theorem dX11_rent_1 : decode cX11_rent 1 = .ok (.iconst 0, 1) := by decide +kernel
theorem dX11_rent_2 : decode cX11_rent 2 = .ok (.bipush 11, 2) := by decide +kernel
theorem dX11_rent_4 : decode cX11_rent 4 = .ok (.invokestatic 283, 3) := by decide +kernel
theorem dX11_rent_7 : decode cX11_rent 7 = .ok (.ifCond .ne 9, 3) := by decide +kernel
theorem dX11_rent_10 : decode cX11_rent 10 = .ok (.aload_n 0, 1) := by decide +kernel
theorem dX11_rent_11 : decode cX11_rent 11 = .ok (.iconst 5, 1) := by decide +kernel
theorem dX11_rent_12 : decode cX11_rent 12 = .ok (.invokevirtual 113, 3) := by decide +kernel
theorem dX11_rent_15 : decode cX11_rent 15 = .ok (.ireturn, 1) := by decide +kernel
theorem dX11_rent_16 : decode cX11_rent 16 = .ok (.aload_n 0, 1) := by decide +kernel
theorem dX11_rent_17 : decode cX11_rent 17 = .ok (.getfield 62, 3) := by decide +kernel
theorem dX11_rent_20 : decode cX11_rent 20 = .ok (.aload_n 0, 1) := by decide +kernel
theorem dX11_rent_21 : decode cX11_rent 21 = .ok (.getfield 26, 3) := by decide +kernel
theorem dX11_rent_24 : decode cX11_rent 24 = .ok (.invokevirtual 315, 3) := by decide +kernel
theorem dX11_rent_27 : decode cX11_rent 27 = .ok (.aload_n 0, 1) := by decide +kernel
theorem dX11_rent_28 : decode cX11_rent 28 = .ok (.getfield 62, 3) := by decide +kernel
theorem dX11_rent_31 : decode cX11_rent 31 = .ok (.aload_n 0, 1) := by decide +kernel
theorem dX11_rent_32 : decode cX11_rent 32 = .ok (.getfield 62, 3) := by decide +kernel
theorem dX11_rent_35 : decode cX11_rent 35 = .ok (.bipush 12, 2) := by decide +kernel
theorem dX11_rent_37 : decode cX11_rent 37 = .ok (.invokevirtual 327, 3) := by decide +kernel
theorem dX11_rent_40 : decode cX11_rent 40 = .ok (.invokevirtual 324, 3) := by decide +kernel
theorem dX11_rent_43 : decode cX11_rent 43 = .ok (.istore_n 2, 1) := by decide +kernel
theorem dX11_rent_44 : decode cX11_rent 44 = .ok (.aload_n 0, 1) := by decide +kernel
theorem dX11_rent_45 : decode cX11_rent 45 = .ok (.iload_n 2, 1) := by decide +kernel
theorem dX11_rent_46 : decode cX11_rent 46 = .ok (.aload_n 0, 1) := by decide +kernel
theorem dX11_rent_47 : decode cX11_rent 47 = .ok (.getfield 62, 3) := by decide +kernel
theorem dX11_rent_50 : decode cX11_rent 50 = .ok (.iload_n 1, 1) := by decide +kernel
theorem dX11_rent_51 : decode cX11_rent 51 = .ok (.aload_n 0, 1) := by decide +kernel
theorem dX11_rent_52 : decode cX11_rent 52 = .ok (.getfield 26, 3) := by decide +kernel
theorem dX11_rent_55 : decode cX11_rent 55 = .ok (.getfield 155, 3) := by decide +kernel
theorem dX11_rent_58 : decode cX11_rent 58 = .ok (.iload_n 1, 1) := by decide +kernel
theorem dX11_rent_59 : decode cX11_rent 59 = .ok (.invokevirtual 342, 3) := by decide +kernel
theorem dX11_rent_62 : decode cX11_rent 62 = .ok (.invokevirtual 345, 3) := by decide +kernel
theorem dX11_rent_65 : decode cX11_rent 65 = .ok (.isub, 1) := by decide +kernel
theorem dX11_rent_66 : decode cX11_rent 66 = .ok (.invokevirtual 164, 3) := by decide +kernel
theorem dX11_rent_69 : decode cX11_rent 69 = .ok (.ireturn, 1) := by decide +kernel
def F_X11_rent (w : Nat) (M : z_Mem) (a1 : Int32) : Option (Int32 × z_Mem) :=
  (F_X11_isWithin w M a1 (0 : Int32) (11 : Int32)).bind fun q1 =>
  if q1.1 = true then
  (F_X5_weigh w q1.2 7).bind fun q4 =>
  (F_X5_bestWithin w q4.2 (12 : Int32)).bind fun q6 =>
  (F_X5_netOf w q6.2 q6.1).bind fun q8 =>
  (F_X6_awayIn w q8.2 7 a1).bind fun q10 =>
  (F_X5_greatestWithout w q10.2 a1 q10.1).bind fun q12 =>
  (F_X11_answer w q12.2 (q8.1 - q12.1)).bind fun q14 =>
  some (q14.1, q14.2)
  else
  (F_X11_refuse w q1.2 (5 : Int32)).bind fun q16 =>
  some (q16.1, q16.2)
set_option maxHeartbeats 4000000 in
theorem A_X11_rent {w : Nat} {M : z_Mem} {a1 : Int32} {r : Int32} {M' : z_Mem} {Q : Option Value → z_Mem → Prop} (h : F_X11_rent w M a1 = some (r, M')) (hq : Q (some (.int r)) M') : z_Cl 4 mX11_rent [.ref 2, .int a1] M Q := by
  refine g_in (ls := [some (.ref 2), some (.int a1), none]) rfl ?_
  unfold F_X11_rent at h
  refine g_iload_n dX11_rent_0 rfl rfl ?_
  refine g_iconst (v := (0 : Int32)) dX11_rent_1 (by decide) ?_
  refine g_bipush (v := (11 : Int32)) dX11_rent_2 (by decide) ?_
  obtain ⟨q1, e2, h⟩ := z_bd h
  refine g_callS (as := [.int a1, .int (0 : Int32), .int (11 : Int32)]) (rest := []) (c := mX11_isWithin) (k1 := 0) dX11_rent_4 rfl rfl rfl rfl rfl (Nat.le_of_ble_eq_true rfl) (Nat.le_of_ble_eq_true rfl) (by decide) ?_
  refine A_X11_isWithin e2 ?_
  show z_G none 4 mX11_rent 7 [some (.ref 2), some (.int a1), none] [.int (z_tb q1.1)] q1.2 Q
  refine g_if_ne (t := 16) dX11_rent_7 (by decide) (fun c3 => ?_) (fun c3 => ?_)
  · replace h := z_ift (z_tbn.mp c3) h
    refine g_aload_n dX11_rent_16 rfl rfl ?_
    refine g_get (a := 0) (v := .ref 61) dX11_rent_17 f_11_62 sh_0 rfl rfl ?_
    refine g_aload_n dX11_rent_20 rfl rfl ?_
    refine g_get (a := 0) (v := .ref 9) dX11_rent_21 f_11_26 sh_0 rfl rfl ?_
    obtain ⟨q4, e5, h⟩ := z_bd h
    refine g_callV (a := 59) (as := [.ref 9]) (rest := []) (c := mX5_weigh) (k1 := 2) dX11_rent_24 rfl rfl rfl sh_59 rfl rfl (Nat.le_of_ble_eq_true rfl) (Nat.le_of_ble_eq_true rfl) (by decide) ?_
    refine A_X5_weigh z_par_7 e5 ?_
    show z_G none 4 mX11_rent 27 [some (.ref 2), some (.int a1), none] [] q4.2 Q
    refine g_aload_n dX11_rent_27 rfl rfl ?_
    refine g_get (a := 0) (v := .ref 61) dX11_rent_28 f_11_62 sh_0 rfl rfl ?_
    refine g_aload_n dX11_rent_31 rfl rfl ?_
    refine g_get (a := 0) (v := .ref 61) dX11_rent_32 f_11_62 sh_0 rfl rfl ?_
    refine g_bipush (v := (12 : Int32)) dX11_rent_35 (by decide) ?_
    obtain ⟨q6, e7, h⟩ := z_bd h
    refine g_callV (a := 59) (as := [.int (12 : Int32)]) (rest := [.ref 61]) (c := mX5_bestWithin) (k1 := 3) dX11_rent_37 rfl rfl rfl sh_59 rfl rfl (Nat.le_of_ble_eq_true rfl) (Nat.le_of_ble_eq_true rfl) (by decide) ?_
    refine A_X5_bestWithin e7 ?_
    show z_G none 4 mX11_rent 40 [some (.ref 2), some (.int a1), none] [.int q6.1, .ref 61] q6.2 Q
    obtain ⟨q8, e9, h⟩ := z_bd h
    refine g_callV (a := 59) (as := [.int q6.1]) (rest := []) (c := mX5_netOf) (k1 := 2) dX11_rent_40 rfl rfl rfl sh_59 rfl rfl (Nat.le_of_ble_eq_true rfl) (Nat.le_of_ble_eq_true rfl) (by decide) ?_
    refine A_X5_netOf e9 ?_
    show z_G none 4 mX11_rent 43 [some (.ref 2), some (.int a1), none] [.int q8.1] q8.2 Q
    refine g_istore_n (ls' := [some (.ref 2), some (.int a1), some (.int q8.1)]) dX11_rent_43 rfl (Nat.le_of_ble_eq_true rfl) rfl ?_
    refine g_aload_n dX11_rent_44 rfl rfl ?_
    refine g_iload_n dX11_rent_45 rfl rfl ?_
    refine g_aload_n dX11_rent_46 rfl rfl ?_
    refine g_get (a := 0) (v := .ref 61) dX11_rent_47 f_11_62 sh_0 rfl rfl ?_
    refine g_iload_n dX11_rent_50 rfl rfl ?_
    refine g_aload_n dX11_rent_51 rfl rfl ?_
    refine g_get (a := 0) (v := .ref 9) dX11_rent_52 f_11_26 sh_0 rfl rfl ?_
    refine g_get (a := 7) (v := .ref 11) dX11_rent_55 f_11_155 sh_7 rfl rfl ?_
    refine g_iload_n dX11_rent_58 rfl rfl ?_
    obtain ⟨q10, e11, h⟩ := z_bd h
    refine g_callV (a := 9) (as := [.int a1]) (rest := [.int a1, .ref 61, .int q8.1, .ref 2]) (c := mX6_awayIn) (k1 := 1) dX11_rent_59 rfl rfl rfl sh_9 rfl rfl (Nat.le_of_ble_eq_true rfl) (Nat.le_of_ble_eq_true rfl) (by decide) ?_
    refine A_X6_awayIn z_par_7 e11 ?_
    show z_G none 4 mX11_rent 62 [some (.ref 2), some (.int a1), some (.int q8.1)] [.int q10.1, .int a1, .ref 61, .int q8.1, .ref 2] q10.2 Q
    obtain ⟨q12, e13, h⟩ := z_bd h
    refine g_callV (a := 59) (as := [.int a1, .int q10.1]) (rest := [.int q8.1, .ref 2]) (c := mX5_greatestWithout) (k1 := 3) dX11_rent_62 rfl rfl rfl sh_59 rfl rfl (Nat.le_of_ble_eq_true rfl) (Nat.le_of_ble_eq_true rfl) (by decide) ?_
    refine A_X5_greatestWithout e13 ?_
    show z_G none 4 mX11_rent 65 [some (.ref 2), some (.int a1), some (.int q8.1)] [.int q12.1, .int q8.1, .ref 2] q12.2 Q
    refine g_isub dX11_rent_65 ?_
    obtain ⟨q14, e15, h⟩ := z_bd h
    refine g_callV (a := 0) (as := [.int (q8.1 - q12.1)]) (rest := []) (c := mX11_answer) (k1 := 0) dX11_rent_66 rfl rfl rfl sh_0 rfl rfl (Nat.le_of_ble_eq_true rfl) (Nat.le_of_ble_eq_true rfl) (by decide) ?_
    refine A_X11_answer e15 ?_
    show z_G none 4 mX11_rent 69 [some (.ref 2), some (.int a1), some (.int q8.1)] [.int q14.1] q14.2 Q
    cases h
    exact g_iret dX11_rent_69 rfl rfl hq
  · replace h := z_iff (z_tb0.mp c3) h
    refine g_aload_n dX11_rent_10 rfl rfl ?_
    refine g_iconst (v := (5 : Int32)) dX11_rent_11 (by decide) ?_
    obtain ⟨q16, e17, h⟩ := z_bd h
    refine g_callV (a := 0) (as := [.int (5 : Int32)]) (rest := []) (c := mX11_refuse) (k1 := 0) dX11_rent_12 rfl rfl rfl sh_0 rfl rfl (Nat.le_of_ble_eq_true rfl) (Nat.le_of_ble_eq_true rfl) (by decide) ?_
    refine A_X11_refuse e17 ?_
    show z_G none 4 mX11_rent 15 [some (.ref 2), some (.int a1), none] [.int q16.1] q16.2 Q
    cases h
    exact g_iret dX11_rent_15 rfl rfl hq
theorem dX11_rulings_0 : decode cX11_rulings 0 = .ok (.aload_n 0, 1) := by decide +kernel
theorem dX11_rulings_1 : decode cX11_rulings 1 = .ok (.aload_n 0, 1) := by decide +kernel
theorem dX11_rulings_2 : decode cX11_rulings 2 = .ok (.getfield 26, 3) := by decide +kernel
theorem dX11_rulings_5 : decode cX11_rulings 5 = .ok (.getfield 190, 3) := by decide +kernel
theorem dX11_rulings_8 : decode cX11_rulings 8 = .ok (.invokevirtual 348, 3) := by decide +kernel
theorem dX11_rulings_11 : decode cX11_rulings 11 = .ok (.invokevirtual 164, 3) := by decide +kernel
theorem dX11_rulings_14 : decode cX11_rulings 14 = .ok (.ireturn, 1) := by decide +kernel
def F_X11_rulings (w : Nat) (M : z_Mem) : Option (Int32 × z_Mem) :=
  (F_X0_countRulings w M 7).bind fun q1 =>
  (F_X11_answer w q1.2 q1.1).bind fun q3 =>
  some (q3.1, q3.2)
set_option maxHeartbeats 4000000 in
theorem A_X11_rulings {w : Nat} {M : z_Mem} {r : Int32} {M' : z_Mem} {Q : Option Value → z_Mem → Prop} (h : F_X11_rulings w M = some (r, M')) (hq : Q (some (.int r)) M') : z_Cl 2 mX11_rulings [.ref 2] M Q := by
  refine g_in (ls := [some (.ref 2)]) rfl ?_
  unfold F_X11_rulings at h
  refine g_aload_n dX11_rulings_0 rfl rfl ?_
  refine g_aload_n dX11_rulings_1 rfl rfl ?_
  refine g_get (a := 0) (v := .ref 9) dX11_rulings_2 f_11_26 sh_0 rfl rfl ?_
  refine g_get (a := 7) (v := .ref 21) dX11_rulings_5 f_11_190 sh_7 rfl rfl ?_
  obtain ⟨q1, e2, h⟩ := z_bd h
  refine g_callV (a := 19) (as := []) (rest := [.ref 2]) (c := mX0_countRulings) (k1 := 1) dX11_rulings_8 rfl rfl rfl sh_19 rfl rfl (Nat.le_of_ble_eq_true rfl) (Nat.le_of_ble_eq_true rfl) (by decide) ?_
  refine A_X0_countRulings z_par_7 e2 ?_
  show z_G none 2 mX11_rulings 11 [some (.ref 2)] [.int q1.1, .ref 2] q1.2 Q
  obtain ⟨q3, e4, h⟩ := z_bd h
  refine g_callV (a := 0) (as := [.int q1.1]) (rest := []) (c := mX11_answer) (k1 := 0) dX11_rulings_11 rfl rfl rfl sh_0 rfl rfl (Nat.le_of_ble_eq_true rfl) (Nat.le_of_ble_eq_true rfl) (by decide) ?_
  refine A_X11_answer e4 ?_
  show z_G none 2 mX11_rulings 14 [some (.ref 2)] [.int q3.1] q3.2 Q
  cases h
  exact g_iret dX11_rulings_14 rfl rfl hq
theorem dX11_rulingAt_0 : decode cX11_rulingAt 0 = .ok (.aload_n 0, 1) := by decide +kernel
theorem dX11_rulingAt_1 : decode cX11_rulingAt 1 = .ok (.getfield 26, 3) := by decide +kernel
theorem dX11_rulingAt_4 : decode cX11_rulingAt 4 = .ok (.getfield 190, 3) := by decide +kernel
theorem dX11_rulingAt_7 : decode cX11_rulingAt 7 = .ok (.iload_n 1, 1) := by decide +kernel
theorem dX11_rulingAt_8 : decode cX11_rulingAt 8 = .ok (.invokevirtual 351, 3) := by decide +kernel
theorem dX11_rulingAt_11 : decode cX11_rulingAt 11 = .ok (.istore_n 2, 1) := by decide +kernel
theorem dX11_rulingAt_12 : decode cX11_rulingAt 12 = .ok (.iload_n 2, 1) := by decide +kernel
theorem dX11_rulingAt_13 : decode cX11_rulingAt 13 = .ok (.iconst (-1), 1) := by decide +kernel
theorem dX11_rulingAt_14 : decode cX11_rulingAt 14 = .ok (.if_icmp .ne 12, 3) := by decide +kernel
theorem dX11_rulingAt_17 : decode cX11_rulingAt 17 = .ok (.aload_n 0, 1) := by decide +kernel
theorem dX11_rulingAt_18 : decode cX11_rulingAt 18 = .ok (.bipush 8, 2) := by decide +kernel
theorem dX11_rulingAt_20 : decode cX11_rulingAt 20 = .ok (.invokevirtual 113, 3) := by decide +kernel
theorem dX11_rulingAt_23 : decode cX11_rulingAt 23 = .ok (.goto 8, 3) := by decide +kernel
theorem dX11_rulingAt_26 : decode cX11_rulingAt 26 = .ok (.aload_n 0, 1) := by decide +kernel
theorem dX11_rulingAt_27 : decode cX11_rulingAt 27 = .ok (.iload_n 2, 1) := by decide +kernel
theorem dX11_rulingAt_28 : decode cX11_rulingAt 28 = .ok (.invokevirtual 164, 3) := by decide +kernel
theorem dX11_rulingAt_31 : decode cX11_rulingAt 31 = .ok (.ireturn, 1) := by decide +kernel
def F_X11_rulingAt (w : Nat) (M : z_Mem) (a1 : Int32) : Option (Int32 × z_Mem) :=
  (F_X0_findRuling w M 7 a1).bind fun q1 =>
  if q1.1 = (-1 : Int32) then
  (F_X11_refuse w q1.2 (8 : Int32)).bind fun q6 =>
  some (q6.1, q6.2)
  else
  (F_X11_answer w q1.2 q1.1).bind fun q4 =>
  some (q4.1, q4.2)
set_option maxHeartbeats 4000000 in
theorem A_X11_rulingAt {w : Nat} {M : z_Mem} {a1 : Int32} {r : Int32} {M' : z_Mem} {Q : Option Value → z_Mem → Prop} (h : F_X11_rulingAt w M a1 = some (r, M')) (hq : Q (some (.int r)) M') : z_Cl 2 mX11_rulingAt [.ref 2, .int a1] M Q := by
  refine g_in (ls := [some (.ref 2), some (.int a1), none]) rfl ?_
  unfold F_X11_rulingAt at h
  refine g_aload_n dX11_rulingAt_0 rfl rfl ?_
  refine g_get (a := 0) (v := .ref 9) dX11_rulingAt_1 f_11_26 sh_0 rfl rfl ?_
  refine g_get (a := 7) (v := .ref 21) dX11_rulingAt_4 f_11_190 sh_7 rfl rfl ?_
  refine g_iload_n dX11_rulingAt_7 rfl rfl ?_
  obtain ⟨q1, e2, h⟩ := z_bd h
  refine g_callV (a := 19) (as := [.int a1]) (rest := []) (c := mX0_findRuling) (k1 := 1) dX11_rulingAt_8 rfl rfl rfl sh_19 rfl rfl (Nat.le_of_ble_eq_true rfl) (Nat.le_of_ble_eq_true rfl) (by decide) ?_
  refine A_X0_findRuling z_par_7 e2 ?_
  show z_G none 2 mX11_rulingAt 11 [some (.ref 2), some (.int a1), none] [.int q1.1] q1.2 Q
  refine g_istore_n (ls' := [some (.ref 2), some (.int a1), some (.int q1.1)]) dX11_rulingAt_11 rfl (Nat.le_of_ble_eq_true rfl) rfl ?_
  refine g_iload_n dX11_rulingAt_12 rfl rfl ?_
  refine g_iconst (v := (-1 : Int32)) dX11_rulingAt_13 (by decide) ?_
  refine g_ic_ne (t := 26) dX11_rulingAt_14 (by decide) (fun c3 => ?_) (fun c3 => ?_)
  · replace h := z_iff c3 h
    refine g_aload_n dX11_rulingAt_26 rfl rfl ?_
    refine g_iload_n dX11_rulingAt_27 rfl rfl ?_
    obtain ⟨q4, e5, h⟩ := z_bd h
    refine g_callV (a := 0) (as := [.int q1.1]) (rest := []) (c := mX11_answer) (k1 := 0) dX11_rulingAt_28 rfl rfl rfl sh_0 rfl rfl (Nat.le_of_ble_eq_true rfl) (Nat.le_of_ble_eq_true rfl) (by decide) ?_
    refine A_X11_answer e5 ?_
    show z_G none 2 mX11_rulingAt 31 [some (.ref 2), some (.int a1), some (.int q1.1)] [.int q4.1] q4.2 Q
    cases h
    exact g_iret dX11_rulingAt_31 rfl rfl hq
  · replace h := z_ift c3 h
    refine g_aload_n dX11_rulingAt_17 rfl rfl ?_
    refine g_bipush (v := (8 : Int32)) dX11_rulingAt_18 (by decide) ?_
    obtain ⟨q6, e7, h⟩ := z_bd h
    refine g_callV (a := 0) (as := [.int (8 : Int32)]) (rest := []) (c := mX11_refuse) (k1 := 0) dX11_rulingAt_20 rfl rfl rfl sh_0 rfl rfl (Nat.le_of_ble_eq_true rfl) (Nat.le_of_ble_eq_true rfl) (by decide) ?_
    refine A_X11_refuse e7 ?_
    show z_G none 2 mX11_rulingAt 23 [some (.ref 2), some (.int a1), some (.int q1.1)] [.int q6.1] q6.2 Q
    refine g_goto (t := 31) dX11_rulingAt_23 (by decide) ?_
    cases h
    exact g_iret dX11_rulingAt_31 rfl rfl hq
theorem dX11_strike_0 : decode cX11_strike 0 = .ok (.aload_n 0, 1) := by decide +kernel
theorem dX11_strike_1 : decode cX11_strike 1 = .ok (.aload_n 0, 1) := by decide +kernel
theorem dX11_strike_2 : decode cX11_strike 2 = .ok (.getfield 26, 3) := by decide +kernel
theorem dX11_strike_5 : decode cX11_strike 5 = .ok (.getfield 190, 3) := by decide +kernel
theorem dX11_strike_8 : decode cX11_strike 8 = .ok (.invokevirtual 354, 3) := by decide +kernel
theorem dX11_strike_11 : decode cX11_strike 11 = .ok (.invokestatic 357, 3) := by decide +kernel
theorem dX11_strike_14 : decode cX11_strike 14 = .ok (.invokevirtual 164, 3) := by decide +kernel
theorem dX11_strike_17 : decode cX11_strike 17 = .ok (.ireturn, 1) := by decide +kernel
def F_X11_strike (w : Nat) (M : z_Mem) : Option (Int32 × z_Mem) :=
  (F_X0_leastStrike w M 7).bind fun q1 =>
  (F_J6_bitCount_0f7a4 w q1.2 q1.1).bind fun q3 =>
  (F_X11_answer w q3.2 q3.1).bind fun q5 =>
  some (q5.1, q5.2)
set_option maxHeartbeats 4000000 in
theorem A_X11_strike {w : Nat} {M : z_Mem} {r : Int32} {M' : z_Mem} {Q : Option Value → z_Mem → Prop} (h : F_X11_strike w M = some (r, M')) (hq : Q (some (.int r)) M') : z_Cl 2 mX11_strike [.ref 2] M Q := by
  refine g_in (ls := [some (.ref 2)]) rfl ?_
  unfold F_X11_strike at h
  refine g_aload_n dX11_strike_0 rfl rfl ?_
  refine g_aload_n dX11_strike_1 rfl rfl ?_
  refine g_get (a := 0) (v := .ref 9) dX11_strike_2 f_11_26 sh_0 rfl rfl ?_
  refine g_get (a := 7) (v := .ref 21) dX11_strike_5 f_11_190 sh_7 rfl rfl ?_
  obtain ⟨q1, e2, h⟩ := z_bd h
  refine g_callV (a := 19) (as := []) (rest := [.ref 2]) (c := mX0_leastStrike) (k1 := 1) dX11_strike_8 rfl rfl rfl sh_19 rfl rfl (Nat.le_of_ble_eq_true rfl) (Nat.le_of_ble_eq_true rfl) (by decide) ?_
  refine A_X0_leastStrike z_par_7 e2 ?_
  show z_G none 2 mX11_strike 11 [some (.ref 2)] [.int q1.1, .ref 2] q1.2 Q
  obtain ⟨q3, e4, h⟩ := z_bd h
  refine g_callS (as := [.int q1.1]) (rest := [.ref 2]) (c := mJ6_bitCount_0f7a4) (k1 := 0) dX11_strike_11 rfl rfl rfl rfl rfl (Nat.le_of_ble_eq_true rfl) (Nat.le_of_ble_eq_true rfl) (by decide) ?_
  refine A_J6_bitCount_0f7a4 e4 ?_
  show z_G none 2 mX11_strike 14 [some (.ref 2)] [.int q3.1, .ref 2] q3.2 Q
  obtain ⟨q5, e6, h⟩ := z_bd h
  refine g_callV (a := 0) (as := [.int q3.1]) (rest := []) (c := mX11_answer) (k1 := 0) dX11_strike_14 rfl rfl rfl sh_0 rfl rfl (Nat.le_of_ble_eq_true rfl) (Nat.le_of_ble_eq_true rfl) (by decide) ?_
  refine A_X11_answer e6 ?_
  show z_G none 2 mX11_strike 17 [some (.ref 2)] [.int q5.1] q5.2 Q
  cases h
  exact g_iret dX11_strike_17 rfl rfl hq
theorem dX11_strikeSet_0 : decode cX11_strikeSet 0 = .ok (.aload_n 0, 1) := by decide +kernel
theorem dX11_strikeSet_1 : decode cX11_strikeSet 1 = .ok (.aload_n 0, 1) := by decide +kernel
theorem dX11_strikeSet_2 : decode cX11_strikeSet 2 = .ok (.getfield 26, 3) := by decide +kernel
theorem dX11_strikeSet_5 : decode cX11_strikeSet 5 = .ok (.getfield 190, 3) := by decide +kernel
theorem dX11_strikeSet_8 : decode cX11_strikeSet 8 = .ok (.invokevirtual 354, 3) := by decide +kernel
theorem dX11_strikeSet_11 : decode cX11_strikeSet 11 = .ok (.invokevirtual 164, 3) := by decide +kernel
theorem dX11_strikeSet_14 : decode cX11_strikeSet 14 = .ok (.ireturn, 1) := by decide +kernel
def F_X11_strikeSet (w : Nat) (M : z_Mem) : Option (Int32 × z_Mem) :=
  (F_X0_leastStrike w M 7).bind fun q1 =>
  (F_X11_answer w q1.2 q1.1).bind fun q3 =>
  some (q3.1, q3.2)
set_option maxHeartbeats 4000000 in
theorem A_X11_strikeSet {w : Nat} {M : z_Mem} {r : Int32} {M' : z_Mem} {Q : Option Value → z_Mem → Prop} (h : F_X11_strikeSet w M = some (r, M')) (hq : Q (some (.int r)) M') : z_Cl 2 mX11_strikeSet [.ref 2] M Q := by
  refine g_in (ls := [some (.ref 2)]) rfl ?_
  unfold F_X11_strikeSet at h
  refine g_aload_n dX11_strikeSet_0 rfl rfl ?_
  refine g_aload_n dX11_strikeSet_1 rfl rfl ?_
  refine g_get (a := 0) (v := .ref 9) dX11_strikeSet_2 f_11_26 sh_0 rfl rfl ?_
  refine g_get (a := 7) (v := .ref 21) dX11_strikeSet_5 f_11_190 sh_7 rfl rfl ?_
  obtain ⟨q1, e2, h⟩ := z_bd h
  refine g_callV (a := 19) (as := []) (rest := [.ref 2]) (c := mX0_leastStrike) (k1 := 1) dX11_strikeSet_8 rfl rfl rfl sh_19 rfl rfl (Nat.le_of_ble_eq_true rfl) (Nat.le_of_ble_eq_true rfl) (by decide) ?_
  refine A_X0_leastStrike z_par_7 e2 ?_
  show z_G none 2 mX11_strikeSet 11 [some (.ref 2)] [.int q1.1, .ref 2] q1.2 Q
  obtain ⟨q3, e4, h⟩ := z_bd h
  refine g_callV (a := 0) (as := [.int q1.1]) (rest := []) (c := mX11_answer) (k1 := 0) dX11_strikeSet_11 rfl rfl rfl sh_0 rfl rfl (Nat.le_of_ble_eq_true rfl) (Nat.le_of_ble_eq_true rfl) (by decide) ?_
  refine A_X11_answer e4 ?_
  show z_G none 2 mX11_strikeSet 14 [some (.ref 2)] [.int q3.1] q3.2 Q
  cases h
  exact g_iret dX11_strikeSet_14 rfl rfl hq
theorem dX11_sure_0 : decode cX11_sure 0 = .ok (.iload_n 1, 1) := by decide +kernel
theorem dX11_sure_1 : decode cX11_sure 1 = .ok (.ifCond .lt 17, 3) := by decide +kernel
theorem dX11_sure_4 : decode cX11_sure 4 = .ok (.iload_n 1, 1) := by decide +kernel
theorem dX11_sure_5 : decode cX11_sure 5 = .ok (.aload_n 0, 1) := by decide +kernel
theorem dX11_sure_6 : decode cX11_sure 6 = .ok (.getfield 26, 3) := by decide +kernel
theorem dX11_sure_9 : decode cX11_sure 9 = .ok (.getfield 190, 3) := by decide +kernel
theorem dX11_sure_12 : decode cX11_sure 12 = .ok (.getfield 194, 3) := by decide +kernel
theorem dX11_sure_15 : decode cX11_sure 15 = .ok (.if_icmp .lt 9, 3) := by decide +kernel
theorem dX11_sure_18 : decode cX11_sure 18 = .ok (.aload_n 0, 1) := by decide +kernel
theorem dX11_sure_19 : decode cX11_sure 19 = .ok (.iconst 2, 1) := by decide +kernel
theorem dX11_sure_20 : decode cX11_sure 20 = .ok (.invokevirtual 113, 3) := by decide +kernel
theorem dX11_sure_23 : decode cX11_sure 23 = .ok (.ireturn, 1) := by decide +kernel
theorem dX11_sure_24 : decode cX11_sure 24 = .ok (.aload_n 0, 1) := by decide +kernel
theorem dX11_sure_25 : decode cX11_sure 25 = .ok (.getfield 26, 3) := by decide +kernel
theorem dX11_sure_28 : decode cX11_sure 28 = .ok (.getfield 190, 3) := by decide +kernel
theorem dX11_sure_31 : decode cX11_sure 31 = .ok (.iload_n 1, 1) := by decide +kernel
theorem dX11_sure_32 : decode cX11_sure 32 = .ok (.invokevirtual 362, 3) := by decide +kernel
theorem dX11_sure_35 : decode cX11_sure 35 = .ok (.istore_n 2, 1) := by decide +kernel
theorem dX11_sure_36 : decode cX11_sure 36 = .ok (.iload_n 2, 1) := by decide +kernel
theorem dX11_sure_37 : decode cX11_sure 37 = .ok (.iconst (-1), 1) := by decide +kernel
theorem dX11_sure_38 : decode cX11_sure 38 = .ok (.if_icmp .ne 12, 3) := by decide +kernel
theorem dX11_sure_41 : decode cX11_sure 41 = .ok (.aload_n 0, 1) := by decide +kernel
theorem dX11_sure_42 : decode cX11_sure 42 = .ok (.bipush 8, 2) := by decide +kernel
theorem dX11_sure_44 : decode cX11_sure 44 = .ok (.invokevirtual 113, 3) := by decide +kernel
theorem dX11_sure_47 : decode cX11_sure 47 = .ok (.goto 8, 3) := by decide +kernel
theorem dX11_sure_50 : decode cX11_sure 50 = .ok (.aload_n 0, 1) := by decide +kernel
theorem dX11_sure_51 : decode cX11_sure 51 = .ok (.iload_n 2, 1) := by decide +kernel
theorem dX11_sure_52 : decode cX11_sure 52 = .ok (.invokevirtual 164, 3) := by decide +kernel
theorem dX11_sure_55 : decode cX11_sure 55 = .ok (.ireturn, 1) := by decide +kernel
def F_X11_sure (w : Nat) (M : z_Mem) (a1 : Int32) : Option (Int32 × z_Mem) :=
  if a1 < (0 : Int32) then
  (F_X11_refuse w M (2 : Int32)).bind fun q2 =>
  some (q2.1, q2.2)
  else
  if a1 < (M.1 19 4) then
  (F_X0_sureTruth w M 7 a1).bind fun q5 =>
  if q5.1 = (-1 : Int32) then
  (F_X11_refuse w q5.2 (8 : Int32)).bind fun q10 =>
  some (q10.1, q10.2)
  else
  (F_X11_answer w q5.2 q5.1).bind fun q8 =>
  some (q8.1, q8.2)
  else
  (F_X11_refuse w M (2 : Int32)).bind fun q12 =>
  some (q12.1, q12.2)
set_option maxHeartbeats 4000000 in
theorem A_X11_sure {w : Nat} {M : z_Mem} {a1 : Int32} {r : Int32} {M' : z_Mem} {Q : Option Value → z_Mem → Prop} (h : F_X11_sure w M a1 = some (r, M')) (hq : Q (some (.int r)) M') : z_Cl 2 mX11_sure [.ref 2, .int a1] M Q := by
  refine g_in (ls := [some (.ref 2), some (.int a1), none]) rfl ?_
  unfold F_X11_sure at h
  refine g_iload_n dX11_sure_0 rfl rfl ?_
  refine g_if_lt (t := 18) dX11_sure_1 (by decide) (fun c1 => ?_) (fun c1 => ?_)
  · replace h := z_ift c1 h
    refine g_aload_n dX11_sure_18 rfl rfl ?_
    refine g_iconst (v := (2 : Int32)) dX11_sure_19 (by decide) ?_
    obtain ⟨q2, e3, h⟩ := z_bd h
    refine g_callV (a := 0) (as := [.int (2 : Int32)]) (rest := []) (c := mX11_refuse) (k1 := 0) dX11_sure_20 rfl rfl rfl sh_0 rfl rfl (Nat.le_of_ble_eq_true rfl) (Nat.le_of_ble_eq_true rfl) (by decide) ?_
    refine A_X11_refuse e3 ?_
    show z_G none 2 mX11_sure 23 [some (.ref 2), some (.int a1), none] [.int q2.1] q2.2 Q
    cases h
    exact g_iret dX11_sure_23 rfl rfl hq
  · replace h := z_iff c1 h
    refine g_iload_n dX11_sure_4 rfl rfl ?_
    refine g_aload_n dX11_sure_5 rfl rfl ?_
    refine g_get (a := 0) (v := .ref 9) dX11_sure_6 f_11_26 sh_0 rfl rfl ?_
    refine g_get (a := 7) (v := .ref 21) dX11_sure_9 f_11_190 sh_7 rfl rfl ?_
    refine g_get (a := 19) (v := .int (M.1 19 4)) dX11_sure_12 f_11_194 sh_19 rfl rfl ?_
    refine g_ic_lt (t := 24) dX11_sure_15 (by decide) (fun c4 => ?_) (fun c4 => ?_)
    · replace h := z_ift c4 h
      refine g_aload_n dX11_sure_24 rfl rfl ?_
      refine g_get (a := 0) (v := .ref 9) dX11_sure_25 f_11_26 sh_0 rfl rfl ?_
      refine g_get (a := 7) (v := .ref 21) dX11_sure_28 f_11_190 sh_7 rfl rfl ?_
      refine g_iload_n dX11_sure_31 rfl rfl ?_
      obtain ⟨q5, e6, h⟩ := z_bd h
      refine g_callV (a := 19) (as := [.int a1]) (rest := []) (c := mX0_sureTruth) (k1 := 1) dX11_sure_32 rfl rfl rfl sh_19 rfl rfl (Nat.le_of_ble_eq_true rfl) (Nat.le_of_ble_eq_true rfl) (by decide) ?_
      refine A_X0_sureTruth z_par_7 e6 ?_
      show z_G none 2 mX11_sure 35 [some (.ref 2), some (.int a1), none] [.int q5.1] q5.2 Q
      refine g_istore_n (ls' := [some (.ref 2), some (.int a1), some (.int q5.1)]) dX11_sure_35 rfl (Nat.le_of_ble_eq_true rfl) rfl ?_
      refine g_iload_n dX11_sure_36 rfl rfl ?_
      refine g_iconst (v := (-1 : Int32)) dX11_sure_37 (by decide) ?_
      refine g_ic_ne (t := 50) dX11_sure_38 (by decide) (fun c7 => ?_) (fun c7 => ?_)
      · replace h := z_iff c7 h
        refine g_aload_n dX11_sure_50 rfl rfl ?_
        refine g_iload_n dX11_sure_51 rfl rfl ?_
        obtain ⟨q8, e9, h⟩ := z_bd h
        refine g_callV (a := 0) (as := [.int q5.1]) (rest := []) (c := mX11_answer) (k1 := 0) dX11_sure_52 rfl rfl rfl sh_0 rfl rfl (Nat.le_of_ble_eq_true rfl) (Nat.le_of_ble_eq_true rfl) (by decide) ?_
        refine A_X11_answer e9 ?_
        show z_G none 2 mX11_sure 55 [some (.ref 2), some (.int a1), some (.int q5.1)] [.int q8.1] q8.2 Q
        cases h
        exact g_iret dX11_sure_55 rfl rfl hq
      · replace h := z_ift c7 h
        refine g_aload_n dX11_sure_41 rfl rfl ?_
        refine g_bipush (v := (8 : Int32)) dX11_sure_42 (by decide) ?_
        obtain ⟨q10, e11, h⟩ := z_bd h
        refine g_callV (a := 0) (as := [.int (8 : Int32)]) (rest := []) (c := mX11_refuse) (k1 := 0) dX11_sure_44 rfl rfl rfl sh_0 rfl rfl (Nat.le_of_ble_eq_true rfl) (Nat.le_of_ble_eq_true rfl) (by decide) ?_
        refine A_X11_refuse e11 ?_
        show z_G none 2 mX11_sure 47 [some (.ref 2), some (.int a1), some (.int q5.1)] [.int q10.1] q10.2 Q
        refine g_goto (t := 55) dX11_sure_47 (by decide) ?_
        cases h
        exact g_iret dX11_sure_55 rfl rfl hq
    · replace h := z_iff c4 h
      refine g_aload_n dX11_sure_18 rfl rfl ?_
      refine g_iconst (v := (2 : Int32)) dX11_sure_19 (by decide) ?_
      obtain ⟨q12, e13, h⟩ := z_bd h
      refine g_callV (a := 0) (as := [.int (2 : Int32)]) (rest := []) (c := mX11_refuse) (k1 := 0) dX11_sure_20 rfl rfl rfl sh_0 rfl rfl (Nat.le_of_ble_eq_true rfl) (Nat.le_of_ble_eq_true rfl) (by decide) ?_
      refine A_X11_refuse e13 ?_
      show z_G none 2 mX11_sure 23 [some (.ref 2), some (.int a1), none] [.int q12.1] q12.2 Q
      cases h
      exact g_iret dX11_sure_23 rfl rfl hq
theorem dX11_tellFraction_0 : decode cX11_tellFraction 0 = .ok (.lload_n 3, 1) := by decide +kernel
theorem dX11_tellFraction_1 : decode cX11_tellFraction 1 = .ok (.lconst 0, 1) := by decide +kernel
theorem dX11_tellFraction_2 : decode cX11_tellFraction 2 = .ok (.lcmp, 1) := by decide +kernel
theorem dX11_tellFraction_3 : decode cX11_tellFraction 3 = .ok (.ifCond .gt 10, 3) := by decide +kernel
theorem dX11_tellFraction_6 : decode cX11_tellFraction 6 = .ok (.aload_n 0, 1) := by decide +kernel
theorem dX11_tellFraction_7 : decode cX11_tellFraction 7 = .ok (.bipush 8, 2) := by decide +kernel
theorem dX11_tellFraction_9 : decode cX11_tellFraction 9 = .ok (.invokevirtual 94, 3) := by decide +kernel
theorem dX11_tellFraction_12 : decode cX11_tellFraction 12 = .ok (.ireturn, 1) := by decide +kernel
theorem dX11_tellFraction_13 : decode cX11_tellFraction 13 = .ok (.lload_n 3, 1) := by decide +kernel
theorem dX11_tellFraction_14 : decode cX11_tellFraction 14 = .ok (.lstore 5, 2) := by decide +kernel
theorem dX11_tellFraction_16 : decode cX11_tellFraction 16 = .ok (.lload_n 1, 1) := by decide +kernel
theorem dX11_tellFraction_17 : decode cX11_tellFraction 17 = .ok (.lstore 7, 2) := by decide +kernel
theorem dX11_tellFraction_19 : decode cX11_tellFraction 19 = .ok (.iconst 0, 1) := by decide +kernel
theorem dX11_tellFraction_20 : decode cX11_tellFraction 20 = .ok (.istore 9, 2) := by decide +kernel
theorem dX11_tellFraction_22 : decode cX11_tellFraction 22 = .ok (.iload 9, 2) := by decide +kernel
theorem dX11_tellFraction_24 : decode cX11_tellFraction 24 = .ok (.bipush 100, 2) := by decide +kernel
theorem dX11_tellFraction_26 : decode cX11_tellFraction 26 = .ok (.if_icmp .ge 31, 3) := by decide +kernel
theorem dX11_tellFraction_29 : decode cX11_tellFraction 29 = .ok (.lload 7, 2) := by decide +kernel
theorem dX11_tellFraction_31 : decode cX11_tellFraction 31 = .ok (.lconst 0, 1) := by decide +kernel
theorem dX11_tellFraction_32 : decode cX11_tellFraction 32 = .ok (.lcmp, 1) := by decide +kernel
theorem dX11_tellFraction_33 : decode cX11_tellFraction 33 = .ok (.ifCond .le 24, 3) := by decide +kernel
theorem dX11_tellFraction_36 : decode cX11_tellFraction 36 = .ok (.lload 5, 2) := by decide +kernel
theorem dX11_tellFraction_38 : decode cX11_tellFraction 38 = .ok (.lload 7, 2) := by decide +kernel
theorem dX11_tellFraction_40 : decode cX11_tellFraction 40 = .ok (.lrem, 1) := by decide +kernel
theorem dX11_tellFraction_41 : decode cX11_tellFraction 41 = .ok (.lstore 10, 2) := by decide +kernel
theorem dX11_tellFraction_43 : decode cX11_tellFraction 43 = .ok (.lload 7, 2) := by decide +kernel
theorem dX11_tellFraction_45 : decode cX11_tellFraction 45 = .ok (.lstore 5, 2) := by decide +kernel
theorem dX11_tellFraction_47 : decode cX11_tellFraction 47 = .ok (.lload 10, 2) := by decide +kernel
theorem dX11_tellFraction_49 : decode cX11_tellFraction 49 = .ok (.lstore 7, 2) := by decide +kernel
theorem dX11_tellFraction_51 : decode cX11_tellFraction 51 = .ok (.iinc 9 1, 3) := by decide +kernel
theorem dX11_tellFraction_54 : decode cX11_tellFraction 54 = .ok (.goto (-32), 3) := by decide +kernel
theorem dX11_tellFraction_57 : decode cX11_tellFraction 57 = .ok (.lload 5, 2) := by decide +kernel
theorem dX11_tellFraction_59 : decode cX11_tellFraction 59 = .ok (.lconst 0, 1) := by decide +kernel
theorem dX11_tellFraction_60 : decode cX11_tellFraction 60 = .ok (.lcmp, 1) := by decide +kernel
theorem dX11_tellFraction_61 : decode cX11_tellFraction 61 = .ok (.ifCond .gt 10, 3) := by decide +kernel
theorem dX11_tellFraction_64 : decode cX11_tellFraction 64 = .ok (.aload_n 0, 1) := by decide +kernel
theorem dX11_tellFraction_65 : decode cX11_tellFraction 65 = .ok (.bipush 8, 2) := by decide +kernel
theorem dX11_tellFraction_67 : decode cX11_tellFraction 67 = .ok (.invokevirtual 94, 3) := by decide +kernel
theorem dX11_tellFraction_70 : decode cX11_tellFraction 70 = .ok (.ireturn, 1) := by decide +kernel
theorem dX11_tellFraction_71 : decode cX11_tellFraction 71 = .ok (.aload_n 0, 1) := by decide +kernel
theorem dX11_tellFraction_72 : decode cX11_tellFraction 72 = .ok (.lload_n 1, 1) := by decide +kernel
theorem dX11_tellFraction_73 : decode cX11_tellFraction 73 = .ok (.lload 5, 2) := by decide +kernel
theorem dX11_tellFraction_75 : decode cX11_tellFraction 75 = .ok (.ldiv, 1) := by decide +kernel
theorem dX11_tellFraction_76 : decode cX11_tellFraction 76 = .ok (.putfield 87, 3) := by decide +kernel
theorem dX11_tellFraction_79 : decode cX11_tellFraction 79 = .ok (.aload_n 0, 1) := by decide +kernel
theorem dX11_tellFraction_80 : decode cX11_tellFraction 80 = .ok (.lload_n 3, 1) := by decide +kernel
theorem dX11_tellFraction_81 : decode cX11_tellFraction 81 = .ok (.lload 5, 2) := by decide +kernel
theorem dX11_tellFraction_83 : decode cX11_tellFraction 83 = .ok (.ldiv, 1) := by decide +kernel
theorem dX11_tellFraction_84 : decode cX11_tellFraction 84 = .ok (.putfield 76, 3) := by decide +kernel
theorem dX11_tellFraction_87 : decode cX11_tellFraction 87 = .ok (.aload_n 0, 1) := by decide +kernel
theorem dX11_tellFraction_88 : decode cX11_tellFraction 88 = .ok (.invokevirtual 101, 3) := by decide +kernel
theorem dX11_tellFraction_91 : decode cX11_tellFraction 91 = .ok (.ireturn, 1) := by decide +kernel
def L_X11_tellFraction (w : Nat) : Nat → z_Mem → Int64 → Int64 → Int64 → Int64 → Int32 → Option (Bool × z_Mem)
  | 0, _, _, _, _, _, _ => none
  | c + 1, M, x1, x3, x5, x7, x9 =>
    if (100 : Int32) ≤ x9 then
    if (0 : Int32) < (lg_cmp x5 (0 : Int64)) then
    if x5 = 0 then none else
    if x5 = 0 then none else
    (F_X11_allow w (z_wL (z_wL M 0 12 (x1 / x5)) 0 13 (x3 / x5))).bind fun q5 =>
    some (q5.1, q5.2)
    else
    (F_X11_deny w M (8 : Int32)).bind fun q7 =>
    some (q7.1, q7.2)
    else
    if (lg_cmp x7 (0 : Int64)) ≤ (0 : Int32) then
    if (0 : Int32) < (lg_cmp x5 (0 : Int64)) then
    if x5 = 0 then none else
    if x5 = 0 then none else
    (F_X11_allow w (z_wL (z_wL M 0 12 (x1 / x5)) 0 13 (x3 / x5))).bind fun q13 =>
    some (q13.1, q13.2)
    else
    (F_X11_deny w M (8 : Int32)).bind fun q15 =>
    some (q15.1, q15.2)
    else
    if x7 = 0 then none else
    L_X11_tellFraction w c M x1 x3 x7 (x5 - x5 / x7 * x7) (x9 + (1 : Int32))
set_option maxHeartbeats 4000000 in
theorem AL_X11_tellFraction {w : Nat} : ∀ (c : Nat), (∀ (M : z_Mem) (x1 : Int64) (x3 : Int64) (x5 : Int64) (x7 : Int64) (x9 : Int32) (r : Bool) (M' : z_Mem) (Q : Option Value → z_Mem → Prop), L_X11_tellFraction w c M x1 x3 x5 x7 x9 = some (r, M') → Q (some (.int (z_tb r))) M' → z_G none 1 mX11_tellFraction 22 [some (.ref 2), some (.long x1), none, some (.long x3), none, some (.long x5), none, some (.long x7), none, some (.int x9), none, none] [] M Q) := by
  intro c
  induction c with
  | zero => exact (fun M x1 x3 x5 x7 x9 r M' Q h hq => by rw [L_X11_tellFraction] at h; cases h)
  | succ c ih =>
    intro M x1 x3 x5 x7 x9 r M' Q h hq
    rw [L_X11_tellFraction] at h
    refine g_iload dX11_tellFraction_22 rfl ?_
    refine g_bipush (v := (100 : Int32)) dX11_tellFraction_24 (by decide) ?_
    refine g_ic_ge (t := 57) dX11_tellFraction_26 (by decide) (fun c1 => ?_) (fun c1 => ?_)
    · replace h := z_ift c1 h
      refine g_lload dX11_tellFraction_57 rfl ?_
      refine g_lconst (v := (0 : Int64)) dX11_tellFraction_59 (by decide) ?_
      refine g_lcmp dX11_tellFraction_60 ?_
      refine g_if_gt (t := 71) dX11_tellFraction_61 (by decide) (fun c2 => ?_) (fun c2 => ?_)
      · replace h := z_ift c2 h
        refine g_aload_n dX11_tellFraction_71 rfl rfl ?_
        refine g_lload_n dX11_tellFraction_72 rfl rfl ?_
        refine g_lload dX11_tellFraction_73 rfl ?_
        by_cases g3 : x5 = 0
        · rw [if_pos g3] at h; cases h
        replace h := z_iff g3 h
        refine g_ldiv dX11_tellFraction_75 g3 ?_
        refine g_putL (a := 0) dX11_tellFraction_76 f_11_87 sh_0 rfl rfl rfl ?_
        refine g_aload_n dX11_tellFraction_79 rfl rfl ?_
        refine g_lload_n dX11_tellFraction_80 rfl rfl ?_
        refine g_lload dX11_tellFraction_81 rfl ?_
        by_cases g4 : x5 = 0
        · rw [if_pos g4] at h; cases h
        replace h := z_iff g4 h
        refine g_ldiv dX11_tellFraction_83 g4 ?_
        refine g_putL (a := 0) dX11_tellFraction_84 f_11_76 sh_0 rfl rfl rfl ?_
        refine g_aload_n dX11_tellFraction_87 rfl rfl ?_
        obtain ⟨q5, e6, h⟩ := z_bd h
        refine g_callV (a := 0) (as := []) (rest := []) (c := mX11_allow) (k1 := 0) dX11_tellFraction_88 rfl rfl rfl sh_0 rfl rfl (Nat.le_of_ble_eq_true rfl) (Nat.le_of_ble_eq_true rfl) (by decide) ?_
        refine A_X11_allow e6 ?_
        show z_G none 1 mX11_tellFraction 91 [some (.ref 2), some (.long x1), none, some (.long x3), none, some (.long x5), none, some (.long x7), none, some (.int x9), none, none] [.int (z_tb q5.1)] q5.2 Q
        cases h
        exact g_iret dX11_tellFraction_91 rfl nb_tb hq
      · replace h := z_iff c2 h
        refine g_aload_n dX11_tellFraction_64 rfl rfl ?_
        refine g_bipush (v := (8 : Int32)) dX11_tellFraction_65 (by decide) ?_
        obtain ⟨q7, e8, h⟩ := z_bd h
        refine g_callV (a := 0) (as := [.int (8 : Int32)]) (rest := []) (c := mX11_deny) (k1 := 0) dX11_tellFraction_67 rfl rfl rfl sh_0 rfl rfl (Nat.le_of_ble_eq_true rfl) (Nat.le_of_ble_eq_true rfl) (by decide) ?_
        refine A_X11_deny e8 ?_
        show z_G none 1 mX11_tellFraction 70 [some (.ref 2), some (.long x1), none, some (.long x3), none, some (.long x5), none, some (.long x7), none, some (.int x9), none, none] [.int (z_tb q7.1)] q7.2 Q
        cases h
        exact g_iret dX11_tellFraction_70 rfl nb_tb hq
    · replace h := z_iff c1 h
      refine g_lload dX11_tellFraction_29 rfl ?_
      refine g_lconst (v := (0 : Int64)) dX11_tellFraction_31 (by decide) ?_
      refine g_lcmp dX11_tellFraction_32 ?_
      refine g_if_le (t := 57) dX11_tellFraction_33 (by decide) (fun c9 => ?_) (fun c9 => ?_)
      · replace h := z_ift c9 h
        refine g_lload dX11_tellFraction_57 rfl ?_
        refine g_lconst (v := (0 : Int64)) dX11_tellFraction_59 (by decide) ?_
        refine g_lcmp dX11_tellFraction_60 ?_
        refine g_if_gt (t := 71) dX11_tellFraction_61 (by decide) (fun c10 => ?_) (fun c10 => ?_)
        · replace h := z_ift c10 h
          refine g_aload_n dX11_tellFraction_71 rfl rfl ?_
          refine g_lload_n dX11_tellFraction_72 rfl rfl ?_
          refine g_lload dX11_tellFraction_73 rfl ?_
          by_cases g11 : x5 = 0
          · rw [if_pos g11] at h; cases h
          replace h := z_iff g11 h
          refine g_ldiv dX11_tellFraction_75 g11 ?_
          refine g_putL (a := 0) dX11_tellFraction_76 f_11_87 sh_0 rfl rfl rfl ?_
          refine g_aload_n dX11_tellFraction_79 rfl rfl ?_
          refine g_lload_n dX11_tellFraction_80 rfl rfl ?_
          refine g_lload dX11_tellFraction_81 rfl ?_
          by_cases g12 : x5 = 0
          · rw [if_pos g12] at h; cases h
          replace h := z_iff g12 h
          refine g_ldiv dX11_tellFraction_83 g12 ?_
          refine g_putL (a := 0) dX11_tellFraction_84 f_11_76 sh_0 rfl rfl rfl ?_
          refine g_aload_n dX11_tellFraction_87 rfl rfl ?_
          obtain ⟨q13, e14, h⟩ := z_bd h
          refine g_callV (a := 0) (as := []) (rest := []) (c := mX11_allow) (k1 := 0) dX11_tellFraction_88 rfl rfl rfl sh_0 rfl rfl (Nat.le_of_ble_eq_true rfl) (Nat.le_of_ble_eq_true rfl) (by decide) ?_
          refine A_X11_allow e14 ?_
          show z_G none 1 mX11_tellFraction 91 [some (.ref 2), some (.long x1), none, some (.long x3), none, some (.long x5), none, some (.long x7), none, some (.int x9), none, none] [.int (z_tb q13.1)] q13.2 Q
          cases h
          exact g_iret dX11_tellFraction_91 rfl nb_tb hq
        · replace h := z_iff c10 h
          refine g_aload_n dX11_tellFraction_64 rfl rfl ?_
          refine g_bipush (v := (8 : Int32)) dX11_tellFraction_65 (by decide) ?_
          obtain ⟨q15, e16, h⟩ := z_bd h
          refine g_callV (a := 0) (as := [.int (8 : Int32)]) (rest := []) (c := mX11_deny) (k1 := 0) dX11_tellFraction_67 rfl rfl rfl sh_0 rfl rfl (Nat.le_of_ble_eq_true rfl) (Nat.le_of_ble_eq_true rfl) (by decide) ?_
          refine A_X11_deny e16 ?_
          show z_G none 1 mX11_tellFraction 70 [some (.ref 2), some (.long x1), none, some (.long x3), none, some (.long x5), none, some (.long x7), none, some (.int x9), none, none] [.int (z_tb q15.1)] q15.2 Q
          cases h
          exact g_iret dX11_tellFraction_70 rfl nb_tb hq
      · replace h := z_iff c9 h
        refine g_lload dX11_tellFraction_36 rfl ?_
        refine g_lload dX11_tellFraction_38 rfl ?_
        by_cases g17 : x7 = 0
        · rw [if_pos g17] at h; cases h
        replace h := z_iff g17 h
        refine g_lrem dX11_tellFraction_40 g17 ?_
        refine g_lstore (ls' := [some (.ref 2), some (.long x1), none, some (.long x3), none, some (.long x5), none, some (.long x7), none, some (.int x9), some (.long (x5 - x5 / x7 * x7)), none]) dX11_tellFraction_41 (Nat.le_of_ble_eq_true rfl) rfl ?_
        refine g_lload dX11_tellFraction_43 rfl ?_
        refine g_lstore (ls' := [some (.ref 2), some (.long x1), none, some (.long x3), none, some (.long x7), none, some (.long x7), none, some (.int x9), some (.long (x5 - x5 / x7 * x7)), none]) dX11_tellFraction_45 (Nat.le_of_ble_eq_true rfl) rfl ?_
        refine g_lload dX11_tellFraction_47 rfl ?_
        refine g_lstore (ls' := [some (.ref 2), some (.long x1), none, some (.long x3), none, some (.long x7), none, some (.long (x5 - x5 / x7 * x7)), none, some (.int x9), some (.long (x5 - x5 / x7 * x7)), none]) dX11_tellFraction_49 (Nat.le_of_ble_eq_true rfl) rfl ?_
        refine g_iinc (v := x9 + (1 : Int32)) (ls' := [some (.ref 2), some (.long x1), none, some (.long x3), none, some (.long x7), none, some (.long (x5 - x5 / x7 * x7)), none, some (.int (x9 + (1 : Int32))), some (.long (x5 - x5 / x7 * x7)), none]) dX11_tellFraction_51 rfl rfl rfl ?_
        refine g_goto (t := 22) dX11_tellFraction_54 (by decide) ?_
        exact g_sub (z_sub_s (z_sub_s (z_sub_n (z_sub_s (z_sub_n (z_sub_s (z_sub_n (z_sub_s (z_sub_n (z_sub_s (z_sub_n (z_sub_n z_sub_nil)))))))))))) (ih _ _ _ _ _ _ _ _ _ h hq)
def F_X11_tellFraction (w : Nat) (M : z_Mem) (a1 : Int64) (a3 : Int64) : Option (Bool × z_Mem) :=
  if (0 : Int32) < (lg_cmp a3 (0 : Int64)) then
  L_X11_tellFraction w w M a1 a3 a3 a1 (0 : Int32)
  else
  (F_X11_deny w M (8 : Int32)).bind fun q19 =>
  some (q19.1, q19.2)
set_option maxHeartbeats 4000000 in
theorem A_X11_tellFraction {w : Nat} {M : z_Mem} {a1 : Int64} {a3 : Int64} {r : Bool} {M' : z_Mem} {Q : Option Value → z_Mem → Prop} (h : F_X11_tellFraction w M a1 a3 = some (r, M')) (hq : Q (some (.int (z_tb r))) M') : z_Cl 1 mX11_tellFraction [.ref 2, .long a1, .long a3] M Q := by
  refine g_in (ls := [some (.ref 2), some (.long a1), none, some (.long a3), none, none, none, none, none, none, none, none]) rfl ?_
  unfold F_X11_tellFraction at h
  refine g_lload_n dX11_tellFraction_0 rfl rfl ?_
  refine g_lconst (v := (0 : Int64)) dX11_tellFraction_1 (by decide) ?_
  refine g_lcmp dX11_tellFraction_2 ?_
  refine g_if_gt (t := 13) dX11_tellFraction_3 (by decide) (fun c18 => ?_) (fun c18 => ?_)
  · replace h := z_ift c18 h
    refine g_lload_n dX11_tellFraction_13 rfl rfl ?_
    refine g_lstore (ls' := [some (.ref 2), some (.long a1), none, some (.long a3), none, some (.long a3), none, none, none, none, none, none]) dX11_tellFraction_14 (Nat.le_of_ble_eq_true rfl) rfl ?_
    refine g_lload_n dX11_tellFraction_16 rfl rfl ?_
    refine g_lstore (ls' := [some (.ref 2), some (.long a1), none, some (.long a3), none, some (.long a3), none, some (.long a1), none, none, none, none]) dX11_tellFraction_17 (Nat.le_of_ble_eq_true rfl) rfl ?_
    refine g_iconst (v := (0 : Int32)) dX11_tellFraction_19 (by decide) ?_
    refine g_istore (ls' := [some (.ref 2), some (.long a1), none, some (.long a3), none, some (.long a3), none, some (.long a1), none, some (.int (0 : Int32)), none, none]) dX11_tellFraction_20 (Nat.le_of_ble_eq_true rfl) rfl ?_
    exact g_sub (z_sub_s (z_sub_s (z_sub_n (z_sub_s (z_sub_n (z_sub_s (z_sub_n (z_sub_s (z_sub_n (z_sub_s (z_sub_n (z_sub_n z_sub_nil)))))))))))) ((AL_X11_tellFraction (w := w) w) _ _ _ _ _ _ _ _ _ h hq)
  · replace h := z_iff c18 h
    refine g_aload_n dX11_tellFraction_6 rfl rfl ?_
    refine g_bipush (v := (8 : Int32)) dX11_tellFraction_7 (by decide) ?_
    obtain ⟨q19, e20, h⟩ := z_bd h
    refine g_callV (a := 0) (as := [.int (8 : Int32)]) (rest := []) (c := mX11_deny) (k1 := 0) dX11_tellFraction_9 rfl rfl rfl sh_0 rfl rfl (Nat.le_of_ble_eq_true rfl) (Nat.le_of_ble_eq_true rfl) (by decide) ?_
    refine A_X11_deny e20 ?_
    show z_G none 1 mX11_tellFraction 12 [some (.ref 2), some (.long a1), none, some (.long a3), none, none, none, none, none, none, none, none] [.int (z_tb q19.1)] q19.2 Q
    cases h
    exact g_iret dX11_tellFraction_12 rfl nb_tb hq
theorem dX11_whose_0 : decode cX11_whose 0 = .ok (.aload_n 0, 1) := by decide +kernel
theorem dX11_whose_1 : decode cX11_whose 1 = .ok (.getfield 26, 3) := by decide +kernel
theorem dX11_whose_4 : decode cX11_whose 4 = .ok (.getfield 190, 3) := by decide +kernel
theorem dX11_whose_7 : decode cX11_whose 7 = .ok (.astore_n 2, 1) := by decide +kernel
theorem dX11_whose_8 : decode cX11_whose 8 = .ok (.iload_n 1, 1) := by decide +kernel
theorem dX11_whose_9 : decode cX11_whose 9 = .ok (.iconst 0, 1) := by decide +kernel
theorem dX11_whose_10 : decode cX11_whose 10 = .ok (.aload_n 2, 1) := by decide +kernel
theorem dX11_whose_11 : decode cX11_whose 11 = .ok (.getfield 202, 3) := by decide +kernel
theorem dX11_whose_14 : decode cX11_whose 14 = .ok (.invokestatic 283, 3) := by decide +kernel
theorem dX11_whose_17 : decode cX11_whose 17 = .ok (.ifCond .ne 9, 3) := by decide +kernel
theorem dX11_whose_20 : decode cX11_whose 20 = .ok (.aload_n 0, 1) := by decide +kernel
theorem dX11_whose_21 : decode cX11_whose 21 = .ok (.iconst 5, 1) := by decide +kernel
theorem dX11_whose_22 : decode cX11_whose 22 = .ok (.invokevirtual 94, 3) := by decide +kernel
theorem dX11_whose_25 : decode cX11_whose 25 = .ok (.ireturn, 1) := by decide +kernel
theorem dX11_whose_26 : decode cX11_whose 26 = .ok (.aload_n 0, 1) := by decide +kernel
theorem dX11_whose_27 : decode cX11_whose 27 = .ok (.getfield 26, 3) := by decide +kernel
theorem dX11_whose_30 : decode cX11_whose 30 = .ok (.getfield 205, 3) := by decide +kernel
theorem dX11_whose_33 : decode cX11_whose 33 = .ok (.i2l, 1) := by decide +kernel
theorem dX11_whose_34 : decode cX11_whose 34 = .ok (.lstore_n 3, 1) := by decide +kernel
theorem dX11_whose_35 : decode cX11_whose 35 = .ok (.bipush 16, 2) := by decide +kernel
theorem dX11_whose_37 : decode cX11_whose 37 = .ok (.aload_n 0, 1) := by decide +kernel
theorem dX11_whose_38 : decode cX11_whose 38 = .ok (.getfield 26, 3) := by decide +kernel
theorem dX11_whose_41 : decode cX11_whose 41 = .ok (.getfield 205, 3) := by decide +kernel
theorem dX11_whose_44 : decode cX11_whose 44 = .ok (.isub, 1) := by decide +kernel
theorem dX11_whose_45 : decode cX11_whose 45 = .ok (.i2l, 1) := by decide +kernel
theorem dX11_whose_46 : decode cX11_whose 46 = .ok (.lstore 5, 2) := by decide +kernel
theorem dX11_whose_48 : decode cX11_whose 48 = .ok (.iconst 0, 1) := by decide +kernel
theorem dX11_whose_49 : decode cX11_whose 49 = .ok (.istore 7, 2) := by decide +kernel
theorem dX11_whose_51 : decode cX11_whose 51 = .ok (.iload 7, 2) := by decide +kernel
theorem dX11_whose_53 : decode cX11_whose 53 = .ok (.iload_n 1, 1) := by decide +kernel
theorem dX11_whose_54 : decode cX11_whose 54 = .ok (.if_icmp .ge 33, 3) := by decide +kernel
theorem dX11_whose_57 : decode cX11_whose 57 = .ok (.lload_n 3, 1) := by decide +kernel
theorem dX11_whose_58 : decode cX11_whose 58 = .ok (.aload_n 2, 1) := by decide +kernel
theorem dX11_whose_59 : decode cX11_whose 59 = .ok (.getfield 270, 3) := by decide +kernel
theorem dX11_whose_62 : decode cX11_whose 62 = .ok (.iload 7, 2) := by decide +kernel
theorem dX11_whose_64 : decode cX11_whose 64 = .ok (.iaload, 1) := by decide +kernel
theorem dX11_whose_65 : decode cX11_whose 65 = .ok (.i2l, 1) := by decide +kernel
theorem dX11_whose_66 : decode cX11_whose 66 = .ok (.lmul, 1) := by decide +kernel
theorem dX11_whose_67 : decode cX11_whose 67 = .ok (.lstore_n 3, 1) := by decide +kernel
theorem dX11_whose_68 : decode cX11_whose 68 = .ok (.lload 5, 2) := by decide +kernel
theorem dX11_whose_70 : decode cX11_whose 70 = .ok (.aload_n 2, 1) := by decide +kernel
theorem dX11_whose_71 : decode cX11_whose 71 = .ok (.getfield 273, 3) := by decide +kernel
theorem dX11_whose_74 : decode cX11_whose 74 = .ok (.iload 7, 2) := by decide +kernel
theorem dX11_whose_76 : decode cX11_whose 76 = .ok (.iaload, 1) := by decide +kernel
theorem dX11_whose_77 : decode cX11_whose 77 = .ok (.i2l, 1) := by decide +kernel
theorem dX11_whose_78 : decode cX11_whose 78 = .ok (.lmul, 1) := by decide +kernel
theorem dX11_whose_79 : decode cX11_whose 79 = .ok (.lstore 5, 2) := by decide +kernel
theorem dX11_whose_81 : decode cX11_whose 81 = .ok (.iinc 7 1, 3) := by decide +kernel
theorem dX11_whose_84 : decode cX11_whose 84 = .ok (.goto (-33), 3) := by decide +kernel
theorem dX11_whose_87 : decode cX11_whose 87 = .ok (.aload_n 0, 1) := by decide +kernel
theorem dX11_whose_88 : decode cX11_whose 88 = .ok (.lload_n 3, 1) := by decide +kernel
theorem dX11_whose_89 : decode cX11_whose 89 = .ok (.lload_n 3, 1) := by decide +kernel
theorem dX11_whose_90 : decode cX11_whose 90 = .ok (.lload 5, 2) := by decide +kernel
theorem dX11_whose_92 : decode cX11_whose 92 = .ok (.ladd, 1) := by decide +kernel
theorem dX11_whose_93 : decode cX11_whose 93 = .ok (.invokevirtual 371, 3) := by decide +kernel
theorem dX11_whose_96 : decode cX11_whose 96 = .ok (.ireturn, 1) := by decide +kernel
def L_X11_whose (w : Nat) : Nat → z_Mem → Int32 → Int64 → Int64 → Int32 → Option (Bool × z_Mem)
  | 0, _, _, _, _, _ => none
  | c + 1, M, x1, x3, x5, x7 =>
    if x1 ≤ x7 then
    (F_X11_tellFraction w M x3 (x3 + x5)).bind fun q2 =>
    some (q2.1, q2.2)
    else
    if x7 < 0 ∨ 6 ≤ x7.toNatClampNeg then none else
    if x7 < 0 ∨ 6 ≤ x7.toNatClampNeg then none else
    L_X11_whose w c M x1 (x3 * ((M.1 22 x7.toNatClampNeg).toInt64)) (x5 * ((M.1 23 x7.toNatClampNeg).toInt64)) (x7 + (1 : Int32))
set_option maxHeartbeats 4000000 in
theorem AL_X11_whose {w : Nat} : ∀ (c : Nat), (∀ (M : z_Mem) (x1 : Int32) (x3 : Int64) (x5 : Int64) (x7 : Int32) (r : Bool) (M' : z_Mem) (Q : Option Value → z_Mem → Prop), L_X11_whose w c M x1 x3 x5 x7 = some (r, M') → Q (some (.int (z_tb r))) M' → z_G none 2 mX11_whose 51 [some (.ref 2), some (.int x1), some (.ref 21), some (.long x3), none, some (.long x5), none, some (.int x7)] [] M Q) := by
  intro c
  induction c with
  | zero => exact (fun M x1 x3 x5 x7 r M' Q h hq => by rw [L_X11_whose] at h; cases h)
  | succ c ih =>
    intro M x1 x3 x5 x7 r M' Q h hq
    rw [L_X11_whose] at h
    refine g_iload dX11_whose_51 rfl ?_
    refine g_iload_n dX11_whose_53 rfl rfl ?_
    refine g_ic_ge (t := 87) dX11_whose_54 (by decide) (fun c1 => ?_) (fun c1 => ?_)
    · replace h := z_ift c1 h
      refine g_aload_n dX11_whose_87 rfl rfl ?_
      refine g_lload_n dX11_whose_88 rfl rfl ?_
      refine g_lload_n dX11_whose_89 rfl rfl ?_
      refine g_lload dX11_whose_90 rfl ?_
      refine g_ladd dX11_whose_92 ?_
      obtain ⟨q2, e3, h⟩ := z_bd h
      refine g_callV (a := 0) (as := [.long x3, .long (x3 + x5)]) (rest := []) (c := mX11_tellFraction) (k1 := 1) dX11_whose_93 rfl rfl rfl sh_0 rfl rfl (Nat.le_of_ble_eq_true rfl) (Nat.le_of_ble_eq_true rfl) (by decide) ?_
      refine A_X11_tellFraction e3 ?_
      show z_G none 2 mX11_whose 96 [some (.ref 2), some (.int x1), some (.ref 21), some (.long x3), none, some (.long x5), none, some (.int x7)] [.int (z_tb q2.1)] q2.2 Q
      cases h
      exact g_iret dX11_whose_96 rfl nb_tb hq
    · replace h := z_iff c1 h
      refine g_lload_n dX11_whose_57 rfl rfl ?_
      refine g_aload_n dX11_whose_58 rfl rfl ?_
      refine g_get (a := 19) (v := .ref 24) dX11_whose_59 f_11_270 sh_19 rfl rfl ?_
      refine g_iload dX11_whose_62 rfl ?_
      by_cases g4 : x7 < 0 ∨ 6 ≤ x7.toNatClampNeg
      · rw [if_pos g4] at h; cases h
      replace h := z_iff g4 h
      refine g_iald (a := 22) dX11_whose_64 sh_22 g4 ?_
      refine g_i2l dX11_whose_65 ?_
      refine g_lmul dX11_whose_66 ?_
      refine g_lstore_n (ls' := [some (.ref 2), some (.int x1), some (.ref 21), some (.long (x3 * ((M.1 22 x7.toNatClampNeg).toInt64))), none, some (.long x5), none, some (.int x7)]) dX11_whose_67 rfl (Nat.le_of_ble_eq_true rfl) rfl ?_
      refine g_lload dX11_whose_68 rfl ?_
      refine g_aload_n dX11_whose_70 rfl rfl ?_
      refine g_get (a := 19) (v := .ref 25) dX11_whose_71 f_11_273 sh_19 rfl rfl ?_
      refine g_iload dX11_whose_74 rfl ?_
      by_cases g5 : x7 < 0 ∨ 6 ≤ x7.toNatClampNeg
      · rw [if_pos g5] at h; cases h
      replace h := z_iff g5 h
      refine g_iald (a := 23) dX11_whose_76 sh_23 g5 ?_
      refine g_i2l dX11_whose_77 ?_
      refine g_lmul dX11_whose_78 ?_
      refine g_lstore (ls' := [some (.ref 2), some (.int x1), some (.ref 21), some (.long (x3 * ((M.1 22 x7.toNatClampNeg).toInt64))), none, some (.long (x5 * ((M.1 23 x7.toNatClampNeg).toInt64))), none, some (.int x7)]) dX11_whose_79 (Nat.le_of_ble_eq_true rfl) rfl ?_
      refine g_iinc (v := x7 + (1 : Int32)) (ls' := [some (.ref 2), some (.int x1), some (.ref 21), some (.long (x3 * ((M.1 22 x7.toNatClampNeg).toInt64))), none, some (.long (x5 * ((M.1 23 x7.toNatClampNeg).toInt64))), none, some (.int (x7 + (1 : Int32)))]) dX11_whose_81 rfl rfl rfl ?_
      refine g_goto (t := 51) dX11_whose_84 (by decide) ?_
      exact g_sub (z_sub_s (z_sub_s (z_sub_s (z_sub_s (z_sub_n (z_sub_s (z_sub_n (z_sub_s z_sub_nil)))))))) (ih _ _ _ _ _ _ _ _ h hq)
def F_X11_whose (w : Nat) (M : z_Mem) (a1 : Int32) : Option (Bool × z_Mem) :=
  (F_X11_isWithin w M a1 (0 : Int32) (M.1 19 6)).bind fun q6 =>
  if q6.1 = true then
  L_X11_whose w w q6.2 a1 ((q6.2.1 7 5).toInt64) (((16 : Int32) - (q6.2.1 7 5)).toInt64) (0 : Int32)
  else
  (F_X11_deny w q6.2 (5 : Int32)).bind fun q9 =>
  some (q9.1, q9.2)
set_option maxHeartbeats 4000000 in
theorem A_X11_whose {w : Nat} {M : z_Mem} {a1 : Int32} {r : Bool} {M' : z_Mem} {Q : Option Value → z_Mem → Prop} (h : F_X11_whose w M a1 = some (r, M')) (hq : Q (some (.int (z_tb r))) M') : z_Cl 2 mX11_whose [.ref 2, .int a1] M Q := by
  refine g_in (ls := [some (.ref 2), some (.int a1), none, none, none, none, none, none]) rfl ?_
  unfold F_X11_whose at h
  refine g_aload_n dX11_whose_0 rfl rfl ?_
  refine g_get (a := 0) (v := .ref 9) dX11_whose_1 f_11_26 sh_0 rfl rfl ?_
  refine g_get (a := 7) (v := .ref 21) dX11_whose_4 f_11_190 sh_7 rfl rfl ?_
  refine g_astore_n (ls' := [some (.ref 2), some (.int a1), some (.ref 21), none, none, none, none, none]) dX11_whose_7 rfl (Nat.le_of_ble_eq_true rfl) rfl ?_
  refine g_iload_n dX11_whose_8 rfl rfl ?_
  refine g_iconst (v := (0 : Int32)) dX11_whose_9 (by decide) ?_
  refine g_aload_n dX11_whose_10 rfl rfl ?_
  refine g_get (a := 19) (v := .int (M.1 19 6)) dX11_whose_11 f_11_202 sh_19 rfl rfl ?_
  obtain ⟨q6, e7, h⟩ := z_bd h
  refine g_callS (as := [.int a1, .int (0 : Int32), .int (M.1 19 6)]) (rest := []) (c := mX11_isWithin) (k1 := 0) dX11_whose_14 rfl rfl rfl rfl rfl (Nat.le_of_ble_eq_true rfl) (Nat.le_of_ble_eq_true rfl) (by decide) ?_
  refine A_X11_isWithin e7 ?_
  show z_G none 2 mX11_whose 17 [some (.ref 2), some (.int a1), some (.ref 21), none, none, none, none, none] [.int (z_tb q6.1)] q6.2 Q
  refine g_if_ne (t := 26) dX11_whose_17 (by decide) (fun c8 => ?_) (fun c8 => ?_)
  · replace h := z_ift (z_tbn.mp c8) h
    refine g_aload_n dX11_whose_26 rfl rfl ?_
    refine g_get (a := 0) (v := .ref 9) dX11_whose_27 f_11_26 sh_0 rfl rfl ?_
    refine g_get (a := 7) (v := .int (q6.2.1 7 5)) dX11_whose_30 f_11_205 sh_7 rfl rfl ?_
    refine g_i2l dX11_whose_33 ?_
    refine g_lstore_n (ls' := [some (.ref 2), some (.int a1), some (.ref 21), some (.long ((q6.2.1 7 5).toInt64)), none, none, none, none]) dX11_whose_34 rfl (Nat.le_of_ble_eq_true rfl) rfl ?_
    refine g_bipush (v := (16 : Int32)) dX11_whose_35 (by decide) ?_
    refine g_aload_n dX11_whose_37 rfl rfl ?_
    refine g_get (a := 0) (v := .ref 9) dX11_whose_38 f_11_26 sh_0 rfl rfl ?_
    refine g_get (a := 7) (v := .int (q6.2.1 7 5)) dX11_whose_41 f_11_205 sh_7 rfl rfl ?_
    refine g_isub dX11_whose_44 ?_
    refine g_i2l dX11_whose_45 ?_
    refine g_lstore (ls' := [some (.ref 2), some (.int a1), some (.ref 21), some (.long ((q6.2.1 7 5).toInt64)), none, some (.long (((16 : Int32) - (q6.2.1 7 5)).toInt64)), none, none]) dX11_whose_46 (Nat.le_of_ble_eq_true rfl) rfl ?_
    refine g_iconst (v := (0 : Int32)) dX11_whose_48 (by decide) ?_
    refine g_istore (ls' := [some (.ref 2), some (.int a1), some (.ref 21), some (.long ((q6.2.1 7 5).toInt64)), none, some (.long (((16 : Int32) - (q6.2.1 7 5)).toInt64)), none, some (.int (0 : Int32))]) dX11_whose_49 (Nat.le_of_ble_eq_true rfl) rfl ?_
    exact g_sub (z_sub_s (z_sub_s (z_sub_s (z_sub_s (z_sub_n (z_sub_s (z_sub_n (z_sub_s z_sub_nil)))))))) ((AL_X11_whose (w := w) w) _ _ _ _ _ _ _ _ h hq)
  · replace h := z_iff (z_tb0.mp c8) h
    refine g_aload_n dX11_whose_20 rfl rfl ?_
    refine g_iconst (v := (5 : Int32)) dX11_whose_21 (by decide) ?_
    obtain ⟨q9, e10, h⟩ := z_bd h
    refine g_callV (a := 0) (as := [.int (5 : Int32)]) (rest := []) (c := mX11_deny) (k1 := 0) dX11_whose_22 rfl rfl rfl sh_0 rfl rfl (Nat.le_of_ble_eq_true rfl) (Nat.le_of_ble_eq_true rfl) (by decide) ?_
    refine A_X11_deny e10 ?_
    show z_G none 2 mX11_whose 25 [some (.ref 2), some (.int a1), some (.ref 21), none, none, none, none, none] [.int (z_tb q9.1)] q9.2 Q
    cases h
    exact g_iret dX11_whose_25 rfl nb_tb hq
theorem dX11_share_0 : decode cX11_share 0 = .ok (.iload_n 1, 1) := by decide +kernel
theorem dX11_share_1 : decode cX11_share 1 = .ok (.invokestatic 226, 3) := by decide +kernel
theorem dX11_share_4 : decode cX11_share 4 = .ok (.ifCond .ne 9, 3) := by decide +kernel
theorem dX11_share_7 : decode cX11_share 7 = .ok (.aload_n 0, 1) := by decide +kernel
theorem dX11_share_8 : decode cX11_share 8 = .ok (.iconst 2, 1) := by decide +kernel
theorem dX11_share_9 : decode cX11_share 9 = .ok (.invokevirtual 94, 3) := by decide +kernel
theorem dX11_share_12 : decode cX11_share 12 = .ok (.ireturn, 1) := by decide +kernel
theorem dX11_share_13 : decode cX11_share 13 = .ok (.aload_n 0, 1) := by decide +kernel
theorem dX11_share_14 : decode cX11_share 14 = .ok (.aload_n 0, 1) := by decide +kernel
theorem dX11_share_15 : decode cX11_share 15 = .ok (.getfield 26, 3) := by decide +kernel
theorem dX11_share_18 : decode cX11_share 18 = .ok (.getfield 229, 3) := by decide +kernel
theorem dX11_share_21 : decode cX11_share 21 = .ok (.iload_n 1, 1) := by decide +kernel
theorem dX11_share_22 : decode cX11_share 22 = .ok (.iaload, 1) := by decide +kernel
theorem dX11_share_23 : decode cX11_share 23 = .ok (.i2l, 1) := by decide +kernel
theorem dX11_share_24 : decode cX11_share 24 = .ok (.aload_n 0, 1) := by decide +kernel
theorem dX11_share_25 : decode cX11_share 25 = .ok (.getfield 26, 3) := by decide +kernel
theorem dX11_share_28 : decode cX11_share 28 = .ok (.invokevirtual 279, 3) := by decide +kernel
theorem dX11_share_31 : decode cX11_share 31 = .ok (.i2l, 1) := by decide +kernel
theorem dX11_share_32 : decode cX11_share 32 = .ok (.invokevirtual 371, 3) := by decide +kernel
theorem dX11_share_35 : decode cX11_share 35 = .ok (.ireturn, 1) := by decide +kernel
def F_X11_share (w : Nat) (M : z_Mem) (a1 : Int32) : Option (Bool × z_Mem) :=
  (F_X11_isSide w M a1).bind fun q1 =>
  if q1.1 = true then
  if a1 < 0 ∨ 2 ≤ a1.toNatClampNeg then none else
  (F_X3_bothChests w q1.2 7).bind fun q5 =>
  (F_X11_tellFraction w q5.2 ((q1.2.1 8 a1.toNatClampNeg).toInt64) q5.1.toInt64).bind fun q7 =>
  some (q7.1, q7.2)
  else
  (F_X11_deny w q1.2 (2 : Int32)).bind fun q9 =>
  some (q9.1, q9.2)
set_option maxHeartbeats 4000000 in
theorem A_X11_share {w : Nat} {M : z_Mem} {a1 : Int32} {r : Bool} {M' : z_Mem} {Q : Option Value → z_Mem → Prop} (h : F_X11_share w M a1 = some (r, M')) (hq : Q (some (.int (z_tb r))) M') : z_Cl 2 mX11_share [.ref 2, .int a1] M Q := by
  refine g_in (ls := [some (.ref 2), some (.int a1)]) rfl ?_
  unfold F_X11_share at h
  refine g_iload_n dX11_share_0 rfl rfl ?_
  obtain ⟨q1, e2, h⟩ := z_bd h
  refine g_callS (as := [.int a1]) (rest := []) (c := mX11_isSide) (k1 := 0) dX11_share_1 rfl rfl rfl rfl rfl (Nat.le_of_ble_eq_true rfl) (Nat.le_of_ble_eq_true rfl) (by decide) ?_
  refine A_X11_isSide e2 ?_
  show z_G none 2 mX11_share 4 [some (.ref 2), some (.int a1)] [.int (z_tb q1.1)] q1.2 Q
  refine g_if_ne (t := 13) dX11_share_4 (by decide) (fun c3 => ?_) (fun c3 => ?_)
  · replace h := z_ift (z_tbn.mp c3) h
    refine g_aload_n dX11_share_13 rfl rfl ?_
    refine g_aload_n dX11_share_14 rfl rfl ?_
    refine g_get (a := 0) (v := .ref 9) dX11_share_15 f_11_26 sh_0 rfl rfl ?_
    refine g_get (a := 7) (v := .ref 10) dX11_share_18 f_11_229 sh_7 rfl rfl ?_
    refine g_iload_n dX11_share_21 rfl rfl ?_
    by_cases g4 : a1 < 0 ∨ 2 ≤ a1.toNatClampNeg
    · rw [if_pos g4] at h; cases h
    replace h := z_iff g4 h
    refine g_iald (a := 8) dX11_share_22 sh_8 g4 ?_
    refine g_i2l dX11_share_23 ?_
    refine g_aload_n dX11_share_24 rfl rfl ?_
    refine g_get (a := 0) (v := .ref 9) dX11_share_25 f_11_26 sh_0 rfl rfl ?_
    obtain ⟨q5, e6, h⟩ := z_bd h
    refine g_callV (a := 7) (as := []) (rest := [.long ((q1.2.1 8 a1.toNatClampNeg).toInt64), .ref 2]) (c := mX3_bothChests) (k1 := 0) dX11_share_28 rfl rfl rfl sh_7 rfl rfl (Nat.le_of_ble_eq_true rfl) (Nat.le_of_ble_eq_true rfl) (by decide) ?_
    refine A_X3_bothChests z_par_7 e6 ?_
    show z_G none 2 mX11_share 31 [some (.ref 2), some (.int a1)] [.int q5.1, .long ((q1.2.1 8 a1.toNatClampNeg).toInt64), .ref 2] q5.2 Q
    refine g_i2l dX11_share_31 ?_
    obtain ⟨q7, e8, h⟩ := z_bd h
    refine g_callV (a := 0) (as := [.long ((q1.2.1 8 a1.toNatClampNeg).toInt64), .long q5.1.toInt64]) (rest := []) (c := mX11_tellFraction) (k1 := 1) dX11_share_32 rfl rfl rfl sh_0 rfl rfl (Nat.le_of_ble_eq_true rfl) (Nat.le_of_ble_eq_true rfl) (by decide) ?_
    refine A_X11_tellFraction e8 ?_
    show z_G none 2 mX11_share 35 [some (.ref 2), some (.int a1)] [.int (z_tb q7.1)] q7.2 Q
    cases h
    exact g_iret dX11_share_35 rfl nb_tb hq
  · replace h := z_iff (z_tb0.mp c3) h
    refine g_aload_n dX11_share_7 rfl rfl ?_
    refine g_iconst (v := (2 : Int32)) dX11_share_8 (by decide) ?_
    obtain ⟨q9, e10, h⟩ := z_bd h
    refine g_callV (a := 0) (as := [.int (2 : Int32)]) (rest := []) (c := mX11_deny) (k1 := 0) dX11_share_9 rfl rfl rfl sh_0 rfl rfl (Nat.le_of_ble_eq_true rfl) (Nat.le_of_ble_eq_true rfl) (by decide) ?_
    refine A_X11_deny e10 ?_
    show z_G none 2 mX11_share 12 [some (.ref 2), some (.int a1)] [.int (z_tb q9.1)] q9.2 Q
    cases h
    exact g_iret dX11_share_12 rfl nb_tb hq
theorem dX11_live_0 : decode cX11_live 0 = .ok (.iload_n 1, 1) := by decide +kernel
theorem dX11_live_1 : decode cX11_live 1 = .ok (.iconst 0, 1) := by decide +kernel
theorem dX11_live_2 : decode cX11_live 2 = .ok (.sipush 9999, 3) := by decide +kernel
theorem dX11_live_5 : decode cX11_live 5 = .ok (.invokestatic 283, 3) := by decide +kernel
theorem dX11_live_8 : decode cX11_live 8 = .ok (.ifCond .ne 9, 3) := by decide +kernel
theorem dX11_live_11 : decode cX11_live 11 = .ok (.aload_n 0, 1) := by decide +kernel
theorem dX11_live_12 : decode cX11_live 12 = .ok (.iconst 5, 1) := by decide +kernel
theorem dX11_live_13 : decode cX11_live 13 = .ok (.invokevirtual 113, 3) := by decide +kernel
theorem dX11_live_16 : decode cX11_live 16 = .ok (.ireturn, 1) := by decide +kernel
theorem dX11_live_17 : decode cX11_live 17 = .ok (.aload_n 0, 1) := by decide +kernel
theorem dX11_live_18 : decode cX11_live 18 = .ok (.getfield 26, 3) := by decide +kernel
theorem dX11_live_21 : decode cX11_live 21 = .ok (.getfield 44, 3) := by decide +kernel
theorem dX11_live_24 : decode cX11_live 24 = .ok (.getfield 375, 3) := by decide +kernel
theorem dX11_live_27 : decode cX11_live 27 = .ok (.ifCond .ne 10, 3) := by decide +kernel
theorem dX11_live_30 : decode cX11_live 30 = .ok (.aload_n 0, 1) := by decide +kernel
theorem dX11_live_31 : decode cX11_live 31 = .ok (.bipush 8, 2) := by decide +kernel
theorem dX11_live_33 : decode cX11_live 33 = .ok (.invokevirtual 113, 3) := by decide +kernel
theorem dX11_live_36 : decode cX11_live 36 = .ok (.ireturn, 1) := by decide +kernel
theorem dX11_live_37 : decode cX11_live 37 = .ok (.aload_n 0, 1) := by decide +kernel
theorem dX11_live_38 : decode cX11_live 38 = .ok (.getfield 69, 3) := by decide +kernel
theorem dX11_live_41 : decode cX11_live 41 = .ok (.aload_n 0, 1) := by decide +kernel
theorem dX11_live_42 : decode cX11_live 42 = .ok (.getfield 26, 3) := by decide +kernel
theorem dX11_live_45 : decode cX11_live 45 = .ok (.iload_n 1, 1) := by decide +kernel
theorem dX11_live_46 : decode cX11_live 46 = .ok (.invokevirtual 377, 3) := by decide +kernel
theorem dX11_live_49 : decode cX11_live 49 = .ok (.aload_n 0, 1) := by decide +kernel
theorem dX11_live_50 : decode cX11_live 50 = .ok (.aload_n 0, 1) := by decide +kernel
theorem dX11_live_51 : decode cX11_live 51 = .ok (.getfield 69, 3) := by decide +kernel
theorem dX11_live_54 : decode cX11_live 54 = .ok (.getfield 381, 3) := by decide +kernel
theorem dX11_live_57 : decode cX11_live 57 = .ok (.invokevirtual 164, 3) := by decide +kernel
theorem dX11_live_60 : decode cX11_live 60 = .ok (.ireturn, 1) := by decide +kernel
def F_X11_live (w : Nat) (M : z_Mem) (a1 : Int32) : Option (Int32 × z_Mem) :=
  (F_X11_isWithin w M a1 (0 : Int32) (9999 : Int32)).bind fun q1 =>
  if q1.1 = true then
  if (z_bb (q1.2.1 24 7)) = true then
  (F_X2_run w q1.2 64 7 a1).bind fun q5 =>
  (F_X11_answer w q5.2 (q5.2.1 64 2)).bind fun q7 =>
  some (q7.1, q7.2)
  else
  (F_X11_refuse w q1.2 (8 : Int32)).bind fun q9 =>
  some (q9.1, q9.2)
  else
  (F_X11_refuse w q1.2 (5 : Int32)).bind fun q11 =>
  some (q11.1, q11.2)
set_option maxHeartbeats 4000000 in
theorem A_X11_live {w : Nat} {M : z_Mem} {a1 : Int32} {r : Int32} {M' : z_Mem} {Q : Option Value → z_Mem → Prop} (h : F_X11_live w M a1 = some (r, M')) (hq : Q (some (.int r)) M') : z_Cl 7 mX11_live [.ref 2, .int a1] M Q := by
  refine g_in (ls := [some (.ref 2), some (.int a1)]) rfl ?_
  unfold F_X11_live at h
  refine g_iload_n dX11_live_0 rfl rfl ?_
  refine g_iconst (v := (0 : Int32)) dX11_live_1 (by decide) ?_
  refine g_sipush (v := (9999 : Int32)) dX11_live_2 (by decide) ?_
  obtain ⟨q1, e2, h⟩ := z_bd h
  refine g_callS (as := [.int a1, .int (0 : Int32), .int (9999 : Int32)]) (rest := []) (c := mX11_isWithin) (k1 := 0) dX11_live_5 rfl rfl rfl rfl rfl (Nat.le_of_ble_eq_true rfl) (Nat.le_of_ble_eq_true rfl) (by decide) ?_
  refine A_X11_isWithin e2 ?_
  show z_G none 7 mX11_live 8 [some (.ref 2), some (.int a1)] [.int (z_tb q1.1)] q1.2 Q
  refine g_if_ne (t := 17) dX11_live_8 (by decide) (fun c3 => ?_) (fun c3 => ?_)
  · replace h := z_ift (z_tbn.mp c3) h
    refine g_aload_n dX11_live_17 rfl rfl ?_
    refine g_get (a := 0) (v := .ref 9) dX11_live_18 f_11_26 sh_0 rfl rfl ?_
    refine g_get (a := 7) (v := .ref 26) dX11_live_21 f_11_44 sh_7 rfl rfl ?_
    refine g_get (a := 24) (v := .int (z_tb (z_bb (q1.2.1 24 7)))) dX11_live_24 f_11_375 sh_24 rfl z_fvZ ?_
    refine g_if_ne (t := 37) dX11_live_27 (by decide) (fun c4 => ?_) (fun c4 => ?_)
    · replace h := z_ift (z_tbn.mp c4) h
      refine g_aload_n dX11_live_37 rfl rfl ?_
      refine g_get (a := 0) (v := .ref 66) dX11_live_38 f_11_69 sh_0 rfl rfl ?_
      refine g_aload_n dX11_live_41 rfl rfl ?_
      refine g_get (a := 0) (v := .ref 9) dX11_live_42 f_11_26 sh_0 rfl rfl ?_
      refine g_iload_n dX11_live_45 rfl rfl ?_
      obtain ⟨q5, e6, h⟩ := z_bd h
      refine g_callV (a := 64) (as := [.ref 9, .int a1]) (rest := []) (c := mX2_run) (k1 := 6) dX11_live_46 rfl rfl rfl sh_64 rfl rfl (Nat.le_of_ble_eq_true rfl) (Nat.le_of_ble_eq_true rfl) (by decide) ?_
      refine A_X2_run z_lif_64 z_par_7 e6 ?_
      show z_G none 7 mX11_live 49 [some (.ref 2), some (.int a1)] [] q5.2 Q
      refine g_aload_n dX11_live_49 rfl rfl ?_
      refine g_aload_n dX11_live_50 rfl rfl ?_
      refine g_get (a := 0) (v := .ref 66) dX11_live_51 f_11_69 sh_0 rfl rfl ?_
      refine g_get (a := 64) (v := .int (q5.2.1 64 2)) dX11_live_54 f_11_381 sh_64 rfl rfl ?_
      obtain ⟨q7, e8, h⟩ := z_bd h
      refine g_callV (a := 0) (as := [.int (q5.2.1 64 2)]) (rest := []) (c := mX11_answer) (k1 := 0) dX11_live_57 rfl rfl rfl sh_0 rfl rfl (Nat.le_of_ble_eq_true rfl) (Nat.le_of_ble_eq_true rfl) (by decide) ?_
      refine A_X11_answer e8 ?_
      show z_G none 7 mX11_live 60 [some (.ref 2), some (.int a1)] [.int q7.1] q7.2 Q
      cases h
      exact g_iret dX11_live_60 rfl rfl hq
    · replace h := z_iff (z_tb0.mp c4) h
      refine g_aload_n dX11_live_30 rfl rfl ?_
      refine g_bipush (v := (8 : Int32)) dX11_live_31 (by decide) ?_
      obtain ⟨q9, e10, h⟩ := z_bd h
      refine g_callV (a := 0) (as := [.int (8 : Int32)]) (rest := []) (c := mX11_refuse) (k1 := 0) dX11_live_33 rfl rfl rfl sh_0 rfl rfl (Nat.le_of_ble_eq_true rfl) (Nat.le_of_ble_eq_true rfl) (by decide) ?_
      refine A_X11_refuse e10 ?_
      show z_G none 7 mX11_live 36 [some (.ref 2), some (.int a1)] [.int q9.1] q9.2 Q
      cases h
      exact g_iret dX11_live_36 rfl rfl hq
  · replace h := z_iff (z_tb0.mp c3) h
    refine g_aload_n dX11_live_11 rfl rfl ?_
    refine g_iconst (v := (5 : Int32)) dX11_live_12 (by decide) ?_
    obtain ⟨q11, e12, h⟩ := z_bd h
    refine g_callV (a := 0) (as := [.int (5 : Int32)]) (rest := []) (c := mX11_refuse) (k1 := 0) dX11_live_13 rfl rfl rfl sh_0 rfl rfl (Nat.le_of_ble_eq_true rfl) (Nat.le_of_ble_eq_true rfl) (by decide) ?_
    refine A_X11_refuse e12 ?_
    show z_G none 7 mX11_live 16 [some (.ref 2), some (.int a1)] [.int q11.1] q11.2 Q
    cases h
    exact g_iret dX11_live_16 rfl rfl hq
theorem dX11_lived_0 : decode cX11_lived 0 = .ok (.iload_n 1, 1) := by decide +kernel
theorem dX11_lived_1 : decode cX11_lived 1 = .ok (.iconst 0, 1) := by decide +kernel
theorem dX11_lived_2 : decode cX11_lived 2 = .ok (.iconst 4, 1) := by decide +kernel
theorem dX11_lived_3 : decode cX11_lived 3 = .ok (.invokestatic 283, 3) := by decide +kernel
theorem dX11_lived_6 : decode cX11_lived 6 = .ok (.ifCond .ne 9, 3) := by decide +kernel
theorem dX11_lived_9 : decode cX11_lived 9 = .ok (.aload_n 0, 1) := by decide +kernel
theorem dX11_lived_10 : decode cX11_lived 10 = .ok (.iconst 5, 1) := by decide +kernel
theorem dX11_lived_11 : decode cX11_lived 11 = .ok (.invokevirtual 113, 3) := by decide +kernel
theorem dX11_lived_14 : decode cX11_lived 14 = .ok (.ireturn, 1) := by decide +kernel
theorem dX11_lived_15 : decode cX11_lived 15 = .ok (.aload_n 0, 1) := by decide +kernel
theorem dX11_lived_16 : decode cX11_lived 16 = .ok (.getfield 69, 3) := by decide +kernel
theorem dX11_lived_19 : decode cX11_lived 19 = .ok (.getfield 382, 3) := by decide +kernel
theorem dX11_lived_22 : decode cX11_lived 22 = .ok (.ifCond .ne 10, 3) := by decide +kernel
theorem dX11_lived_25 : decode cX11_lived 25 = .ok (.aload_n 0, 1) := by decide +kernel
theorem dX11_lived_26 : decode cX11_lived 26 = .ok (.bipush 8, 2) := by decide +kernel
theorem dX11_lived_28 : decode cX11_lived 28 = .ok (.invokevirtual 113, 3) := by decide +kernel
theorem dX11_lived_31 : decode cX11_lived 31 = .ok (.ireturn, 1) := by decide +kernel
theorem dX11_lived_32 : decode cX11_lived 32 = .ok (.iload_n 1, 1) := by decide +kernel
theorem dX11_lived_33 : decode cX11_lived 33 = .ok (.tableswitch 79 0 3 #[31, 43, 55, 67], 31) := by decide +kernel
theorem dX11_lived_64 : decode cX11_lived 64 = .ok (.aload_n 0, 1) := by decide +kernel
theorem dX11_lived_65 : decode cX11_lived 65 = .ok (.aload_n 0, 1) := by decide +kernel
theorem dX11_lived_66 : decode cX11_lived 66 = .ok (.getfield 69, 3) := by decide +kernel
theorem dX11_lived_69 : decode cX11_lived 69 = .ok (.getfield 385, 3) := by decide +kernel
theorem dX11_lived_72 : decode cX11_lived 72 = .ok (.invokevirtual 164, 3) := by decide +kernel
theorem dX11_lived_75 : decode cX11_lived 75 = .ok (.ireturn, 1) := by decide +kernel
theorem dX11_lived_76 : decode cX11_lived 76 = .ok (.aload_n 0, 1) := by decide +kernel
theorem dX11_lived_77 : decode cX11_lived 77 = .ok (.aload_n 0, 1) := by decide +kernel
theorem dX11_lived_78 : decode cX11_lived 78 = .ok (.getfield 69, 3) := by decide +kernel
theorem dX11_lived_81 : decode cX11_lived 81 = .ok (.getfield 388, 3) := by decide +kernel
theorem dX11_lived_84 : decode cX11_lived 84 = .ok (.invokevirtual 164, 3) := by decide +kernel
theorem dX11_lived_87 : decode cX11_lived 87 = .ok (.ireturn, 1) := by decide +kernel
theorem dX11_lived_88 : decode cX11_lived 88 = .ok (.aload_n 0, 1) := by decide +kernel
theorem dX11_lived_89 : decode cX11_lived 89 = .ok (.aload_n 0, 1) := by decide +kernel
theorem dX11_lived_90 : decode cX11_lived 90 = .ok (.getfield 69, 3) := by decide +kernel
theorem dX11_lived_93 : decode cX11_lived 93 = .ok (.getfield 390, 3) := by decide +kernel
theorem dX11_lived_96 : decode cX11_lived 96 = .ok (.invokevirtual 164, 3) := by decide +kernel
theorem dX11_lived_99 : decode cX11_lived 99 = .ok (.ireturn, 1) := by decide +kernel
theorem dX11_lived_100 : decode cX11_lived 100 = .ok (.aload_n 0, 1) := by decide +kernel
theorem dX11_lived_101 : decode cX11_lived 101 = .ok (.aload_n 0, 1) := by decide +kernel
theorem dX11_lived_102 : decode cX11_lived 102 = .ok (.getfield 69, 3) := by decide +kernel
theorem dX11_lived_105 : decode cX11_lived 105 = .ok (.getfield 391, 3) := by decide +kernel
theorem dX11_lived_108 : decode cX11_lived 108 = .ok (.invokevirtual 164, 3) := by decide +kernel
theorem dX11_lived_111 : decode cX11_lived 111 = .ok (.ireturn, 1) := by decide +kernel
theorem dX11_lived_112 : decode cX11_lived 112 = .ok (.aload_n 0, 1) := by decide +kernel
theorem dX11_lived_113 : decode cX11_lived 113 = .ok (.aload_n 0, 1) := by decide +kernel
theorem dX11_lived_114 : decode cX11_lived 114 = .ok (.getfield 69, 3) := by decide +kernel
theorem dX11_lived_117 : decode cX11_lived 117 = .ok (.getfield 392, 3) := by decide +kernel
theorem dX11_lived_120 : decode cX11_lived 120 = .ok (.invokevirtual 164, 3) := by decide +kernel
theorem dX11_lived_123 : decode cX11_lived 123 = .ok (.ireturn, 1) := by decide +kernel
def F_X11_lived (w : Nat) (M : z_Mem) (a1 : Int32) : Option (Int32 × z_Mem) :=
  (F_X11_isWithin w M a1 (0 : Int32) (4 : Int32)).bind fun q1 =>
  if q1.1 = true then
  if (z_bb (q1.2.1 64 8)) = true then
  if a1 = (0 : Int32) then
  (F_X11_answer w q1.2 (q1.2.1 64 3)).bind fun q6 =>
  some (q6.1, q6.2)
  else
  if a1 = (1 : Int32) then
  (F_X11_answer w q1.2 (q1.2.1 64 4)).bind fun q9 =>
  some (q9.1, q9.2)
  else
  if a1 = (2 : Int32) then
  (F_X11_answer w q1.2 (q1.2.1 64 5)).bind fun q12 =>
  some (q12.1, q12.2)
  else
  if a1 = (3 : Int32) then
  (F_X11_answer w q1.2 (q1.2.1 64 6)).bind fun q15 =>
  some (q15.1, q15.2)
  else
  (F_X11_answer w q1.2 (q1.2.1 64 7)).bind fun q17 =>
  some (q17.1, q17.2)
  else
  (F_X11_refuse w q1.2 (8 : Int32)).bind fun q19 =>
  some (q19.1, q19.2)
  else
  (F_X11_refuse w q1.2 (5 : Int32)).bind fun q21 =>
  some (q21.1, q21.2)
set_option maxHeartbeats 4000000 in
theorem A_X11_lived {w : Nat} {M : z_Mem} {a1 : Int32} {r : Int32} {M' : z_Mem} {Q : Option Value → z_Mem → Prop} (h : F_X11_lived w M a1 = some (r, M')) (hq : Q (some (.int r)) M') : z_Cl 1 mX11_lived [.ref 2, .int a1] M Q := by
  refine g_in (ls := [some (.ref 2), some (.int a1)]) rfl ?_
  unfold F_X11_lived at h
  refine g_iload_n dX11_lived_0 rfl rfl ?_
  refine g_iconst (v := (0 : Int32)) dX11_lived_1 (by decide) ?_
  refine g_iconst (v := (4 : Int32)) dX11_lived_2 (by decide) ?_
  obtain ⟨q1, e2, h⟩ := z_bd h
  refine g_callS (as := [.int a1, .int (0 : Int32), .int (4 : Int32)]) (rest := []) (c := mX11_isWithin) (k1 := 0) dX11_lived_3 rfl rfl rfl rfl rfl (Nat.le_of_ble_eq_true rfl) (Nat.le_of_ble_eq_true rfl) (by decide) ?_
  refine A_X11_isWithin e2 ?_
  show z_G none 1 mX11_lived 6 [some (.ref 2), some (.int a1)] [.int (z_tb q1.1)] q1.2 Q
  refine g_if_ne (t := 15) dX11_lived_6 (by decide) (fun c3 => ?_) (fun c3 => ?_)
  · replace h := z_ift (z_tbn.mp c3) h
    refine g_aload_n dX11_lived_15 rfl rfl ?_
    refine g_get (a := 0) (v := .ref 66) dX11_lived_16 f_11_69 sh_0 rfl rfl ?_
    refine g_get (a := 64) (v := .int (z_tb (z_bb (q1.2.1 64 8)))) dX11_lived_19 f_11_382 sh_64 rfl z_fvZ ?_
    refine g_if_ne (t := 32) dX11_lived_22 (by decide) (fun c4 => ?_) (fun c4 => ?_)
    · replace h := z_ift (z_tbn.mp c4) h
      refine g_iload_n dX11_lived_32 rfl rfl ?_
      by_cases s5 : a1 = (0 : Int32)
      · replace h := z_ift s5 h
        refine g_top (v := (0 : Int32)) s5 ?_
        refine g_tsIn (off := 31) (t := 64) dX11_lived_33 (by decide) (by decide) (by decide) ?_
        refine g_aload_n dX11_lived_64 rfl rfl ?_
        refine g_aload_n dX11_lived_65 rfl rfl ?_
        refine g_get (a := 0) (v := .ref 66) dX11_lived_66 f_11_69 sh_0 rfl rfl ?_
        refine g_get (a := 64) (v := .int (q1.2.1 64 3)) dX11_lived_69 f_11_385 sh_64 rfl rfl ?_
        obtain ⟨q6, e7, h⟩ := z_bd h
        refine g_callV (a := 0) (as := [.int (q1.2.1 64 3)]) (rest := []) (c := mX11_answer) (k1 := 0) dX11_lived_72 rfl rfl rfl sh_0 rfl rfl (Nat.le_of_ble_eq_true rfl) (Nat.le_of_ble_eq_true rfl) (by decide) ?_
        refine A_X11_answer e7 ?_
        show z_G none 1 mX11_lived 75 [some (.ref 2), some (.int a1)] [.int q6.1] q6.2 Q
        cases h
        exact g_iret dX11_lived_75 rfl rfl hq
      replace h := z_iff s5 h
      by_cases s8 : a1 = (1 : Int32)
      · replace h := z_ift s8 h
        refine g_top (v := (1 : Int32)) s8 ?_
        refine g_tsIn (off := 43) (t := 76) dX11_lived_33 (by decide) (by decide) (by decide) ?_
        refine g_aload_n dX11_lived_76 rfl rfl ?_
        refine g_aload_n dX11_lived_77 rfl rfl ?_
        refine g_get (a := 0) (v := .ref 66) dX11_lived_78 f_11_69 sh_0 rfl rfl ?_
        refine g_get (a := 64) (v := .int (q1.2.1 64 4)) dX11_lived_81 f_11_388 sh_64 rfl rfl ?_
        obtain ⟨q9, e10, h⟩ := z_bd h
        refine g_callV (a := 0) (as := [.int (q1.2.1 64 4)]) (rest := []) (c := mX11_answer) (k1 := 0) dX11_lived_84 rfl rfl rfl sh_0 rfl rfl (Nat.le_of_ble_eq_true rfl) (Nat.le_of_ble_eq_true rfl) (by decide) ?_
        refine A_X11_answer e10 ?_
        show z_G none 1 mX11_lived 87 [some (.ref 2), some (.int a1)] [.int q9.1] q9.2 Q
        cases h
        exact g_iret dX11_lived_87 rfl rfl hq
      replace h := z_iff s8 h
      by_cases s11 : a1 = (2 : Int32)
      · replace h := z_ift s11 h
        refine g_top (v := (2 : Int32)) s11 ?_
        refine g_tsIn (off := 55) (t := 88) dX11_lived_33 (by decide) (by decide) (by decide) ?_
        refine g_aload_n dX11_lived_88 rfl rfl ?_
        refine g_aload_n dX11_lived_89 rfl rfl ?_
        refine g_get (a := 0) (v := .ref 66) dX11_lived_90 f_11_69 sh_0 rfl rfl ?_
        refine g_get (a := 64) (v := .int (q1.2.1 64 5)) dX11_lived_93 f_11_390 sh_64 rfl rfl ?_
        obtain ⟨q12, e13, h⟩ := z_bd h
        refine g_callV (a := 0) (as := [.int (q1.2.1 64 5)]) (rest := []) (c := mX11_answer) (k1 := 0) dX11_lived_96 rfl rfl rfl sh_0 rfl rfl (Nat.le_of_ble_eq_true rfl) (Nat.le_of_ble_eq_true rfl) (by decide) ?_
        refine A_X11_answer e13 ?_
        show z_G none 1 mX11_lived 99 [some (.ref 2), some (.int a1)] [.int q12.1] q12.2 Q
        cases h
        exact g_iret dX11_lived_99 rfl rfl hq
      replace h := z_iff s11 h
      by_cases s14 : a1 = (3 : Int32)
      · replace h := z_ift s14 h
        refine g_top (v := (3 : Int32)) s14 ?_
        refine g_tsIn (off := 67) (t := 100) dX11_lived_33 (by decide) (by decide) (by decide) ?_
        refine g_aload_n dX11_lived_100 rfl rfl ?_
        refine g_aload_n dX11_lived_101 rfl rfl ?_
        refine g_get (a := 0) (v := .ref 66) dX11_lived_102 f_11_69 sh_0 rfl rfl ?_
        refine g_get (a := 64) (v := .int (q1.2.1 64 6)) dX11_lived_105 f_11_391 sh_64 rfl rfl ?_
        obtain ⟨q15, e16, h⟩ := z_bd h
        refine g_callV (a := 0) (as := [.int (q1.2.1 64 6)]) (rest := []) (c := mX11_answer) (k1 := 0) dX11_lived_108 rfl rfl rfl sh_0 rfl rfl (Nat.le_of_ble_eq_true rfl) (Nat.le_of_ble_eq_true rfl) (by decide) ?_
        refine A_X11_answer e16 ?_
        show z_G none 1 mX11_lived 111 [some (.ref 2), some (.int a1)] [.int q15.1] q15.2 Q
        cases h
        exact g_iret dX11_lived_111 rfl rfl hq
      replace h := z_iff s14 h
      refine g_tsOut (t := 112) dX11_lived_33 (by have t0 := z_neL (n := 0) (by decide) s5; have t1 := z_neL (n := 1) (by decide) s8; have t2 := z_neL (n := 2) (by decide) s11; have t3 := z_neL (n := 3) (by decide) s14; omega) (by decide) ?_
      refine g_aload_n dX11_lived_112 rfl rfl ?_
      refine g_aload_n dX11_lived_113 rfl rfl ?_
      refine g_get (a := 0) (v := .ref 66) dX11_lived_114 f_11_69 sh_0 rfl rfl ?_
      refine g_get (a := 64) (v := .int (q1.2.1 64 7)) dX11_lived_117 f_11_392 sh_64 rfl rfl ?_
      obtain ⟨q17, e18, h⟩ := z_bd h
      refine g_callV (a := 0) (as := [.int (q1.2.1 64 7)]) (rest := []) (c := mX11_answer) (k1 := 0) dX11_lived_120 rfl rfl rfl sh_0 rfl rfl (Nat.le_of_ble_eq_true rfl) (Nat.le_of_ble_eq_true rfl) (by decide) ?_
      refine A_X11_answer e18 ?_
      show z_G none 1 mX11_lived 123 [some (.ref 2), some (.int a1)] [.int q17.1] q17.2 Q
      cases h
      exact g_iret dX11_lived_123 rfl rfl hq
    · replace h := z_iff (z_tb0.mp c4) h
      refine g_aload_n dX11_lived_25 rfl rfl ?_
      refine g_bipush (v := (8 : Int32)) dX11_lived_26 (by decide) ?_
      obtain ⟨q19, e20, h⟩ := z_bd h
      refine g_callV (a := 0) (as := [.int (8 : Int32)]) (rest := []) (c := mX11_refuse) (k1 := 0) dX11_lived_28 rfl rfl rfl sh_0 rfl rfl (Nat.le_of_ble_eq_true rfl) (Nat.le_of_ble_eq_true rfl) (by decide) ?_
      refine A_X11_refuse e20 ?_
      show z_G none 1 mX11_lived 31 [some (.ref 2), some (.int a1)] [.int q19.1] q19.2 Q
      cases h
      exact g_iret dX11_lived_31 rfl rfl hq
  · replace h := z_iff (z_tb0.mp c3) h
    refine g_aload_n dX11_lived_9 rfl rfl ?_
    refine g_iconst (v := (5 : Int32)) dX11_lived_10 (by decide) ?_
    obtain ⟨q21, e22, h⟩ := z_bd h
    refine g_callV (a := 0) (as := [.int (5 : Int32)]) (rest := []) (c := mX11_refuse) (k1 := 0) dX11_lived_11 rfl rfl rfl sh_0 rfl rfl (Nat.le_of_ble_eq_true rfl) (Nat.le_of_ble_eq_true rfl) (by decide) ?_
    refine A_X11_refuse e22 ?_
    show z_G none 1 mX11_lived 14 [some (.ref 2), some (.int a1)] [.int q21.1] q21.2 Q
    cases h
    exact g_iret dX11_lived_14 rfl rfl hq
theorem dX11_mean_0 : decode cX11_mean 0 = .ok (.iload_n 1, 1) := by decide +kernel
theorem dX11_mean_1 : decode cX11_mean 1 = .ok (.iconst 0, 1) := by decide +kernel
theorem dX11_mean_2 : decode cX11_mean 2 = .ok (.sipush 9999, 3) := by decide +kernel
theorem dX11_mean_5 : decode cX11_mean 5 = .ok (.invokestatic 283, 3) := by decide +kernel
theorem dX11_mean_8 : decode cX11_mean 8 = .ok (.ifCond .eq 24, 3) := by decide +kernel
theorem dX11_mean_11 : decode cX11_mean 11 = .ok (.iload_n 2, 1) := by decide +kernel
theorem dX11_mean_12 : decode cX11_mean 12 = .ok (.iconst 1, 1) := by decide +kernel
theorem dX11_mean_13 : decode cX11_mean 13 = .ok (.bipush 20, 2) := by decide +kernel
theorem dX11_mean_15 : decode cX11_mean 15 = .ok (.invokestatic 283, 3) := by decide +kernel
theorem dX11_mean_18 : decode cX11_mean 18 = .ok (.ifCond .eq 14, 3) := by decide +kernel
theorem dX11_mean_21 : decode cX11_mean 21 = .ok (.iload_n 1, 1) := by decide +kernel
theorem dX11_mean_22 : decode cX11_mean 22 = .ok (.iload_n 2, 1) := by decide +kernel
theorem dX11_mean_23 : decode cX11_mean 23 = .ok (.iadd, 1) := by decide +kernel
theorem dX11_mean_24 : decode cX11_mean 24 = .ok (.iconst 1, 1) := by decide +kernel
theorem dX11_mean_25 : decode cX11_mean 25 = .ok (.isub, 1) := by decide +kernel
theorem dX11_mean_26 : decode cX11_mean 26 = .ok (.sipush 9999, 3) := by decide +kernel
theorem dX11_mean_29 : decode cX11_mean 29 = .ok (.if_icmp .le 9, 3) := by decide +kernel
theorem dX11_mean_32 : decode cX11_mean 32 = .ok (.aload_n 0, 1) := by decide +kernel
theorem dX11_mean_33 : decode cX11_mean 33 = .ok (.iconst 5, 1) := by decide +kernel
theorem dX11_mean_34 : decode cX11_mean 34 = .ok (.invokevirtual 94, 3) := by decide +kernel
theorem dX11_mean_37 : decode cX11_mean 37 = .ok (.ireturn, 1) := by decide +kernel
theorem dX11_mean_38 : decode cX11_mean 38 = .ok (.aload_n 0, 1) := by decide +kernel
theorem dX11_mean_39 : decode cX11_mean 39 = .ok (.getfield 26, 3) := by decide +kernel
theorem dX11_mean_42 : decode cX11_mean 42 = .ok (.getfield 44, 3) := by decide +kernel
theorem dX11_mean_45 : decode cX11_mean 45 = .ok (.getfield 375, 3) := by decide +kernel
theorem dX11_mean_48 : decode cX11_mean 48 = .ok (.ifCond .ne 10, 3) := by decide +kernel
theorem dX11_mean_51 : decode cX11_mean 51 = .ok (.aload_n 0, 1) := by decide +kernel
theorem dX11_mean_52 : decode cX11_mean 52 = .ok (.bipush 8, 2) := by decide +kernel
theorem dX11_mean_54 : decode cX11_mean 54 = .ok (.invokevirtual 94, 3) := by decide +kernel
theorem dX11_mean_57 : decode cX11_mean 57 = .ok (.ireturn, 1) := by decide +kernel
theorem dX11_mean_58 : decode cX11_mean 58 = .ok (.lconst 0, 1) := by decide +kernel
theorem dX11_mean_59 : decode cX11_mean 59 = .ok (.lstore_n 3, 1) := by decide +kernel
theorem dX11_mean_60 : decode cX11_mean 60 = .ok (.iconst 0, 1) := by decide +kernel
theorem dX11_mean_61 : decode cX11_mean 61 = .ok (.istore 5, 2) := by decide +kernel
theorem dX11_mean_63 : decode cX11_mean 63 = .ok (.iload 5, 2) := by decide +kernel
theorem dX11_mean_65 : decode cX11_mean 65 = .ok (.iload_n 2, 1) := by decide +kernel
theorem dX11_mean_66 : decode cX11_mean 66 = .ok (.if_icmp .ge 46, 3) := by decide +kernel
theorem dX11_mean_69 : decode cX11_mean 69 = .ok (.aload_n 0, 1) := by decide +kernel
theorem dX11_mean_70 : decode cX11_mean 70 = .ok (.getfield 30, 3) := by decide +kernel
theorem dX11_mean_73 : decode cX11_mean 73 = .ok (.aload_n 0, 1) := by decide +kernel
theorem dX11_mean_74 : decode cX11_mean 74 = .ok (.getfield 26, 3) := by decide +kernel
theorem dX11_mean_77 : decode cX11_mean 77 = .ok (.invokevirtual 151, 3) := by decide +kernel
theorem dX11_mean_80 : decode cX11_mean 80 = .ok (.aload_n 0, 1) := by decide +kernel
theorem dX11_mean_81 : decode cX11_mean 81 = .ok (.getfield 73, 3) := by decide +kernel
theorem dX11_mean_84 : decode cX11_mean 84 = .ok (.aload_n 0, 1) := by decide +kernel
theorem dX11_mean_85 : decode cX11_mean 85 = .ok (.getfield 30, 3) := by decide +kernel
theorem dX11_mean_88 : decode cX11_mean 88 = .ok (.iload_n 1, 1) := by decide +kernel
theorem dX11_mean_89 : decode cX11_mean 89 = .ok (.iload 5, 2) := by decide +kernel
theorem dX11_mean_91 : decode cX11_mean 91 = .ok (.iadd, 1) := by decide +kernel
theorem dX11_mean_92 : decode cX11_mean 92 = .ok (.invokevirtual 377, 3) := by decide +kernel
theorem dX11_mean_95 : decode cX11_mean 95 = .ok (.lload_n 3, 1) := by decide +kernel
theorem dX11_mean_96 : decode cX11_mean 96 = .ok (.aload_n 0, 1) := by decide +kernel
theorem dX11_mean_97 : decode cX11_mean 97 = .ok (.getfield 30, 3) := by decide +kernel
theorem dX11_mean_100 : decode cX11_mean 100 = .ok (.invokevirtual 279, 3) := by decide +kernel
theorem dX11_mean_103 : decode cX11_mean 103 = .ok (.i2l, 1) := by decide +kernel
theorem dX11_mean_104 : decode cX11_mean 104 = .ok (.ladd, 1) := by decide +kernel
theorem dX11_mean_105 : decode cX11_mean 105 = .ok (.lstore_n 3, 1) := by decide +kernel
theorem dX11_mean_106 : decode cX11_mean 106 = .ok (.iinc 5 1, 3) := by decide +kernel
theorem dX11_mean_109 : decode cX11_mean 109 = .ok (.goto (-46), 3) := by decide +kernel
theorem dX11_mean_112 : decode cX11_mean 112 = .ok (.aload_n 0, 1) := by decide +kernel
theorem dX11_mean_113 : decode cX11_mean 113 = .ok (.lload_n 3, 1) := by decide +kernel
theorem dX11_mean_114 : decode cX11_mean 114 = .ok (.iload_n 2, 1) := by decide +kernel
theorem dX11_mean_115 : decode cX11_mean 115 = .ok (.i2l, 1) := by decide +kernel
theorem dX11_mean_116 : decode cX11_mean 116 = .ok (.invokevirtual 371, 3) := by decide +kernel
theorem dX11_mean_119 : decode cX11_mean 119 = .ok (.ireturn, 1) := by decide +kernel
def L_X11_mean (w : Nat) : Nat → z_Mem → Int32 → Int32 → Int64 → Int32 → Option (Bool × z_Mem)
  | 0, _, _, _, _, _ => none
  | c + 1, M, x1, x2, x3, x5 =>
    if x2 ≤ x5 then
    (F_X11_tellFraction w M x3 x2.toInt64).bind fun q2 =>
    some (q2.1, q2.2)
    else
    (F_X3_copyFrom w M 30 7).bind fun q4 =>
    (F_X2_run w q4.2 66 30 (x1 + x5)).bind fun q6 =>
    (F_X3_bothChests w q6.2 30).bind fun q8 =>
    L_X11_mean w c q8.2 x1 x2 (x3 + q8.1.toInt64) (x5 + (1 : Int32))
set_option maxHeartbeats 4000000 in
theorem AL_X11_mean {w : Nat} : ∀ (c : Nat), (∀ (M : z_Mem) (x1 : Int32) (x2 : Int32) (x3 : Int64) (x5 : Int32) (r : Bool) (M' : z_Mem) (Q : Option Value → z_Mem → Prop), L_X11_mean w c M x1 x2 x3 x5 = some (r, M') → Q (some (.int (z_tb r))) M' → z_G none 7 mX11_mean 63 [some (.ref 2), some (.int x1), some (.int x2), some (.long x3), none, some (.int x5)] [] M Q) := by
  intro c
  induction c with
  | zero => exact (fun M x1 x2 x3 x5 r M' Q h hq => by rw [L_X11_mean] at h; cases h)
  | succ c ih =>
    intro M x1 x2 x3 x5 r M' Q h hq
    rw [L_X11_mean] at h
    refine g_iload dX11_mean_63 rfl ?_
    refine g_iload_n dX11_mean_65 rfl rfl ?_
    refine g_ic_ge (t := 112) dX11_mean_66 (by decide) (fun c1 => ?_) (fun c1 => ?_)
    · replace h := z_ift c1 h
      refine g_aload_n dX11_mean_112 rfl rfl ?_
      refine g_lload_n dX11_mean_113 rfl rfl ?_
      refine g_iload_n dX11_mean_114 rfl rfl ?_
      refine g_i2l dX11_mean_115 ?_
      obtain ⟨q2, e3, h⟩ := z_bd h
      refine g_callV (a := 0) (as := [.long x3, .long x2.toInt64]) (rest := []) (c := mX11_tellFraction) (k1 := 1) dX11_mean_116 rfl rfl rfl sh_0 rfl rfl (Nat.le_of_ble_eq_true rfl) (Nat.le_of_ble_eq_true rfl) (by decide) ?_
      refine A_X11_tellFraction e3 ?_
      show z_G none 7 mX11_mean 119 [some (.ref 2), some (.int x1), some (.int x2), some (.long x3), none, some (.int x5)] [.int (z_tb q2.1)] q2.2 Q
      cases h
      exact g_iret dX11_mean_119 rfl nb_tb hq
    · replace h := z_iff c1 h
      refine g_aload_n dX11_mean_69 rfl rfl ?_
      refine g_get (a := 0) (v := .ref 32) dX11_mean_70 f_11_30 sh_0 rfl rfl ?_
      refine g_aload_n dX11_mean_73 rfl rfl ?_
      refine g_get (a := 0) (v := .ref 9) dX11_mean_74 f_11_26 sh_0 rfl rfl ?_
      obtain ⟨q4, e5, h⟩ := z_bd h
      refine g_callV (a := 30) (as := [.ref 9]) (rest := []) (c := mX3_copyFrom) (k1 := 2) dX11_mean_77 rfl rfl rfl sh_30 rfl rfl (Nat.le_of_ble_eq_true rfl) (Nat.le_of_ble_eq_true rfl) (by decide) ?_
      refine A_X3_copyFrom z_par_30 z_par_7 e5 ?_
      show z_G none 7 mX11_mean 80 [some (.ref 2), some (.int x1), some (.int x2), some (.long x3), none, some (.int x5)] [] q4.2 Q
      refine g_aload_n dX11_mean_80 rfl rfl ?_
      refine g_get (a := 0) (v := .ref 68) dX11_mean_81 f_11_73 sh_0 rfl rfl ?_
      refine g_aload_n dX11_mean_84 rfl rfl ?_
      refine g_get (a := 0) (v := .ref 32) dX11_mean_85 f_11_30 sh_0 rfl rfl ?_
      refine g_iload_n dX11_mean_88 rfl rfl ?_
      refine g_iload dX11_mean_89 rfl ?_
      refine g_iadd dX11_mean_91 ?_
      obtain ⟨q6, e7, h⟩ := z_bd h
      refine g_callV (a := 66) (as := [.ref 32, .int (x1 + x5)]) (rest := []) (c := mX2_run) (k1 := 6) dX11_mean_92 rfl rfl rfl sh_66 rfl rfl (Nat.le_of_ble_eq_true rfl) (Nat.le_of_ble_eq_true rfl) (by decide) ?_
      refine A_X2_run z_lif_66 z_par_30 e7 ?_
      show z_G none 7 mX11_mean 95 [some (.ref 2), some (.int x1), some (.int x2), some (.long x3), none, some (.int x5)] [] q6.2 Q
      refine g_lload_n dX11_mean_95 rfl rfl ?_
      refine g_aload_n dX11_mean_96 rfl rfl ?_
      refine g_get (a := 0) (v := .ref 32) dX11_mean_97 f_11_30 sh_0 rfl rfl ?_
      obtain ⟨q8, e9, h⟩ := z_bd h
      refine g_callV (a := 30) (as := []) (rest := [.long x3]) (c := mX3_bothChests) (k1 := 0) dX11_mean_100 rfl rfl rfl sh_30 rfl rfl (Nat.le_of_ble_eq_true rfl) (Nat.le_of_ble_eq_true rfl) (by decide) ?_
      refine A_X3_bothChests z_par_30 e9 ?_
      show z_G none 7 mX11_mean 103 [some (.ref 2), some (.int x1), some (.int x2), some (.long x3), none, some (.int x5)] [.int q8.1, .long x3] q8.2 Q
      refine g_i2l dX11_mean_103 ?_
      refine g_ladd dX11_mean_104 ?_
      refine g_lstore_n (ls' := [some (.ref 2), some (.int x1), some (.int x2), some (.long (x3 + q8.1.toInt64)), none, some (.int x5)]) dX11_mean_105 rfl (Nat.le_of_ble_eq_true rfl) rfl ?_
      refine g_iinc (v := x5 + (1 : Int32)) (ls' := [some (.ref 2), some (.int x1), some (.int x2), some (.long (x3 + q8.1.toInt64)), none, some (.int (x5 + (1 : Int32)))]) dX11_mean_106 rfl rfl rfl ?_
      refine g_goto (t := 63) dX11_mean_109 (by decide) ?_
      exact g_sub (z_sub_s (z_sub_s (z_sub_s (z_sub_s (z_sub_n (z_sub_s z_sub_nil)))))) (ih _ _ _ _ _ _ _ _ h hq)
def F_X11_mean (w : Nat) (M : z_Mem) (a1 : Int32) (a2 : Int32) : Option (Bool × z_Mem) :=
  (F_X11_isWithin w M a1 (0 : Int32) (9999 : Int32)).bind fun q10 =>
  if q10.1 = true then
  (F_X11_isWithin w q10.2 a2 (1 : Int32) (20 : Int32)).bind fun q15 =>
  if q15.1 = true then
  if ((a1 + a2) - (1 : Int32)) ≤ (9999 : Int32) then
  if (z_bb (q15.2.1 24 7)) = true then
  L_X11_mean w w q15.2 a1 a2 (0 : Int64) (0 : Int32)
  else
  (F_X11_deny w q15.2 (8 : Int32)).bind fun q22 =>
  some (q22.1, q22.2)
  else
  (F_X11_deny w q15.2 (5 : Int32)).bind fun q24 =>
  some (q24.1, q24.2)
  else
  (F_X11_deny w q15.2 (5 : Int32)).bind fun q18 =>
  some (q18.1, q18.2)
  else
  (F_X11_deny w q10.2 (5 : Int32)).bind fun q13 =>
  some (q13.1, q13.2)
set_option maxHeartbeats 4000000 in
theorem A_X11_mean {w : Nat} {M : z_Mem} {a1 : Int32} {a2 : Int32} {r : Bool} {M' : z_Mem} {Q : Option Value → z_Mem → Prop} (h : F_X11_mean w M a1 a2 = some (r, M')) (hq : Q (some (.int (z_tb r))) M') : z_Cl 7 mX11_mean [.ref 2, .int a1, .int a2] M Q := by
  refine g_in (ls := [some (.ref 2), some (.int a1), some (.int a2), none, none, none]) rfl ?_
  unfold F_X11_mean at h
  refine g_iload_n dX11_mean_0 rfl rfl ?_
  refine g_iconst (v := (0 : Int32)) dX11_mean_1 (by decide) ?_
  refine g_sipush (v := (9999 : Int32)) dX11_mean_2 (by decide) ?_
  obtain ⟨q10, e11, h⟩ := z_bd h
  refine g_callS (as := [.int a1, .int (0 : Int32), .int (9999 : Int32)]) (rest := []) (c := mX11_isWithin) (k1 := 0) dX11_mean_5 rfl rfl rfl rfl rfl (Nat.le_of_ble_eq_true rfl) (Nat.le_of_ble_eq_true rfl) (by decide) ?_
  refine A_X11_isWithin e11 ?_
  show z_G none 7 mX11_mean 8 [some (.ref 2), some (.int a1), some (.int a2), none, none, none] [.int (z_tb q10.1)] q10.2 Q
  refine g_if_eq (t := 32) dX11_mean_8 (by decide) (fun c12 => ?_) (fun c12 => ?_)
  · replace h := z_iff (z_tb0.mp c12) h
    refine g_aload_n dX11_mean_32 rfl rfl ?_
    refine g_iconst (v := (5 : Int32)) dX11_mean_33 (by decide) ?_
    obtain ⟨q13, e14, h⟩ := z_bd h
    refine g_callV (a := 0) (as := [.int (5 : Int32)]) (rest := []) (c := mX11_deny) (k1 := 0) dX11_mean_34 rfl rfl rfl sh_0 rfl rfl (Nat.le_of_ble_eq_true rfl) (Nat.le_of_ble_eq_true rfl) (by decide) ?_
    refine A_X11_deny e14 ?_
    show z_G none 7 mX11_mean 37 [some (.ref 2), some (.int a1), some (.int a2), none, none, none] [.int (z_tb q13.1)] q13.2 Q
    cases h
    exact g_iret dX11_mean_37 rfl nb_tb hq
  · replace h := z_ift (z_tbn.mp c12) h
    refine g_iload_n dX11_mean_11 rfl rfl ?_
    refine g_iconst (v := (1 : Int32)) dX11_mean_12 (by decide) ?_
    refine g_bipush (v := (20 : Int32)) dX11_mean_13 (by decide) ?_
    obtain ⟨q15, e16, h⟩ := z_bd h
    refine g_callS (as := [.int a2, .int (1 : Int32), .int (20 : Int32)]) (rest := []) (c := mX11_isWithin) (k1 := 0) dX11_mean_15 rfl rfl rfl rfl rfl (Nat.le_of_ble_eq_true rfl) (Nat.le_of_ble_eq_true rfl) (by decide) ?_
    refine A_X11_isWithin e16 ?_
    show z_G none 7 mX11_mean 18 [some (.ref 2), some (.int a1), some (.int a2), none, none, none] [.int (z_tb q15.1)] q15.2 Q
    refine g_if_eq (t := 32) dX11_mean_18 (by decide) (fun c17 => ?_) (fun c17 => ?_)
    · replace h := z_iff (z_tb0.mp c17) h
      refine g_aload_n dX11_mean_32 rfl rfl ?_
      refine g_iconst (v := (5 : Int32)) dX11_mean_33 (by decide) ?_
      obtain ⟨q18, e19, h⟩ := z_bd h
      refine g_callV (a := 0) (as := [.int (5 : Int32)]) (rest := []) (c := mX11_deny) (k1 := 0) dX11_mean_34 rfl rfl rfl sh_0 rfl rfl (Nat.le_of_ble_eq_true rfl) (Nat.le_of_ble_eq_true rfl) (by decide) ?_
      refine A_X11_deny e19 ?_
      show z_G none 7 mX11_mean 37 [some (.ref 2), some (.int a1), some (.int a2), none, none, none] [.int (z_tb q18.1)] q18.2 Q
      cases h
      exact g_iret dX11_mean_37 rfl nb_tb hq
    · replace h := z_ift (z_tbn.mp c17) h
      refine g_iload_n dX11_mean_21 rfl rfl ?_
      refine g_iload_n dX11_mean_22 rfl rfl ?_
      refine g_iadd dX11_mean_23 ?_
      refine g_iconst (v := (1 : Int32)) dX11_mean_24 (by decide) ?_
      refine g_isub dX11_mean_25 ?_
      refine g_sipush (v := (9999 : Int32)) dX11_mean_26 (by decide) ?_
      refine g_ic_le (t := 38) dX11_mean_29 (by decide) (fun c20 => ?_) (fun c20 => ?_)
      · replace h := z_ift c20 h
        refine g_aload_n dX11_mean_38 rfl rfl ?_
        refine g_get (a := 0) (v := .ref 9) dX11_mean_39 f_11_26 sh_0 rfl rfl ?_
        refine g_get (a := 7) (v := .ref 26) dX11_mean_42 f_11_44 sh_7 rfl rfl ?_
        refine g_get (a := 24) (v := .int (z_tb (z_bb (q15.2.1 24 7)))) dX11_mean_45 f_11_375 sh_24 rfl z_fvZ ?_
        refine g_if_ne (t := 58) dX11_mean_48 (by decide) (fun c21 => ?_) (fun c21 => ?_)
        · replace h := z_ift (z_tbn.mp c21) h
          refine g_lconst (v := (0 : Int64)) dX11_mean_58 (by decide) ?_
          refine g_lstore_n (ls' := [some (.ref 2), some (.int a1), some (.int a2), some (.long (0 : Int64)), none, none]) dX11_mean_59 rfl (Nat.le_of_ble_eq_true rfl) rfl ?_
          refine g_iconst (v := (0 : Int32)) dX11_mean_60 (by decide) ?_
          refine g_istore (ls' := [some (.ref 2), some (.int a1), some (.int a2), some (.long (0 : Int64)), none, some (.int (0 : Int32))]) dX11_mean_61 (Nat.le_of_ble_eq_true rfl) rfl ?_
          exact g_sub (z_sub_s (z_sub_s (z_sub_s (z_sub_s (z_sub_n (z_sub_s z_sub_nil)))))) ((AL_X11_mean (w := w) w) _ _ _ _ _ _ _ _ h hq)
        · replace h := z_iff (z_tb0.mp c21) h
          refine g_aload_n dX11_mean_51 rfl rfl ?_
          refine g_bipush (v := (8 : Int32)) dX11_mean_52 (by decide) ?_
          obtain ⟨q22, e23, h⟩ := z_bd h
          refine g_callV (a := 0) (as := [.int (8 : Int32)]) (rest := []) (c := mX11_deny) (k1 := 0) dX11_mean_54 rfl rfl rfl sh_0 rfl rfl (Nat.le_of_ble_eq_true rfl) (Nat.le_of_ble_eq_true rfl) (by decide) ?_
          refine A_X11_deny e23 ?_
          show z_G none 7 mX11_mean 57 [some (.ref 2), some (.int a1), some (.int a2), none, none, none] [.int (z_tb q22.1)] q22.2 Q
          cases h
          exact g_iret dX11_mean_57 rfl nb_tb hq
      · replace h := z_iff c20 h
        refine g_aload_n dX11_mean_32 rfl rfl ?_
        refine g_iconst (v := (5 : Int32)) dX11_mean_33 (by decide) ?_
        obtain ⟨q24, e25, h⟩ := z_bd h
        refine g_callV (a := 0) (as := [.int (5 : Int32)]) (rest := []) (c := mX11_deny) (k1 := 0) dX11_mean_34 rfl rfl rfl sh_0 rfl rfl (Nat.le_of_ble_eq_true rfl) (Nat.le_of_ble_eq_true rfl) (by decide) ?_
        refine A_X11_deny e25 ?_
        show z_G none 7 mX11_mean 37 [some (.ref 2), some (.int a1), some (.int a2), none, none, none] [.int (z_tb q24.1)] q24.2 Q
        cases h
        exact g_iret dX11_mean_37 rfl nb_tb hq
theorem dX11_mark_0 : decode cX11_mark 0 = .ok (.aload_n 0, 1) := by decide +kernel
theorem dX11_mark_1 : decode cX11_mark 1 = .ok (.getfield 395, 3) := by decide +kernel
theorem dX11_mark_4 : decode cX11_mark 4 = .ok (.iconst 3, 1) := by decide +kernel
theorem dX11_mark_5 : decode cX11_mark 5 = .ok (.if_icmp .lt 10, 3) := by decide +kernel
theorem dX11_mark_8 : decode cX11_mark 8 = .ok (.aload_n 0, 1) := by decide +kernel
theorem dX11_mark_9 : decode cX11_mark 9 = .ok (.bipush 7, 2) := by decide +kernel
theorem dX11_mark_11 : decode cX11_mark 11 = .ok (.invokevirtual 113, 3) := by decide +kernel
theorem dX11_mark_14 : decode cX11_mark 14 = .ok (.ireturn, 1) := by decide +kernel
theorem dX11_mark_15 : decode cX11_mark 15 = .ok (.aload_n 0, 1) := by decide +kernel
theorem dX11_mark_16 : decode cX11_mark 16 = .ok (.getfield 55, 3) := by decide +kernel
theorem dX11_mark_19 : decode cX11_mark 19 = .ok (.aload_n 0, 1) := by decide +kernel
theorem dX11_mark_20 : decode cX11_mark 20 = .ok (.getfield 395, 3) := by decide +kernel
theorem dX11_mark_23 : decode cX11_mark 23 = .ok (.aaload, 1) := by decide +kernel
theorem dX11_mark_24 : decode cX11_mark 24 = .ok (.aload_n 0, 1) := by decide +kernel
theorem dX11_mark_25 : decode cX11_mark 25 = .ok (.getfield 26, 3) := by decide +kernel
theorem dX11_mark_28 : decode cX11_mark 28 = .ok (.invokevirtual 151, 3) := by decide +kernel
theorem dX11_mark_31 : decode cX11_mark 31 = .ok (.aload_n 0, 1) := by decide +kernel
theorem dX11_mark_32 : decode cX11_mark 32 = .ok (.dup, 1) := by decide +kernel
theorem dX11_mark_33 : decode cX11_mark 33 = .ok (.getfield 395, 3) := by decide +kernel
theorem dX11_mark_36 : decode cX11_mark 36 = .ok (.iconst 1, 1) := by decide +kernel
theorem dX11_mark_37 : decode cX11_mark 37 = .ok (.iadd, 1) := by decide +kernel
theorem dX11_mark_38 : decode cX11_mark 38 = .ok (.putfield 395, 3) := by decide +kernel
theorem dX11_mark_41 : decode cX11_mark 41 = .ok (.aload_n 0, 1) := by decide +kernel
theorem dX11_mark_42 : decode cX11_mark 42 = .ok (.aload_n 0, 1) := by decide +kernel
theorem dX11_mark_43 : decode cX11_mark 43 = .ok (.getfield 395, 3) := by decide +kernel
theorem dX11_mark_46 : decode cX11_mark 46 = .ok (.invokevirtual 164, 3) := by decide +kernel
theorem dX11_mark_49 : decode cX11_mark 49 = .ok (.ireturn, 1) := by decide +kernel
def F_X11_mark (w : Nat) (M : z_Mem) : Option (Int32 × z_Mem) :=
  if (M.1 0 10) < (3 : Int32) then
  if (M.1 0 10) < 0 ∨ 3 ≤ (M.1 0 10).toNatClampNeg then none else
  (F_X3_copyFrom w M (z_mp (M.1 0 10)) 7).bind fun q3 =>
  (F_X11_answer w (z_wI q3.2 0 10 ((q3.2.1 0 10) + (1 : Int32))) ((q3.2.1 0 10) + (1 : Int32))).bind fun q5 =>
  some (q5.1, q5.2)
  else
  (F_X11_refuse w M (7 : Int32)).bind fun q7 =>
  some (q7.1, q7.2)
set_option maxHeartbeats 4000000 in
theorem A_X11_mark {w : Nat} {M : z_Mem} {r : Int32} {M' : z_Mem} {Q : Option Value → z_Mem → Prop} (h : F_X11_mark w M = some (r, M')) (hq : Q (some (.int r)) M') : z_Cl 3 mX11_mark [.ref 2] M Q := by
  refine g_in (ls := [some (.ref 2)]) rfl ?_
  unfold F_X11_mark at h
  refine g_aload_n dX11_mark_0 rfl rfl ?_
  refine g_get (a := 0) (v := .int (M.1 0 10)) dX11_mark_1 f_11_395 sh_0 rfl rfl ?_
  refine g_iconst (v := (3 : Int32)) dX11_mark_4 (by decide) ?_
  refine g_ic_lt (t := 15) dX11_mark_5 (by decide) (fun c1 => ?_) (fun c1 => ?_)
  · replace h := z_ift c1 h
    refine g_aload_n dX11_mark_15 rfl rfl ?_
    refine g_get (a := 0) (v := .ref 60) dX11_mark_16 f_11_55 sh_0 rfl rfl ?_
    refine g_aload_n dX11_mark_19 rfl rfl ?_
    refine g_get (a := 0) (v := .int (M.1 0 10)) dX11_mark_20 f_11_395 sh_0 rfl rfl ?_
    by_cases g2 : (M.1 0 10) < 0 ∨ 3 ≤ (M.1 0 10).toNatClampNeg
    · rw [if_pos g2] at h; cases h
    replace h := z_iff g2 h
    refine g_aald (b := (z_mp (M.1 0 10)) + 2) dX11_mark_23 sh_58 g2 (z_mp_mk g2) ?_
    refine g_aload_n dX11_mark_24 rfl rfl ?_
    refine g_get (a := 0) (v := .ref 9) dX11_mark_25 f_11_26 sh_0 rfl rfl ?_
    obtain ⟨q3, e4, h⟩ := z_bd h
    refine g_callV (a := (z_mp (M.1 0 10))) (as := [.ref 9]) (rest := []) (c := mX3_copyFrom) (k1 := 2) dX11_mark_28 rfl rfl rfl (shp_0 (z_mp_par g2)) rfl rfl (Nat.le_of_ble_eq_true rfl) (Nat.le_of_ble_eq_true rfl) (by decide) ?_
    refine A_X3_copyFrom (z_mp_par g2) z_par_7 e4 ?_
    show z_G none 3 mX11_mark 31 [some (.ref 2)] [] q3.2 Q
    refine g_aload_n dX11_mark_31 rfl rfl ?_
    refine g_dup dX11_mark_32 rfl ?_
    refine g_get (a := 0) (v := .int (q3.2.1 0 10)) dX11_mark_33 f_11_395 sh_0 rfl rfl ?_
    refine g_iconst (v := (1 : Int32)) dX11_mark_36 (by decide) ?_
    refine g_iadd dX11_mark_37 ?_
    refine g_putI (a := 0) dX11_mark_38 f_11_395 sh_0 rfl rfl rfl ?_
    refine g_aload_n dX11_mark_41 rfl rfl ?_
    refine g_aload_n dX11_mark_42 rfl rfl ?_
    refine g_get (a := 0) (v := .int ((q3.2.1 0 10) + (1 : Int32))) dX11_mark_43 f_11_395 sh_0 rfl (by simp [z_fv, z_wI, z_wL, z_wLs, upd, vp_updL]) ?_
    obtain ⟨q5, e6, h⟩ := z_bd h
    refine g_callV (a := 0) (as := [.int ((q3.2.1 0 10) + (1 : Int32))]) (rest := []) (c := mX11_answer) (k1 := 0) dX11_mark_46 rfl rfl rfl sh_0 rfl rfl (Nat.le_of_ble_eq_true rfl) (Nat.le_of_ble_eq_true rfl) (by decide) ?_
    refine A_X11_answer e6 ?_
    show z_G none 3 mX11_mark 49 [some (.ref 2)] [.int q5.1] q5.2 Q
    cases h
    exact g_iret dX11_mark_49 rfl rfl hq
  · replace h := z_iff c1 h
    refine g_aload_n dX11_mark_8 rfl rfl ?_
    refine g_bipush (v := (7 : Int32)) dX11_mark_9 (by decide) ?_
    obtain ⟨q7, e8, h⟩ := z_bd h
    refine g_callV (a := 0) (as := [.int (7 : Int32)]) (rest := []) (c := mX11_refuse) (k1 := 0) dX11_mark_11 rfl rfl rfl sh_0 rfl rfl (Nat.le_of_ble_eq_true rfl) (Nat.le_of_ble_eq_true rfl) (by decide) ?_
    refine A_X11_refuse e8 ?_
    show z_G none 3 mX11_mark 14 [some (.ref 2)] [.int q7.1] q7.2 Q
    cases h
    exact g_iret dX11_mark_14 rfl rfl hq
theorem dX11_back_0 : decode cX11_back 0 = .ok (.aload_n 0, 1) := by decide +kernel
theorem dX11_back_1 : decode cX11_back 1 = .ok (.getfield 395, 3) := by decide +kernel
theorem dX11_back_4 : decode cX11_back 4 = .ok (.ifCond .gt 10, 3) := by decide +kernel
theorem dX11_back_7 : decode cX11_back 7 = .ok (.aload_n 0, 1) := by decide +kernel
theorem dX11_back_8 : decode cX11_back 8 = .ok (.bipush 8, 2) := by decide +kernel
theorem dX11_back_10 : decode cX11_back 10 = .ok (.invokevirtual 113, 3) := by decide +kernel
theorem dX11_back_13 : decode cX11_back 13 = .ok (.ireturn, 1) := by decide +kernel
theorem dX11_back_14 : decode cX11_back 14 = .ok (.aload_n 0, 1) := by decide +kernel
theorem dX11_back_15 : decode cX11_back 15 = .ok (.dup, 1) := by decide +kernel
theorem dX11_back_16 : decode cX11_back 16 = .ok (.getfield 395, 3) := by decide +kernel
theorem dX11_back_19 : decode cX11_back 19 = .ok (.iconst 1, 1) := by decide +kernel
theorem dX11_back_20 : decode cX11_back 20 = .ok (.isub, 1) := by decide +kernel
theorem dX11_back_21 : decode cX11_back 21 = .ok (.putfield 395, 3) := by decide +kernel
theorem dX11_back_24 : decode cX11_back 24 = .ok (.aload_n 0, 1) := by decide +kernel
theorem dX11_back_25 : decode cX11_back 25 = .ok (.getfield 26, 3) := by decide +kernel
theorem dX11_back_28 : decode cX11_back 28 = .ok (.aload_n 0, 1) := by decide +kernel
theorem dX11_back_29 : decode cX11_back 29 = .ok (.getfield 55, 3) := by decide +kernel
theorem dX11_back_32 : decode cX11_back 32 = .ok (.aload_n 0, 1) := by decide +kernel
theorem dX11_back_33 : decode cX11_back 33 = .ok (.getfield 395, 3) := by decide +kernel
theorem dX11_back_36 : decode cX11_back 36 = .ok (.aaload, 1) := by decide +kernel
theorem dX11_back_37 : decode cX11_back 37 = .ok (.invokevirtual 151, 3) := by decide +kernel
theorem dX11_back_40 : decode cX11_back 40 = .ok (.aload_n 0, 1) := by decide +kernel
theorem dX11_back_41 : decode cX11_back 41 = .ok (.aload_n 0, 1) := by decide +kernel
theorem dX11_back_42 : decode cX11_back 42 = .ok (.getfield 395, 3) := by decide +kernel
theorem dX11_back_45 : decode cX11_back 45 = .ok (.invokevirtual 164, 3) := by decide +kernel
theorem dX11_back_48 : decode cX11_back 48 = .ok (.ireturn, 1) := by decide +kernel
def F_X11_back (w : Nat) (M : z_Mem) : Option (Int32 × z_Mem) :=
  if (0 : Int32) < (M.1 0 10) then
  if ((M.1 0 10) - (1 : Int32)) < 0 ∨ 3 ≤ ((M.1 0 10) - (1 : Int32)).toNatClampNeg then none else
  (F_X3_copyFrom w (z_wI M 0 10 ((M.1 0 10) - (1 : Int32))) 7 (z_mp ((M.1 0 10) - (1 : Int32)))).bind fun q3 =>
  (F_X11_answer w q3.2 (q3.2.1 0 10)).bind fun q5 =>
  some (q5.1, q5.2)
  else
  (F_X11_refuse w M (8 : Int32)).bind fun q7 =>
  some (q7.1, q7.2)
set_option maxHeartbeats 4000000 in
theorem A_X11_back {w : Nat} {M : z_Mem} {r : Int32} {M' : z_Mem} {Q : Option Value → z_Mem → Prop} (h : F_X11_back w M = some (r, M')) (hq : Q (some (.int r)) M') : z_Cl 3 mX11_back [.ref 2] M Q := by
  refine g_in (ls := [some (.ref 2)]) rfl ?_
  unfold F_X11_back at h
  refine g_aload_n dX11_back_0 rfl rfl ?_
  refine g_get (a := 0) (v := .int (M.1 0 10)) dX11_back_1 f_11_395 sh_0 rfl rfl ?_
  refine g_if_gt (t := 14) dX11_back_4 (by decide) (fun c1 => ?_) (fun c1 => ?_)
  · replace h := z_ift c1 h
    refine g_aload_n dX11_back_14 rfl rfl ?_
    refine g_dup dX11_back_15 rfl ?_
    refine g_get (a := 0) (v := .int (M.1 0 10)) dX11_back_16 f_11_395 sh_0 rfl rfl ?_
    refine g_iconst (v := (1 : Int32)) dX11_back_19 (by decide) ?_
    refine g_isub dX11_back_20 ?_
    refine g_putI (a := 0) dX11_back_21 f_11_395 sh_0 rfl rfl rfl ?_
    refine g_aload_n dX11_back_24 rfl rfl ?_
    refine g_get (a := 0) (v := .ref 9) dX11_back_25 f_11_26 sh_0 rfl rfl ?_
    refine g_aload_n dX11_back_28 rfl rfl ?_
    refine g_get (a := 0) (v := .ref 60) dX11_back_29 f_11_55 sh_0 rfl rfl ?_
    refine g_aload_n dX11_back_32 rfl rfl ?_
    refine g_get (a := 0) (v := .int ((M.1 0 10) - (1 : Int32))) dX11_back_33 f_11_395 sh_0 rfl (by simp [z_fv, z_wI, z_wL, z_wLs, upd, vp_updL]) ?_
    by_cases g2 : ((M.1 0 10) - (1 : Int32)) < 0 ∨ 3 ≤ ((M.1 0 10) - (1 : Int32)).toNatClampNeg
    · rw [if_pos g2] at h; cases h
    replace h := z_iff g2 h
    refine g_aald (b := (z_mp ((M.1 0 10) - (1 : Int32))) + 2) dX11_back_36 sh_58 g2 (z_mp_mk g2) ?_
    obtain ⟨q3, e4, h⟩ := z_bd h
    refine g_callV (a := 7) (as := [.ref ((z_mp ((M.1 0 10) - (1 : Int32))) + 2)]) (rest := []) (c := mX3_copyFrom) (k1 := 2) dX11_back_37 rfl rfl rfl sh_7 rfl rfl (Nat.le_of_ble_eq_true rfl) (Nat.le_of_ble_eq_true rfl) (by decide) ?_
    refine A_X3_copyFrom z_par_7 (z_mp_par g2) e4 ?_
    show z_G none 3 mX11_back 40 [some (.ref 2)] [] q3.2 Q
    refine g_aload_n dX11_back_40 rfl rfl ?_
    refine g_aload_n dX11_back_41 rfl rfl ?_
    refine g_get (a := 0) (v := .int (q3.2.1 0 10)) dX11_back_42 f_11_395 sh_0 rfl rfl ?_
    obtain ⟨q5, e6, h⟩ := z_bd h
    refine g_callV (a := 0) (as := [.int (q3.2.1 0 10)]) (rest := []) (c := mX11_answer) (k1 := 0) dX11_back_45 rfl rfl rfl sh_0 rfl rfl (Nat.le_of_ble_eq_true rfl) (Nat.le_of_ble_eq_true rfl) (by decide) ?_
    refine A_X11_answer e6 ?_
    show z_G none 3 mX11_back 48 [some (.ref 2)] [.int q5.1] q5.2 Q
    cases h
    exact g_iret dX11_back_48 rfl rfl hq
  · replace h := z_iff c1 h
    refine g_aload_n dX11_back_7 rfl rfl ?_
    refine g_bipush (v := (8 : Int32)) dX11_back_8 (by decide) ?_
    obtain ⟨q7, e8, h⟩ := z_bd h
    refine g_callV (a := 0) (as := [.int (8 : Int32)]) (rest := []) (c := mX11_refuse) (k1 := 0) dX11_back_10 rfl rfl rfl sh_0 rfl rfl (Nat.le_of_ble_eq_true rfl) (Nat.le_of_ble_eq_true rfl) (by decide) ?_
    refine A_X11_refuse e8 ?_
    show z_G none 3 mX11_back 13 [some (.ref 2)] [.int q7.1] q7.2 Q
    cases h
    exact g_iret dX11_back_13 rfl rfl hq
theorem dX12_status_0 : decode cX12_status 0 = .ok (.aload_n 0, 1) := by decide +kernel
theorem dX12_status_1 : decode cX12_status 1 = .ok (.iconst 0, 1) := by decide +kernel
theorem dX12_status_2 : decode cX12_status 2 = .ok (.putfield 57, 3) := by decide +kernel
theorem dX12_status_5 : decode cX12_status 5 = .ok (.aload_n 0, 1) := by decide +kernel
theorem dX12_status_6 : decode cX12_status 6 = .ok (.getfield 60, 3) := by decide +kernel
theorem dX12_status_9 : decode cX12_status 9 = .ok (.ireturn, 1) := by decide +kernel
def F_X12_status (w : Nat) (M : z_Mem) : Option (Int32 × z_Mem) :=
  some (M.1 137 0, (z_wI M 137 1 (0 : Int32)))
set_option maxHeartbeats 4000000 in
theorem A_X12_status {w : Nat} {M : z_Mem} {r : Int32} {M' : z_Mem} {Q : Option Value → z_Mem → Prop} (h : F_X12_status w M = some (r, M')) (hq : Q (some (.int r)) M') : z_Cl 0 mX12_status [.ref 139] M Q := by
  refine g_in (ls := [some (.ref 139)]) rfl ?_
  unfold F_X12_status at h
  refine g_aload_n dX12_status_0 rfl rfl ?_
  refine g_iconst (v := (0 : Int32)) dX12_status_1 (by decide) ?_
  refine g_putI (a := 137) dX12_status_2 f_12_57 sh_137 rfl rfl rfl ?_
  refine g_aload_n dX12_status_5 rfl rfl ?_
  refine g_get (a := 137) (v := .int (M.1 137 0)) dX12_status_6 f_12_60 sh_137 rfl (by simp [z_fv, z_wI, z_wL, z_wLs, upd, vp_updL]) ?_
  cases h
  exact g_iret dX12_status_9 rfl rfl hq
theorem dX12_top_0 : decode cX12_top 0 = .ok (.aload_n 0, 1) := by decide +kernel
theorem dX12_top_1 : decode cX12_top 1 = .ok (.iconst 0, 1) := by decide +kernel
theorem dX12_top_2 : decode cX12_top 2 = .ok (.putfield 57, 3) := by decide +kernel
theorem dX12_top_5 : decode cX12_top 5 = .ok (.aload_n 0, 1) := by decide +kernel
theorem dX12_top_6 : decode cX12_top 6 = .ok (.getfield 63, 3) := by decide +kernel
theorem dX12_top_9 : decode cX12_top 9 = .ok (.lreturn, 1) := by decide +kernel
def F_X12_top (w : Nat) (M : z_Mem) : Option (Int64 × z_Mem) :=
  some (M.2 137 2, (z_wI M 137 1 (0 : Int32)))
set_option maxHeartbeats 4000000 in
theorem A_X12_top {w : Nat} {M : z_Mem} {r : Int64} {M' : z_Mem} {Q : Option Value → z_Mem → Prop} (h : F_X12_top w M = some (r, M')) (hq : Q (some (.long r)) M') : z_Cl 0 mX12_top [.ref 139] M Q := by
  refine g_in (ls := [some (.ref 139)]) rfl ?_
  unfold F_X12_top at h
  refine g_aload_n dX12_top_0 rfl rfl ?_
  refine g_iconst (v := (0 : Int32)) dX12_top_1 (by decide) ?_
  refine g_putI (a := 137) dX12_top_2 f_12_57 sh_137 rfl rfl rfl ?_
  refine g_aload_n dX12_top_5 rfl rfl ?_
  refine g_get (a := 137) (v := .long (M.2 137 2)) dX12_top_6 f_12_63 sh_137 rfl (by simp [z_fv, z_wI, z_wL, z_wLs, upd, vp_updL]) ?_
  cases h
  exact g_lret dX12_top_9 rfl hq
theorem dX12_bottom_0 : decode cX12_bottom 0 = .ok (.aload_n 0, 1) := by decide +kernel
theorem dX12_bottom_1 : decode cX12_bottom 1 = .ok (.iconst 0, 1) := by decide +kernel
theorem dX12_bottom_2 : decode cX12_bottom 2 = .ok (.putfield 57, 3) := by decide +kernel
theorem dX12_bottom_5 : decode cX12_bottom 5 = .ok (.aload_n 0, 1) := by decide +kernel
theorem dX12_bottom_6 : decode cX12_bottom 6 = .ok (.getfield 7, 3) := by decide +kernel
theorem dX12_bottom_9 : decode cX12_bottom 9 = .ok (.lreturn, 1) := by decide +kernel
def F_X12_bottom (w : Nat) (M : z_Mem) : Option (Int64 × z_Mem) :=
  some (M.2 137 3, (z_wI M 137 1 (0 : Int32)))
set_option maxHeartbeats 4000000 in
theorem A_X12_bottom {w : Nat} {M : z_Mem} {r : Int64} {M' : z_Mem} {Q : Option Value → z_Mem → Prop} (h : F_X12_bottom w M = some (r, M')) (hq : Q (some (.long r)) M') : z_Cl 0 mX12_bottom [.ref 139] M Q := by
  refine g_in (ls := [some (.ref 139)]) rfl ?_
  unfold F_X12_bottom at h
  refine g_aload_n dX12_bottom_0 rfl rfl ?_
  refine g_iconst (v := (0 : Int32)) dX12_bottom_1 (by decide) ?_
  refine g_putI (a := 137) dX12_bottom_2 f_12_57 sh_137 rfl rfl rfl ?_
  refine g_aload_n dX12_bottom_5 rfl rfl ?_
  refine g_get (a := 137) (v := .long (M.2 137 3)) dX12_bottom_6 f_12_7 sh_137 rfl (by simp [z_fv, z_wI, z_wL, z_wLs, upd, vp_updL]) ?_
  cases h
  exact g_lret dX12_bottom_9 rfl hq
theorem dX12_refuse_0 : decode cX12_refuse 0 = .ok (.aload_n 0, 1) := by decide +kernel
theorem dX12_refuse_1 : decode cX12_refuse 1 = .ok (.iload_n 1, 1) := by decide +kernel
theorem dX12_refuse_2 : decode cX12_refuse 2 = .ok (.putfield 60, 3) := by decide +kernel
theorem dX12_refuse_5 : decode cX12_refuse 5 = .ok (.iconst (-1), 1) := by decide +kernel
theorem dX12_refuse_6 : decode cX12_refuse 6 = .ok (.ireturn, 1) := by decide +kernel
def F_X12_refuse (w : Nat) (M : z_Mem) (a1 : Int32) : Option (Int32 × z_Mem) :=
  some ((-1 : Int32), (z_wI M 137 0 a1))
set_option maxHeartbeats 4000000 in
theorem A_X12_refuse {w : Nat} {M : z_Mem} {a1 : Int32} {r : Int32} {M' : z_Mem} {Q : Option Value → z_Mem → Prop} (h : F_X12_refuse w M a1 = some (r, M')) (hq : Q (some (.int r)) M') : z_Cl 0 mX12_refuse [.ref 139, .int a1] M Q := by
  refine g_in (ls := [some (.ref 139), some (.int a1)]) rfl ?_
  unfold F_X12_refuse at h
  refine g_aload_n dX12_refuse_0 rfl rfl ?_
  refine g_iload_n dX12_refuse_1 rfl rfl ?_
  refine g_putI (a := 137) dX12_refuse_2 f_12_60 sh_137 rfl rfl rfl ?_
  refine g_iconst (v := (-1 : Int32)) dX12_refuse_5 (by decide) ?_
  cases h
  exact g_iret dX12_refuse_6 rfl rfl hq
theorem dX12_no_0 : decode cX12_no 0 = .ok (.aload_n 0, 1) := by decide +kernel
theorem dX12_no_1 : decode cX12_no 1 = .ok (.iload_n 1, 1) := by decide +kernel
theorem dX12_no_2 : decode cX12_no 2 = .ok (.putfield 60, 3) := by decide +kernel
theorem dX12_no_5 : decode cX12_no 5 = .ok (.iconst 0, 1) := by decide +kernel
theorem dX12_no_6 : decode cX12_no 6 = .ok (.ireturn, 1) := by decide +kernel
def F_X12_no (w : Nat) (M : z_Mem) (a1 : Int32) : Option (Bool × z_Mem) :=
  some (false, (z_wI M 137 0 a1))
set_option maxHeartbeats 4000000 in
theorem A_X12_no {w : Nat} {M : z_Mem} {a1 : Int32} {r : Bool} {M' : z_Mem} {Q : Option Value → z_Mem → Prop} (h : F_X12_no w M a1 = some (r, M')) (hq : Q (some (.int (z_tb r))) M') : z_Cl 0 mX12_no [.ref 139, .int a1] M Q := by
  refine g_in (ls := [some (.ref 139), some (.int a1)]) rfl ?_
  unfold F_X12_no at h
  refine g_aload_n dX12_no_0 rfl rfl ?_
  refine g_iload_n dX12_no_1 rfl rfl ?_
  refine g_putI (a := 137) dX12_no_2 f_12_60 sh_137 rfl rfl rfl ?_
  refine g_iconst (v := (0 : Int32)) dX12_no_5 (by decide) ?_
  cases h
  exact g_iret dX12_no_6 rfl rfl hq
theorem dX12_isIn_0 : decode cX12_isIn 0 = .ok (.lload_n 0, 1) := by decide +kernel
theorem dX12_isIn_1 : decode cX12_isIn 1 = .ok (.lload_n 2, 1) := by decide +kernel
theorem dX12_isIn_2 : decode cX12_isIn 2 = .ok (.lcmp, 1) := by decide +kernel
theorem dX12_isIn_3 : decode cX12_isIn 3 = .ok (.ifCond .lt 14, 3) := by decide +kernel
theorem dX12_isIn_6 : decode cX12_isIn 6 = .ok (.lload_n 0, 1) := by decide +kernel
theorem dX12_isIn_7 : decode cX12_isIn 7 = .ok (.lload 4, 2) := by decide +kernel
theorem dX12_isIn_9 : decode cX12_isIn 9 = .ok (.lcmp, 1) := by decide +kernel
theorem dX12_isIn_10 : decode cX12_isIn 10 = .ok (.ifCond .gt 7, 3) := by decide +kernel
theorem dX12_isIn_13 : decode cX12_isIn 13 = .ok (.iconst 1, 1) := by decide +kernel
theorem dX12_isIn_14 : decode cX12_isIn 14 = .ok (.goto 4, 3) := by decide +kernel
theorem dX12_isIn_17 : decode cX12_isIn 17 = .ok (.iconst 0, 1) := by decide +kernel
theorem dX12_isIn_18 : decode cX12_isIn 18 = .ok (.ireturn, 1) := by decide +kernel
def F_X12_isIn (w : Nat) (M : z_Mem) (a0 : Int64) (a2 : Int64) (a4 : Int64) : Option (Bool × z_Mem) :=
  if (lg_cmp a0 a2) < (0 : Int32) then
  some (false, M)
  else
  if (0 : Int32) < (lg_cmp a0 a4) then
  some (false, M)
  else
  some (true, M)
set_option maxHeartbeats 4000000 in
theorem A_X12_isIn {w : Nat} {M : z_Mem} {a0 : Int64} {a2 : Int64} {a4 : Int64} {r : Bool} {M' : z_Mem} {Q : Option Value → z_Mem → Prop} (h : F_X12_isIn w M a0 a2 a4 = some (r, M')) (hq : Q (some (.int (z_tb r))) M') : z_Cl 0 mX12_isIn [.long a0, .long a2, .long a4] M Q := by
  refine g_in (ls := [some (.long a0), none, some (.long a2), none, some (.long a4), none]) rfl ?_
  unfold F_X12_isIn at h
  refine g_lload_n dX12_isIn_0 rfl rfl ?_
  refine g_lload_n dX12_isIn_1 rfl rfl ?_
  refine g_lcmp dX12_isIn_2 ?_
  refine g_if_lt (t := 17) dX12_isIn_3 (by decide) (fun c1 => ?_) (fun c1 => ?_)
  · replace h := z_ift c1 h
    refine g_iconst (v := (0 : Int32)) dX12_isIn_17 (by decide) ?_
    cases h
    exact g_iret dX12_isIn_18 rfl rfl hq
  · replace h := z_iff c1 h
    refine g_lload_n dX12_isIn_6 rfl rfl ?_
    refine g_lload dX12_isIn_7 rfl ?_
    refine g_lcmp dX12_isIn_9 ?_
    refine g_if_gt (t := 17) dX12_isIn_10 (by decide) (fun c2 => ?_) (fun c2 => ?_)
    · replace h := z_ift c2 h
      refine g_iconst (v := (0 : Int32)) dX12_isIn_17 (by decide) ?_
      cases h
      exact g_iret dX12_isIn_18 rfl rfl hq
    · replace h := z_iff c2 h
      refine g_iconst (v := (1 : Int32)) dX12_isIn_13 (by decide) ?_
      refine g_goto (t := 18) dX12_isIn_14 (by decide) ?_
      cases h
      exact g_iret dX12_isIn_18 rfl rfl hq
