/-! ===== the methods as functions, 2 ===== -/
theorem dX4_hasRoom_0 : decode cX4_hasRoom 0 = .ok (.iload_n 1, 1) := by decide +kernel
theorem dX4_hasRoom_1 : decode cX4_hasRoom 1 = .ok (.iload_n 2, 1) := by decide +kernel
theorem dX4_hasRoom_2 : decode cX4_hasRoom 2 = .ok (.if_icmp .lt 15, 3) := by decide +kernel
theorem dX4_hasRoom_5 : decode cX4_hasRoom 5 = .ok (.aload_n 0, 1) := by decide +kernel
theorem dX4_hasRoom_6 : decode cX4_hasRoom 6 = .ok (.getfield 20, 3) := by decide +kernel
theorem dX4_hasRoom_9 : decode cX4_hasRoom 9 = .ok (.bipush 6, 2) := by decide +kernel
theorem dX4_hasRoom_11 : decode cX4_hasRoom 11 = .ok (.invokevirtual 72, 3) := by decide +kernel
theorem dX4_hasRoom_14 : decode cX4_hasRoom 14 = .ok (.ifCond .eq 7, 3) := by decide +kernel
theorem dX4_hasRoom_17 : decode cX4_hasRoom 17 = .ok (.iconst 1, 1) := by decide +kernel
theorem dX4_hasRoom_18 : decode cX4_hasRoom 18 = .ok (.goto 4, 3) := by decide +kernel
theorem dX4_hasRoom_21 : decode cX4_hasRoom 21 = .ok (.iconst 0, 1) := by decide +kernel
theorem dX4_hasRoom_22 : decode cX4_hasRoom 22 = .ok (.ireturn, 1) := by decide +kernel
def F_X4_hasRoom (w : Nat) (M : z_Mem) (a1 : Int32) (a2 : Int32) : Option (Bool × z_Mem) :=
  if a1 < a2 then
  some (true, M)
  else
  (F_X7_fail w M (6 : Int32)).bind fun q2 =>
  if q2.1 = true then
  some (true, q2.2)
  else
  some (false, q2.2)
set_option maxHeartbeats 4000000 in
theorem A_X4_hasRoom {w : Nat} {M : z_Mem} {a1 : Int32} {a2 : Int32} {r : Bool} {M' : z_Mem} {Q : Option Value → z_Mem → Prop} (h : F_X4_hasRoom w M a1 a2 = some (r, M')) (hq : Q (some (.int (z_tb r))) M') : z_Cl 1 mX4_hasRoom [.ref 55, .int a1, .int a2] M Q := by
  refine g_in (ls := [some (.ref 55), some (.int a1), some (.int a2)]) rfl ?_
  unfold F_X4_hasRoom at h
  refine g_iload_n dX4_hasRoom_0 rfl rfl ?_
  refine g_iload_n dX4_hasRoom_1 rfl rfl ?_
  refine g_ic_lt (t := 17) dX4_hasRoom_2 (by decide) (fun c1 => ?_) (fun c1 => ?_)
  · replace h := z_ift c1 h
    refine g_iconst (v := (1 : Int32)) dX4_hasRoom_17 (by decide) ?_
    refine g_goto (t := 22) dX4_hasRoom_18 (by decide) ?_
    cases h
    exact g_iret dX4_hasRoom_22 rfl rfl hq
  · replace h := z_iff c1 h
    refine g_aload_n dX4_hasRoom_5 rfl rfl ?_
    refine g_get (a := 53) (v := .ref 7) dX4_hasRoom_6 f_4_20 sh_53 rfl rfl ?_
    refine g_bipush (v := (6 : Int32)) dX4_hasRoom_9 (by decide) ?_
    obtain ⟨q2, e3, h⟩ := z_bd h
    refine g_callV (a := 5) (as := [.int (6 : Int32)]) (rest := []) (c := mX7_fail) (k1 := 0) dX4_hasRoom_11 rfl rfl rfl sh_5 rfl rfl (Nat.le_of_ble_eq_true rfl) (Nat.le_of_ble_eq_true rfl) (by decide) ?_
    refine A_X7_fail e3 ?_
    show z_G none 1 mX4_hasRoom 14 [some (.ref 55), some (.int a1), some (.int a2)] [.int (z_tb q2.1)] q2.2 Q
    refine g_if_eq (t := 21) dX4_hasRoom_14 (by decide) (fun c4 => ?_) (fun c4 => ?_)
    · replace h := z_iff (z_tb0.mp c4) h
      refine g_iconst (v := (0 : Int32)) dX4_hasRoom_21 (by decide) ?_
      cases h
      exact g_iret dX4_hasRoom_22 rfl rfl hq
    · replace h := z_ift (z_tbn.mp c4) h
      refine g_iconst (v := (1 : Int32)) dX4_hasRoom_17 (by decide) ?_
      refine g_goto (t := 22) dX4_hasRoom_18 (by decide) ?_
      cases h
      exact g_iret dX4_hasRoom_22 rfl rfl hq
theorem dX4_kindHere_0 : decode cX4_kindHere 0 = .ok (.aload_n 0, 1) := by decide +kernel
theorem dX4_kindHere_1 : decode cX4_kindHere 1 = .ok (.getfield 20, 3) := by decide +kernel
theorem dX4_kindHere_4 : decode cX4_kindHere 4 = .ok (.getfield 43, 3) := by decide +kernel
theorem dX4_kindHere_7 : decode cX4_kindHere 7 = .ok (.tableswitch 31 17 19 #[25, 27, 29], 25) := by decide +kernel
theorem dX4_kindHere_32 : decode cX4_kindHere 32 = .ok (.iconst 0, 1) := by decide +kernel
theorem dX4_kindHere_33 : decode cX4_kindHere 33 = .ok (.ireturn, 1) := by decide +kernel
theorem dX4_kindHere_34 : decode cX4_kindHere 34 = .ok (.iconst 1, 1) := by decide +kernel
theorem dX4_kindHere_35 : decode cX4_kindHere 35 = .ok (.ireturn, 1) := by decide +kernel
theorem dX4_kindHere_36 : decode cX4_kindHere 36 = .ok (.iconst 2, 1) := by decide +kernel
theorem dX4_kindHere_37 : decode cX4_kindHere 37 = .ok (.ireturn, 1) := by decide +kernel
theorem dX4_kindHere_38 : decode cX4_kindHere 38 = .ok (.aload_n 0, 1) := by decide +kernel
theorem dX4_kindHere_39 : decode cX4_kindHere 39 = .ok (.getfield 20, 3) := by decide +kernel
theorem dX4_kindHere_42 : decode cX4_kindHere 42 = .ok (.iconst 2, 1) := by decide +kernel
theorem dX4_kindHere_43 : decode cX4_kindHere 43 = .ok (.invokevirtual 72, 3) := by decide +kernel
theorem dX4_kindHere_46 : decode cX4_kindHere 46 = .ok (.pop, 1) := by decide +kernel
theorem dX4_kindHere_47 : decode cX4_kindHere 47 = .ok (.iconst (-1), 1) := by decide +kernel
theorem dX4_kindHere_48 : decode cX4_kindHere 48 = .ok (.ireturn, 1) := by decide +kernel
def F_X4_kindHere (w : Nat) (M : z_Mem) : Option (Int32 × z_Mem) :=
  if (M.1 5 3) = (17 : Int32) then
  some ((0 : Int32), M)
  else
  if (M.1 5 3) = (18 : Int32) then
  some ((1 : Int32), M)
  else
  if (M.1 5 3) = (19 : Int32) then
  some ((2 : Int32), M)
  else
  (F_X7_fail w M (2 : Int32)).bind fun q4 =>
  some ((-1 : Int32), q4.2)
set_option maxHeartbeats 4000000 in
theorem A_X4_kindHere {w : Nat} {M : z_Mem} {r : Int32} {M' : z_Mem} {Q : Option Value → z_Mem → Prop} (h : F_X4_kindHere w M = some (r, M')) (hq : Q (some (.int r)) M') : z_Cl 1 mX4_kindHere [.ref 55] M Q := by
  refine g_in (ls := [some (.ref 55)]) rfl ?_
  unfold F_X4_kindHere at h
  refine g_aload_n dX4_kindHere_0 rfl rfl ?_
  refine g_get (a := 53) (v := .ref 7) dX4_kindHere_1 f_4_20 sh_53 rfl rfl ?_
  refine g_get (a := 5) (v := .int (M.1 5 3)) dX4_kindHere_4 f_4_43 sh_5 rfl rfl ?_
  by_cases s1 : M.1 5 3 = (17 : Int32)
  · replace h := z_ift s1 h
    refine g_top (v := (17 : Int32)) s1 ?_
    refine g_tsIn (off := 25) (t := 32) dX4_kindHere_7 (by decide) (by decide) (by decide) ?_
    refine g_iconst (v := (0 : Int32)) dX4_kindHere_32 (by decide) ?_
    cases h
    exact g_iret dX4_kindHere_33 rfl rfl hq
  replace h := z_iff s1 h
  by_cases s2 : M.1 5 3 = (18 : Int32)
  · replace h := z_ift s2 h
    refine g_top (v := (18 : Int32)) s2 ?_
    refine g_tsIn (off := 27) (t := 34) dX4_kindHere_7 (by decide) (by decide) (by decide) ?_
    refine g_iconst (v := (1 : Int32)) dX4_kindHere_34 (by decide) ?_
    cases h
    exact g_iret dX4_kindHere_35 rfl rfl hq
  replace h := z_iff s2 h
  by_cases s3 : M.1 5 3 = (19 : Int32)
  · replace h := z_ift s3 h
    refine g_top (v := (19 : Int32)) s3 ?_
    refine g_tsIn (off := 29) (t := 36) dX4_kindHere_7 (by decide) (by decide) (by decide) ?_
    refine g_iconst (v := (2 : Int32)) dX4_kindHere_36 (by decide) ?_
    cases h
    exact g_iret dX4_kindHere_37 rfl rfl hq
  replace h := z_iff s3 h
  refine g_tsOut (t := 38) dX4_kindHere_7 (by have t0 := z_neL (n := 17) (by decide) s1; have t1 := z_neL (n := 18) (by decide) s2; have t2 := z_neL (n := 19) (by decide) s3; omega) (by decide) ?_
  refine g_aload_n dX4_kindHere_38 rfl rfl ?_
  refine g_get (a := 53) (v := .ref 7) dX4_kindHere_39 f_4_20 sh_53 rfl rfl ?_
  refine g_iconst (v := (2 : Int32)) dX4_kindHere_42 (by decide) ?_
  obtain ⟨q4, e5, h⟩ := z_bd h
  refine g_callV (a := 5) (as := [.int (2 : Int32)]) (rest := []) (c := mX7_fail) (k1 := 0) dX4_kindHere_43 rfl rfl rfl sh_5 rfl rfl (Nat.le_of_ble_eq_true rfl) (Nat.le_of_ble_eq_true rfl) (by decide) ?_
  refine A_X7_fail e5 ?_
  show z_G none 1 mX4_kindHere 46 [some (.ref 55)] [.int (z_tb q4.1)] q4.2 Q
  refine g_pop dX4_kindHere_46 rfl ?_
  refine g_iconst (v := (-1 : Int32)) dX4_kindHere_47 (by decide) ?_
  cases h
  exact g_iret dX4_kindHere_48 rfl rfl hq
theorem dX7_take_0 : decode cX7_take 0 = .ok (.aload_n 0, 1) := by decide +kernel
theorem dX7_take_1 : decode cX7_take 1 = .ok (.getfield 37, 3) := by decide +kernel
theorem dX7_take_4 : decode cX7_take 4 = .ok (.iload_n 1, 1) := by decide +kernel
theorem dX7_take_5 : decode cX7_take 5 = .ok (.if_icmp .eq 9, 3) := by decide +kernel
theorem dX7_take_8 : decode cX7_take 8 = .ok (.aload_n 0, 1) := by decide +kernel
theorem dX7_take_9 : decode cX7_take 9 = .ok (.iconst 2, 1) := by decide +kernel
theorem dX7_take_10 : decode cX7_take 10 = .ok (.invokevirtual 72, 3) := by decide +kernel
theorem dX7_take_13 : decode cX7_take 13 = .ok (.ireturn, 1) := by decide +kernel
theorem dX7_take_14 : decode cX7_take 14 = .ok (.aload_n 0, 1) := by decide +kernel
theorem dX7_take_15 : decode cX7_take 15 = .ok (.invokevirtual 31, 3) := by decide +kernel
theorem dX7_take_18 : decode cX7_take 18 = .ok (.iconst 1, 1) := by decide +kernel
theorem dX7_take_19 : decode cX7_take 19 = .ok (.ireturn, 1) := by decide +kernel
def F_X7_take (w : Nat) (M : z_Mem) (a1 : Int32) : Option (Bool × z_Mem) :=
  if (M.1 5 3) = a1 then
  (F_X7_advance w M).bind fun q2 =>
  some (true, q2.2)
  else
  (F_X7_fail w M (2 : Int32)).bind fun q4 =>
  some (q4.1, q4.2)
set_option maxHeartbeats 4000000 in
theorem A_X7_take {w : Nat} {M : z_Mem} {a1 : Int32} {r : Bool} {M' : z_Mem} {Q : Option Value → z_Mem → Prop} (h : F_X7_take w M a1 = some (r, M')) (hq : Q (some (.int (z_tb r))) M') : z_Cl 3 mX7_take [.ref 7, .int a1] M Q := by
  refine g_in (ls := [some (.ref 7), some (.int a1)]) rfl ?_
  unfold F_X7_take at h
  refine g_aload_n dX7_take_0 rfl rfl ?_
  refine g_get (a := 5) (v := .int (M.1 5 3)) dX7_take_1 f_7_37 sh_5 rfl rfl ?_
  refine g_iload_n dX7_take_4 rfl rfl ?_
  refine g_ic_eq (t := 14) dX7_take_5 (by decide) (fun c1 => ?_) (fun c1 => ?_)
  · replace h := z_ift c1 h
    refine g_aload_n dX7_take_14 rfl rfl ?_
    obtain ⟨q2, e3, h⟩ := z_bd h
    refine g_callV (a := 5) (as := []) (rest := []) (c := mX7_advance) (k1 := 2) dX7_take_15 rfl rfl rfl sh_5 rfl rfl (Nat.le_of_ble_eq_true rfl) (Nat.le_of_ble_eq_true rfl) (by decide) ?_
    refine A_X7_advance e3 ?_
    show z_G none 3 mX7_take 18 [some (.ref 7), some (.int a1)] [] q2.2 Q
    refine g_iconst (v := (1 : Int32)) dX7_take_18 (by decide) ?_
    cases h
    exact g_iret dX7_take_19 rfl rfl hq
  · replace h := z_iff c1 h
    refine g_aload_n dX7_take_8 rfl rfl ?_
    refine g_iconst (v := (2 : Int32)) dX7_take_9 (by decide) ?_
    obtain ⟨q4, e5, h⟩ := z_bd h
    refine g_callV (a := 5) (as := [.int (2 : Int32)]) (rest := []) (c := mX7_fail) (k1 := 0) dX7_take_10 rfl rfl rfl sh_5 rfl rfl (Nat.le_of_ble_eq_true rfl) (Nat.le_of_ble_eq_true rfl) (by decide) ?_
    refine A_X7_fail e5 ?_
    show z_G none 3 mX7_take 13 [some (.ref 7), some (.int a1)] [.int (z_tb q4.1)] q4.2 Q
    cases h
    exact g_iret dX7_take_13 rfl nb_tb hq
theorem dX4_takeMonths_0 : decode cX4_takeMonths 0 = .ok (.iconst 0, 1) := by decide +kernel
theorem dX4_takeMonths_1 : decode cX4_takeMonths 1 = .ok (.istore_n 1, 1) := by decide +kernel
theorem dX4_takeMonths_2 : decode cX4_takeMonths 2 = .ok (.iconst 0, 1) := by decide +kernel
theorem dX4_takeMonths_3 : decode cX4_takeMonths 3 = .ok (.istore_n 2, 1) := by decide +kernel
theorem dX4_takeMonths_4 : decode cX4_takeMonths 4 = .ok (.iload_n 2, 1) := by decide +kernel
theorem dX4_takeMonths_5 : decode cX4_takeMonths 5 = .ok (.bipush 12, 2) := by decide +kernel
theorem dX4_takeMonths_7 : decode cX4_takeMonths 7 = .ok (.if_icmp .gt 83, 3) := by decide +kernel
theorem dX4_takeMonths_10 : decode cX4_takeMonths 10 = .ok (.aload_n 0, 1) := by decide +kernel
theorem dX4_takeMonths_11 : decode cX4_takeMonths 11 = .ok (.getfield 20, 3) := by decide +kernel
theorem dX4_takeMonths_14 : decode cX4_takeMonths 14 = .ok (.getfield 43, 3) := by decide +kernel
theorem dX4_takeMonths_17 : decode cX4_takeMonths 17 = .ok (.bipush 32, 2) := by decide +kernel
theorem dX4_takeMonths_19 : decode cX4_takeMonths 19 = .ok (.if_icmp .ne 71, 3) := by decide +kernel
theorem dX4_takeMonths_22 : decode cX4_takeMonths 22 = .ok (.aload_n 0, 1) := by decide +kernel
theorem dX4_takeMonths_23 : decode cX4_takeMonths 23 = .ok (.getfield 20, 3) := by decide +kernel
theorem dX4_takeMonths_26 : decode cX4_takeMonths 26 = .ok (.getfield 128, 3) := by decide +kernel
theorem dX4_takeMonths_29 : decode cX4_takeMonths 29 = .ok (.bipush 12, 2) := by decide +kernel
theorem dX4_takeMonths_31 : decode cX4_takeMonths 31 = .ok (.if_icmp .ge 29, 3) := by decide +kernel
theorem dX4_takeMonths_34 : decode cX4_takeMonths 34 = .ok (.iload_n 1, 1) := by decide +kernel
theorem dX4_takeMonths_35 : decode cX4_takeMonths 35 = .ok (.aload_n 0, 1) := by decide +kernel
theorem dX4_takeMonths_36 : decode cX4_takeMonths 36 = .ok (.getfield 20, 3) := by decide +kernel
theorem dX4_takeMonths_39 : decode cX4_takeMonths 39 = .ok (.getfield 128, 3) := by decide +kernel
theorem dX4_takeMonths_42 : decode cX4_takeMonths 42 = .ok (.ishr, 1) := by decide +kernel
theorem dX4_takeMonths_43 : decode cX4_takeMonths 43 = .ok (.iconst 1, 1) := by decide +kernel
theorem dX4_takeMonths_44 : decode cX4_takeMonths 44 = .ok (.iand, 1) := by decide +kernel
theorem dX4_takeMonths_45 : decode cX4_takeMonths 45 = .ok (.iconst 1, 1) := by decide +kernel
theorem dX4_takeMonths_46 : decode cX4_takeMonths 46 = .ok (.if_icmp .ne 14, 3) := by decide +kernel
theorem dX4_takeMonths_49 : decode cX4_takeMonths 49 = .ok (.aload_n 0, 1) := by decide +kernel
theorem dX4_takeMonths_50 : decode cX4_takeMonths 50 = .ok (.getfield 20, 3) := by decide +kernel
theorem dX4_takeMonths_53 : decode cX4_takeMonths 53 = .ok (.iconst 5, 1) := by decide +kernel
theorem dX4_takeMonths_54 : decode cX4_takeMonths 54 = .ok (.invokevirtual 72, 3) := by decide +kernel
theorem dX4_takeMonths_57 : decode cX4_takeMonths 57 = .ok (.pop, 1) := by decide +kernel
theorem dX4_takeMonths_58 : decode cX4_takeMonths 58 = .ok (.iconst (-1), 1) := by decide +kernel
theorem dX4_takeMonths_59 : decode cX4_takeMonths 59 = .ok (.ireturn, 1) := by decide +kernel
theorem dX4_takeMonths_60 : decode cX4_takeMonths 60 = .ok (.aload_n 0, 1) := by decide +kernel
theorem dX4_takeMonths_61 : decode cX4_takeMonths 61 = .ok (.getfield 20, 3) := by decide +kernel
theorem dX4_takeMonths_64 : decode cX4_takeMonths 64 = .ok (.iconst 0, 1) := by decide +kernel
theorem dX4_takeMonths_65 : decode cX4_takeMonths 65 = .ok (.bipush 11, 2) := by decide +kernel
theorem dX4_takeMonths_67 : decode cX4_takeMonths 67 = .ok (.invokevirtual 84, 3) := by decide +kernel
theorem dX4_takeMonths_70 : decode cX4_takeMonths 70 = .ok (.istore_n 3, 1) := by decide +kernel
theorem dX4_takeMonths_71 : decode cX4_takeMonths 71 = .ok (.iload_n 3, 1) := by decide +kernel
theorem dX4_takeMonths_72 : decode cX4_takeMonths 72 = .ok (.iconst (-1), 1) := by decide +kernel
theorem dX4_takeMonths_73 : decode cX4_takeMonths 73 = .ok (.if_icmp .ne 5, 3) := by decide +kernel
theorem dX4_takeMonths_76 : decode cX4_takeMonths 76 = .ok (.iconst (-1), 1) := by decide +kernel
theorem dX4_takeMonths_77 : decode cX4_takeMonths 77 = .ok (.ireturn, 1) := by decide +kernel
theorem dX4_takeMonths_78 : decode cX4_takeMonths 78 = .ok (.iload_n 1, 1) := by decide +kernel
theorem dX4_takeMonths_79 : decode cX4_takeMonths 79 = .ok (.iconst 1, 1) := by decide +kernel
theorem dX4_takeMonths_80 : decode cX4_takeMonths 80 = .ok (.iload_n 3, 1) := by decide +kernel
theorem dX4_takeMonths_81 : decode cX4_takeMonths 81 = .ok (.ishl, 1) := by decide +kernel
theorem dX4_takeMonths_82 : decode cX4_takeMonths 82 = .ok (.ior, 1) := by decide +kernel
theorem dX4_takeMonths_83 : decode cX4_takeMonths 83 = .ok (.istore_n 1, 1) := by decide +kernel
theorem dX4_takeMonths_84 : decode cX4_takeMonths 84 = .ok (.iinc 2 1, 3) := by decide +kernel
theorem dX4_takeMonths_87 : decode cX4_takeMonths 87 = .ok (.goto (-83), 3) := by decide +kernel
theorem dX4_takeMonths_90 : decode cX4_takeMonths 90 = .ok (.iload_n 1, 1) := by decide +kernel
theorem dX4_takeMonths_91 : decode cX4_takeMonths 91 = .ok (.ireturn, 1) := by decide +kernel
def L_X4_takeMonths (w : Nat) : Nat → z_Mem → Int32 → Int32 → Option (Int32 × z_Mem)
  | 0, _, _, _ => none
  | c + 1, M, x1, x2 =>
    if (12 : Int32) < x2 then
    some (x1, M)
    else
    if (M.1 5 3) = (32 : Int32) then
    if (12 : Int32) ≤ (M.1 5 6) then
    (F_X7_takeNumber w M (0 : Int32) (11 : Int32)).bind fun q4 =>
    if q4.1 = (-1 : Int32) then
    some ((-1 : Int32), q4.2)
    else
    L_X4_takeMonths w c q4.2 (x1 ||| ((1 : Int32) <<< (q4.1 &&& 31))) (x2 + (1 : Int32))
    else
    if ((x1 >>> ((M.1 5 6) &&& 31)) &&& (1 : Int32)) = (1 : Int32) then
    (F_X7_fail w M (5 : Int32)).bind fun q11 =>
    some ((-1 : Int32), q11.2)
    else
    (F_X7_takeNumber w M (0 : Int32) (11 : Int32)).bind fun q8 =>
    if q8.1 = (-1 : Int32) then
    some ((-1 : Int32), q8.2)
    else
    L_X4_takeMonths w c q8.2 (x1 ||| ((1 : Int32) <<< (q8.1 &&& 31))) (x2 + (1 : Int32))
    else
    some (x1, M)
set_option maxHeartbeats 4000000 in
theorem AL_X4_takeMonths {w : Nat} : ∀ (c : Nat), (∀ (M : z_Mem) (x1 : Int32) (x2 : Int32) (r : Int32) (M' : z_Mem) (Q : Option Value → z_Mem → Prop), L_X4_takeMonths w c M x1 x2 = some (r, M') → Q (some (.int r)) M' → z_G none 4 mX4_takeMonths 4 [some (.ref 55), some (.int x1), some (.int x2), none] [] M Q) := by
  intro c
  induction c with
  | zero => exact (fun M x1 x2 r M' Q h hq => by rw [L_X4_takeMonths] at h; cases h)
  | succ c ih =>
    intro M x1 x2 r M' Q h hq
    rw [L_X4_takeMonths] at h
    refine g_iload_n dX4_takeMonths_4 rfl rfl ?_
    refine g_bipush (v := (12 : Int32)) dX4_takeMonths_5 (by decide) ?_
    refine g_ic_gt (t := 90) dX4_takeMonths_7 (by decide) (fun c1 => ?_) (fun c1 => ?_)
    · replace h := z_ift c1 h
      refine g_iload_n dX4_takeMonths_90 rfl rfl ?_
      cases h
      exact g_iret dX4_takeMonths_91 rfl rfl hq
    · replace h := z_iff c1 h
      refine g_aload_n dX4_takeMonths_10 rfl rfl ?_
      refine g_get (a := 53) (v := .ref 7) dX4_takeMonths_11 f_4_20 sh_53 rfl rfl ?_
      refine g_get (a := 5) (v := .int (M.1 5 3)) dX4_takeMonths_14 f_4_43 sh_5 rfl rfl ?_
      refine g_bipush (v := (32 : Int32)) dX4_takeMonths_17 (by decide) ?_
      refine g_ic_ne (t := 90) dX4_takeMonths_19 (by decide) (fun c2 => ?_) (fun c2 => ?_)
      · replace h := z_iff c2 h
        refine g_iload_n dX4_takeMonths_90 rfl rfl ?_
        cases h
        exact g_iret dX4_takeMonths_91 rfl rfl hq
      · replace h := z_ift c2 h
        refine g_aload_n dX4_takeMonths_22 rfl rfl ?_
        refine g_get (a := 53) (v := .ref 7) dX4_takeMonths_23 f_4_20 sh_53 rfl rfl ?_
        refine g_get (a := 5) (v := .int (M.1 5 6)) dX4_takeMonths_26 f_4_128 sh_5 rfl rfl ?_
        refine g_bipush (v := (12 : Int32)) dX4_takeMonths_29 (by decide) ?_
        refine g_ic_ge (t := 60) dX4_takeMonths_31 (by decide) (fun c3 => ?_) (fun c3 => ?_)
        · replace h := z_ift c3 h
          refine g_aload_n dX4_takeMonths_60 rfl rfl ?_
          refine g_get (a := 53) (v := .ref 7) dX4_takeMonths_61 f_4_20 sh_53 rfl rfl ?_
          refine g_iconst (v := (0 : Int32)) dX4_takeMonths_64 (by decide) ?_
          refine g_bipush (v := (11 : Int32)) dX4_takeMonths_65 (by decide) ?_
          obtain ⟨q4, e5, h⟩ := z_bd h
          refine g_callV (a := 5) (as := [.int (0 : Int32), .int (11 : Int32)]) (rest := []) (c := mX7_takeNumber) (k1 := 3) dX4_takeMonths_67 rfl rfl rfl sh_5 rfl rfl (Nat.le_of_ble_eq_true rfl) (Nat.le_of_ble_eq_true rfl) (by decide) ?_
          refine A_X7_takeNumber e5 ?_
          show z_G none 4 mX4_takeMonths 70 [some (.ref 55), some (.int x1), some (.int x2), none] [.int q4.1] q4.2 Q
          refine g_istore_n (ls' := [some (.ref 55), some (.int x1), some (.int x2), some (.int q4.1)]) dX4_takeMonths_70 rfl (Nat.le_of_ble_eq_true rfl) rfl ?_
          refine g_iload_n dX4_takeMonths_71 rfl rfl ?_
          refine g_iconst (v := (-1 : Int32)) dX4_takeMonths_72 (by decide) ?_
          refine g_ic_ne (t := 78) dX4_takeMonths_73 (by decide) (fun c6 => ?_) (fun c6 => ?_)
          · replace h := z_iff c6 h
            refine g_iload_n dX4_takeMonths_78 rfl rfl ?_
            refine g_iconst (v := (1 : Int32)) dX4_takeMonths_79 (by decide) ?_
            refine g_iload_n dX4_takeMonths_80 rfl rfl ?_
            refine g_ishl dX4_takeMonths_81 ?_
            refine g_ior dX4_takeMonths_82 ?_
            refine g_istore_n (ls' := [some (.ref 55), some (.int (x1 ||| ((1 : Int32) <<< (q4.1 &&& 31)))), some (.int x2), some (.int q4.1)]) dX4_takeMonths_83 rfl (Nat.le_of_ble_eq_true rfl) rfl ?_
            refine g_iinc (v := x2 + (1 : Int32)) (ls' := [some (.ref 55), some (.int (x1 ||| ((1 : Int32) <<< (q4.1 &&& 31)))), some (.int (x2 + (1 : Int32))), some (.int q4.1)]) dX4_takeMonths_84 rfl rfl rfl ?_
            refine g_goto (t := 4) dX4_takeMonths_87 (by decide) ?_
            exact g_sub (z_sub_s (z_sub_s (z_sub_s (z_sub_n z_sub_nil)))) (ih _ _ _ _ _ _ h hq)
          · replace h := z_ift c6 h
            refine g_iconst (v := (-1 : Int32)) dX4_takeMonths_76 (by decide) ?_
            cases h
            exact g_iret dX4_takeMonths_77 rfl rfl hq
        · replace h := z_iff c3 h
          refine g_iload_n dX4_takeMonths_34 rfl rfl ?_
          refine g_aload_n dX4_takeMonths_35 rfl rfl ?_
          refine g_get (a := 53) (v := .ref 7) dX4_takeMonths_36 f_4_20 sh_53 rfl rfl ?_
          refine g_get (a := 5) (v := .int (M.1 5 6)) dX4_takeMonths_39 f_4_128 sh_5 rfl rfl ?_
          refine g_ishr dX4_takeMonths_42 ?_
          refine g_iconst (v := (1 : Int32)) dX4_takeMonths_43 (by decide) ?_
          refine g_iand dX4_takeMonths_44 ?_
          refine g_iconst (v := (1 : Int32)) dX4_takeMonths_45 (by decide) ?_
          refine g_ic_ne (t := 60) dX4_takeMonths_46 (by decide) (fun c7 => ?_) (fun c7 => ?_)
          · replace h := z_iff c7 h
            refine g_aload_n dX4_takeMonths_60 rfl rfl ?_
            refine g_get (a := 53) (v := .ref 7) dX4_takeMonths_61 f_4_20 sh_53 rfl rfl ?_
            refine g_iconst (v := (0 : Int32)) dX4_takeMonths_64 (by decide) ?_
            refine g_bipush (v := (11 : Int32)) dX4_takeMonths_65 (by decide) ?_
            obtain ⟨q8, e9, h⟩ := z_bd h
            refine g_callV (a := 5) (as := [.int (0 : Int32), .int (11 : Int32)]) (rest := []) (c := mX7_takeNumber) (k1 := 3) dX4_takeMonths_67 rfl rfl rfl sh_5 rfl rfl (Nat.le_of_ble_eq_true rfl) (Nat.le_of_ble_eq_true rfl) (by decide) ?_
            refine A_X7_takeNumber e9 ?_
            show z_G none 4 mX4_takeMonths 70 [some (.ref 55), some (.int x1), some (.int x2), none] [.int q8.1] q8.2 Q
            refine g_istore_n (ls' := [some (.ref 55), some (.int x1), some (.int x2), some (.int q8.1)]) dX4_takeMonths_70 rfl (Nat.le_of_ble_eq_true rfl) rfl ?_
            refine g_iload_n dX4_takeMonths_71 rfl rfl ?_
            refine g_iconst (v := (-1 : Int32)) dX4_takeMonths_72 (by decide) ?_
            refine g_ic_ne (t := 78) dX4_takeMonths_73 (by decide) (fun c10 => ?_) (fun c10 => ?_)
            · replace h := z_iff c10 h
              refine g_iload_n dX4_takeMonths_78 rfl rfl ?_
              refine g_iconst (v := (1 : Int32)) dX4_takeMonths_79 (by decide) ?_
              refine g_iload_n dX4_takeMonths_80 rfl rfl ?_
              refine g_ishl dX4_takeMonths_81 ?_
              refine g_ior dX4_takeMonths_82 ?_
              refine g_istore_n (ls' := [some (.ref 55), some (.int (x1 ||| ((1 : Int32) <<< (q8.1 &&& 31)))), some (.int x2), some (.int q8.1)]) dX4_takeMonths_83 rfl (Nat.le_of_ble_eq_true rfl) rfl ?_
              refine g_iinc (v := x2 + (1 : Int32)) (ls' := [some (.ref 55), some (.int (x1 ||| ((1 : Int32) <<< (q8.1 &&& 31)))), some (.int (x2 + (1 : Int32))), some (.int q8.1)]) dX4_takeMonths_84 rfl rfl rfl ?_
              refine g_goto (t := 4) dX4_takeMonths_87 (by decide) ?_
              exact g_sub (z_sub_s (z_sub_s (z_sub_s (z_sub_n z_sub_nil)))) (ih _ _ _ _ _ _ h hq)
            · replace h := z_ift c10 h
              refine g_iconst (v := (-1 : Int32)) dX4_takeMonths_76 (by decide) ?_
              cases h
              exact g_iret dX4_takeMonths_77 rfl rfl hq
          · replace h := z_ift c7 h
            refine g_aload_n dX4_takeMonths_49 rfl rfl ?_
            refine g_get (a := 53) (v := .ref 7) dX4_takeMonths_50 f_4_20 sh_53 rfl rfl ?_
            refine g_iconst (v := (5 : Int32)) dX4_takeMonths_53 (by decide) ?_
            obtain ⟨q11, e12, h⟩ := z_bd h
            refine g_callV (a := 5) (as := [.int (5 : Int32)]) (rest := []) (c := mX7_fail) (k1 := 0) dX4_takeMonths_54 rfl rfl rfl sh_5 rfl rfl (Nat.le_of_ble_eq_true rfl) (Nat.le_of_ble_eq_true rfl) (by decide) ?_
            refine A_X7_fail e12 ?_
            show z_G none 4 mX4_takeMonths 57 [some (.ref 55), some (.int x1), some (.int x2), none] [.int (z_tb q11.1)] q11.2 Q
            refine g_pop dX4_takeMonths_57 rfl ?_
            refine g_iconst (v := (-1 : Int32)) dX4_takeMonths_58 (by decide) ?_
            cases h
            exact g_iret dX4_takeMonths_59 rfl rfl hq
def F_X4_takeMonths (w : Nat) (M : z_Mem) : Option (Int32 × z_Mem) :=
  L_X4_takeMonths w w M (0 : Int32) (0 : Int32)
set_option maxHeartbeats 4000000 in
theorem A_X4_takeMonths {w : Nat} {M : z_Mem} {r : Int32} {M' : z_Mem} {Q : Option Value → z_Mem → Prop} (h : F_X4_takeMonths w M = some (r, M')) (hq : Q (some (.int r)) M') : z_Cl 4 mX4_takeMonths [.ref 55] M Q := by
  refine g_in (ls := [some (.ref 55), none, none, none]) rfl ?_
  unfold F_X4_takeMonths at h
  refine g_iconst (v := (0 : Int32)) dX4_takeMonths_0 (by decide) ?_
  refine g_istore_n (ls' := [some (.ref 55), some (.int (0 : Int32)), none, none]) dX4_takeMonths_1 rfl (Nat.le_of_ble_eq_true rfl) rfl ?_
  refine g_iconst (v := (0 : Int32)) dX4_takeMonths_2 (by decide) ?_
  refine g_istore_n (ls' := [some (.ref 55), some (.int (0 : Int32)), some (.int (0 : Int32)), none]) dX4_takeMonths_3 rfl (Nat.le_of_ble_eq_true rfl) rfl ?_
  exact g_sub (z_sub_s (z_sub_s (z_sub_s (z_sub_n z_sub_nil)))) ((AL_X4_takeMonths (w := w) w) _ _ _ _ _ _ h hq)
theorem dX6_add_0 : decode cX6_add 0 = .ok (.aload_n 0, 1) := by decide +kernel
theorem dX6_add_1 : decode cX6_add 1 = .ok (.getfield 25, 3) := by decide +kernel
theorem dX6_add_4 : decode cX6_add 4 = .ok (.bipush 8, 2) := by decide +kernel
theorem dX6_add_6 : decode cX6_add 6 = .ok (.if_icmp .lt 5, 3) := by decide +kernel
theorem dX6_add_9 : decode cX6_add 9 = .ok (.iconst 0, 1) := by decide +kernel
theorem dX6_add_10 : decode cX6_add 10 = .ok (.ireturn, 1) := by decide +kernel
theorem dX6_add_11 : decode cX6_add 11 = .ok (.aload_n 0, 1) := by decide +kernel
theorem dX6_add_12 : decode cX6_add 12 = .ok (.getfield 9, 3) := by decide +kernel
theorem dX6_add_15 : decode cX6_add 15 = .ok (.aload_n 0, 1) := by decide +kernel
theorem dX6_add_16 : decode cX6_add 16 = .ok (.getfield 25, 3) := by decide +kernel
theorem dX6_add_19 : decode cX6_add 19 = .ok (.iload_n 1, 1) := by decide +kernel
theorem dX6_add_20 : decode cX6_add 20 = .ok (.iastore, 1) := by decide +kernel
theorem dX6_add_21 : decode cX6_add 21 = .ok (.aload_n 0, 1) := by decide +kernel
theorem dX6_add_22 : decode cX6_add 22 = .ok (.getfield 13, 3) := by decide +kernel
theorem dX6_add_25 : decode cX6_add 25 = .ok (.aload_n 0, 1) := by decide +kernel
theorem dX6_add_26 : decode cX6_add 26 = .ok (.getfield 25, 3) := by decide +kernel
theorem dX6_add_29 : decode cX6_add 29 = .ok (.iload_n 2, 1) := by decide +kernel
theorem dX6_add_30 : decode cX6_add 30 = .ok (.iastore, 1) := by decide +kernel
theorem dX6_add_31 : decode cX6_add 31 = .ok (.aload_n 0, 1) := by decide +kernel
theorem dX6_add_32 : decode cX6_add 32 = .ok (.getfield 16, 3) := by decide +kernel
theorem dX6_add_35 : decode cX6_add 35 = .ok (.aload_n 0, 1) := by decide +kernel
theorem dX6_add_36 : decode cX6_add 36 = .ok (.getfield 25, 3) := by decide +kernel
theorem dX6_add_39 : decode cX6_add 39 = .ok (.iload_n 3, 1) := by decide +kernel
theorem dX6_add_40 : decode cX6_add 40 = .ok (.iastore, 1) := by decide +kernel
theorem dX6_add_41 : decode cX6_add 41 = .ok (.aload_n 0, 1) := by decide +kernel
theorem dX6_add_42 : decode cX6_add 42 = .ok (.getfield 19, 3) := by decide +kernel
theorem dX6_add_45 : decode cX6_add 45 = .ok (.aload_n 0, 1) := by decide +kernel
theorem dX6_add_46 : decode cX6_add 46 = .ok (.getfield 25, 3) := by decide +kernel
theorem dX6_add_49 : decode cX6_add 49 = .ok (.iload 4, 2) := by decide +kernel
theorem dX6_add_51 : decode cX6_add 51 = .ok (.iastore, 1) := by decide +kernel
theorem dX6_add_52 : decode cX6_add 52 = .ok (.aload_n 0, 1) := by decide +kernel
theorem dX6_add_53 : decode cX6_add 53 = .ok (.getfield 22, 3) := by decide +kernel
theorem dX6_add_56 : decode cX6_add 56 = .ok (.aload_n 0, 1) := by decide +kernel
theorem dX6_add_57 : decode cX6_add 57 = .ok (.getfield 25, 3) := by decide +kernel
theorem dX6_add_60 : decode cX6_add 60 = .ok (.iload 5, 2) := by decide +kernel
theorem dX6_add_62 : decode cX6_add 62 = .ok (.iastore, 1) := by decide +kernel
theorem dX6_add_63 : decode cX6_add 63 = .ok (.aload_n 0, 1) := by decide +kernel
theorem dX6_add_64 : decode cX6_add 64 = .ok (.dup, 1) := by decide +kernel
theorem dX6_add_65 : decode cX6_add 65 = .ok (.getfield 25, 3) := by decide +kernel
theorem dX6_add_68 : decode cX6_add 68 = .ok (.iconst 1, 1) := by decide +kernel
theorem dX6_add_69 : decode cX6_add 69 = .ok (.iadd, 1) := by decide +kernel
theorem dX6_add_70 : decode cX6_add 70 = .ok (.putfield 25, 3) := by decide +kernel
theorem dX6_add_73 : decode cX6_add 73 = .ok (.iconst 1, 1) := by decide +kernel
theorem dX6_add_74 : decode cX6_add 74 = .ok (.ireturn, 1) := by decide +kernel
def F_X6_add (w : Nat) (M : z_Mem) (p : Nat) (a1 : Int32) (a2 : Int32) (a3 : Int32) (a4 : Int32) (a5 : Int32) : Option (Bool × z_Mem) :=
  if (M.1 (p + 2) 5) < (8 : Int32) then
  if (M.1 (p + 2) 5) < 0 ∨ 8 ≤ (M.1 (p + 2) 5).toNatClampNeg then none else
  if (M.1 (p + 2) 5) < 0 ∨ 8 ≤ (M.1 (p + 2) 5).toNatClampNeg then none else
  if (M.1 (p + 2) 5) < 0 ∨ 8 ≤ (M.1 (p + 2) 5).toNatClampNeg then none else
  if (M.1 (p + 2) 5) < 0 ∨ 8 ≤ (M.1 (p + 2) 5).toNatClampNeg then none else
  if (M.1 (p + 2) 5) < 0 ∨ 8 ≤ (M.1 (p + 2) 5).toNatClampNeg then none else
  some (true, (z_wI (z_wI (z_wI (z_wI (z_wI (z_wI M (p + 3) ((M.1 (p + 2) 5).toNatClampNeg) a1) (p + 4) ((M.1 (p + 2) 5).toNatClampNeg) a2) (p + 5) ((M.1 (p + 2) 5).toNatClampNeg) a3) (p + 6) ((M.1 (p + 2) 5).toNatClampNeg) a4) (p + 7) ((M.1 (p + 2) 5).toNatClampNeg) a5) (p + 2) 5 ((M.1 (p + 2) 5) + (1 : Int32))))
  else
  some (false, M)
set_option maxHeartbeats 4000000 in
theorem A_X6_add {w : Nat} {M : z_Mem} {p : Nat} (hp : z_par p) {a1 : Int32} {a2 : Int32} {a3 : Int32} {a4 : Int32} {a5 : Int32} {r : Bool} {M' : z_Mem} {Q : Option Value → z_Mem → Prop} (h : F_X6_add w M p a1 a2 a3 a4 a5 = some (r, M')) (hq : Q (some (.int (z_tb r))) M') : z_Cl 0 mX6_add [.ref (p + 4), .int a1, .int a2, .int a3, .int a4, .int a5] M Q := by
  refine g_in (ls := [some (.ref (p + 4)), some (.int a1), some (.int a2), some (.int a3), some (.int a4), some (.int a5)]) rfl ?_
  unfold F_X6_add at h
  refine g_aload_n dX6_add_0 rfl rfl ?_
  refine g_get (a := p + 2) (v := .int (M.1 (p + 2) 5)) dX6_add_1 f_6_25 (shp_2 hp) rfl rfl ?_
  refine g_bipush (v := (8 : Int32)) dX6_add_4 (by decide) ?_
  refine g_ic_lt (t := 11) dX6_add_6 (by decide) (fun c1 => ?_) (fun c1 => ?_)
  · replace h := z_ift c1 h
    refine g_aload_n dX6_add_11 rfl rfl ?_
    refine g_get (a := p + 2) (v := .ref (p + 5)) dX6_add_12 f_6_9 (shp_2 hp) rfl rfl ?_
    refine g_aload_n dX6_add_15 rfl rfl ?_
    refine g_get (a := p + 2) (v := .int (M.1 (p + 2) 5)) dX6_add_16 f_6_25 (shp_2 hp) rfl rfl ?_
    refine g_iload_n dX6_add_19 rfl rfl ?_
    by_cases g2 : (M.1 (p + 2) 5) < 0 ∨ 8 ≤ (M.1 (p + 2) 5).toNatClampNeg
    · rw [if_pos g2] at h; cases h
    replace h := z_iff g2 h
    refine g_iast (a := p + 3) dX6_add_20 (shp_3 hp) g2 ?_
    refine g_aload_n dX6_add_21 rfl rfl ?_
    refine g_get (a := p + 2) (v := .ref (p + 6)) dX6_add_22 f_6_13 (shp_2 hp) rfl rfl ?_
    refine g_aload_n dX6_add_25 rfl rfl ?_
    refine g_get (a := p + 2) (v := .int (M.1 (p + 2) 5)) dX6_add_26 f_6_25 (shp_2 hp) rfl (by simp [z_fv, z_wI, z_wL, z_wLs, upd, vp_updL]) ?_
    refine g_iload_n dX6_add_29 rfl rfl ?_
    by_cases g3 : (M.1 (p + 2) 5) < 0 ∨ 8 ≤ (M.1 (p + 2) 5).toNatClampNeg
    · rw [if_pos g3] at h; cases h
    replace h := z_iff g3 h
    refine g_iast (a := p + 4) dX6_add_30 (shp_4 hp) g3 ?_
    refine g_aload_n dX6_add_31 rfl rfl ?_
    refine g_get (a := p + 2) (v := .ref (p + 7)) dX6_add_32 f_6_16 (shp_2 hp) rfl rfl ?_
    refine g_aload_n dX6_add_35 rfl rfl ?_
    refine g_get (a := p + 2) (v := .int (M.1 (p + 2) 5)) dX6_add_36 f_6_25 (shp_2 hp) rfl (by simp [z_fv, z_wI, z_wL, z_wLs, upd, vp_updL]) ?_
    refine g_iload_n dX6_add_39 rfl rfl ?_
    by_cases g4 : (M.1 (p + 2) 5) < 0 ∨ 8 ≤ (M.1 (p + 2) 5).toNatClampNeg
    · rw [if_pos g4] at h; cases h
    replace h := z_iff g4 h
    refine g_iast (a := p + 5) dX6_add_40 (shp_5 hp) g4 ?_
    refine g_aload_n dX6_add_41 rfl rfl ?_
    refine g_get (a := p + 2) (v := .ref (p + 8)) dX6_add_42 f_6_19 (shp_2 hp) rfl rfl ?_
    refine g_aload_n dX6_add_45 rfl rfl ?_
    refine g_get (a := p + 2) (v := .int (M.1 (p + 2) 5)) dX6_add_46 f_6_25 (shp_2 hp) rfl (by simp [z_fv, z_wI, z_wL, z_wLs, upd, vp_updL]) ?_
    refine g_iload dX6_add_49 rfl ?_
    by_cases g5 : (M.1 (p + 2) 5) < 0 ∨ 8 ≤ (M.1 (p + 2) 5).toNatClampNeg
    · rw [if_pos g5] at h; cases h
    replace h := z_iff g5 h
    refine g_iast (a := p + 6) dX6_add_51 (shp_6 hp) g5 ?_
    refine g_aload_n dX6_add_52 rfl rfl ?_
    refine g_get (a := p + 2) (v := .ref (p + 9)) dX6_add_53 f_6_22 (shp_2 hp) rfl rfl ?_
    refine g_aload_n dX6_add_56 rfl rfl ?_
    refine g_get (a := p + 2) (v := .int (M.1 (p + 2) 5)) dX6_add_57 f_6_25 (shp_2 hp) rfl (by simp [z_fv, z_wI, z_wL, z_wLs, upd, vp_updL]) ?_
    refine g_iload dX6_add_60 rfl ?_
    by_cases g6 : (M.1 (p + 2) 5) < 0 ∨ 8 ≤ (M.1 (p + 2) 5).toNatClampNeg
    · rw [if_pos g6] at h; cases h
    replace h := z_iff g6 h
    refine g_iast (a := p + 7) dX6_add_62 (shp_7 hp) g6 ?_
    refine g_aload_n dX6_add_63 rfl rfl ?_
    refine g_dup dX6_add_64 rfl ?_
    refine g_get (a := p + 2) (v := .int (M.1 (p + 2) 5)) dX6_add_65 f_6_25 (shp_2 hp) rfl (by simp [z_fv, z_wI, z_wL, z_wLs, upd, vp_updL]) ?_
    refine g_iconst (v := (1 : Int32)) dX6_add_68 (by decide) ?_
    refine g_iadd dX6_add_69 ?_
    refine g_putI (a := p + 2) dX6_add_70 f_6_25 (shp_2 hp) rfl rfl rfl ?_
    refine g_iconst (v := (1 : Int32)) dX6_add_73 (by decide) ?_
    cases h
    exact g_iret dX6_add_74 rfl rfl hq
  · replace h := z_iff c1 h
    refine g_iconst (v := (0 : Int32)) dX6_add_9 (by decide) ?_
    cases h
    exact g_iret dX6_add_10 rfl rfl hq
theorem dX4_readRight_0 : decode cX4_readRight 0 = .ok (.aload_n 0, 1) := by decide +kernel
theorem dX4_readRight_1 : decode cX4_readRight 1 = .ok (.aload_n 0, 1) := by decide +kernel
theorem dX4_readRight_2 : decode cX4_readRight 2 = .ok (.getfield 24, 3) := by decide +kernel
theorem dX4_readRight_5 : decode cX4_readRight 5 = .ok (.getfield 105, 3) := by decide +kernel
theorem dX4_readRight_8 : decode cX4_readRight 8 = .ok (.getfield 109, 3) := by decide +kernel
theorem dX4_readRight_11 : decode cX4_readRight 11 = .ok (.bipush 8, 2) := by decide +kernel
theorem dX4_readRight_13 : decode cX4_readRight 13 = .ok (.invokevirtual 114, 3) := by decide +kernel
theorem dX4_readRight_16 : decode cX4_readRight 16 = .ok (.ifCond .ne 5, 3) := by decide +kernel
theorem dX4_readRight_19 : decode cX4_readRight 19 = .ok (.iconst 0, 1) := by decide +kernel
theorem dX4_readRight_20 : decode cX4_readRight 20 = .ok (.ireturn, 1) := by decide +kernel
theorem dX4_readRight_21 : decode cX4_readRight 21 = .ok (.aload_n 0, 1) := by decide +kernel
theorem dX4_readRight_22 : decode cX4_readRight 22 = .ok (.getfield 20, 3) := by decide +kernel
theorem dX4_readRight_25 : decode cX4_readRight 25 = .ok (.invokevirtual 81, 3) := by decide +kernel
theorem dX4_readRight_28 : decode cX4_readRight 28 = .ok (.aload_n 0, 1) := by decide +kernel
theorem dX4_readRight_29 : decode cX4_readRight 29 = .ok (.getfield 20, 3) := by decide +kernel
theorem dX4_readRight_32 : decode cX4_readRight 32 = .ok (.invokevirtual 92, 3) := by decide +kernel
theorem dX4_readRight_35 : decode cX4_readRight 35 = .ok (.istore_n 1, 1) := by decide +kernel
theorem dX4_readRight_36 : decode cX4_readRight 36 = .ok (.iload_n 1, 1) := by decide +kernel
theorem dX4_readRight_37 : decode cX4_readRight 37 = .ok (.iconst (-1), 1) := by decide +kernel
theorem dX4_readRight_38 : decode cX4_readRight 38 = .ok (.if_icmp .ne 5, 3) := by decide +kernel
theorem dX4_readRight_41 : decode cX4_readRight 41 = .ok (.iconst 0, 1) := by decide +kernel
theorem dX4_readRight_42 : decode cX4_readRight 42 = .ok (.ireturn, 1) := by decide +kernel
theorem dX4_readRight_43 : decode cX4_readRight 43 = .ok (.aload_n 0, 1) := by decide +kernel
theorem dX4_readRight_44 : decode cX4_readRight 44 = .ok (.invokevirtual 118, 3) := by decide +kernel
theorem dX4_readRight_47 : decode cX4_readRight 47 = .ok (.istore_n 2, 1) := by decide +kernel
theorem dX4_readRight_48 : decode cX4_readRight 48 = .ok (.iload_n 2, 1) := by decide +kernel
theorem dX4_readRight_49 : decode cX4_readRight 49 = .ok (.iconst (-1), 1) := by decide +kernel
theorem dX4_readRight_50 : decode cX4_readRight 50 = .ok (.if_icmp .ne 5, 3) := by decide +kernel
theorem dX4_readRight_53 : decode cX4_readRight 53 = .ok (.iconst 0, 1) := by decide +kernel
theorem dX4_readRight_54 : decode cX4_readRight 54 = .ok (.ireturn, 1) := by decide +kernel
theorem dX4_readRight_55 : decode cX4_readRight 55 = .ok (.aload_n 0, 1) := by decide +kernel
theorem dX4_readRight_56 : decode cX4_readRight 56 = .ok (.getfield 20, 3) := by decide +kernel
theorem dX4_readRight_59 : decode cX4_readRight 59 = .ok (.invokevirtual 81, 3) := by decide +kernel
theorem dX4_readRight_62 : decode cX4_readRight 62 = .ok (.iload_n 2, 1) := by decide +kernel
theorem dX4_readRight_63 : decode cX4_readRight 63 = .ok (.iconst 2, 1) := by decide +kernel
theorem dX4_readRight_64 : decode cX4_readRight 64 = .ok (.if_icmp .ne 16, 3) := by decide +kernel
theorem dX4_readRight_67 : decode cX4_readRight 67 = .ok (.aload_n 0, 1) := by decide +kernel
theorem dX4_readRight_68 : decode cX4_readRight 68 = .ok (.getfield 20, 3) := by decide +kernel
theorem dX4_readRight_71 : decode cX4_readRight 71 = .ok (.iconst 1, 1) := by decide +kernel
theorem dX4_readRight_72 : decode cX4_readRight 72 = .ok (.bipush 6, 2) := by decide +kernel
theorem dX4_readRight_74 : decode cX4_readRight 74 = .ok (.invokevirtual 84, 3) := by decide +kernel
theorem dX4_readRight_77 : decode cX4_readRight 77 = .ok (.goto 4, 3) := by decide +kernel
theorem dX4_readRight_80 : decode cX4_readRight 80 = .ok (.iconst 0, 1) := by decide +kernel
theorem dX4_readRight_81 : decode cX4_readRight 81 = .ok (.istore_n 3, 1) := by decide +kernel
theorem dX4_readRight_82 : decode cX4_readRight 82 = .ok (.iload_n 3, 1) := by decide +kernel
theorem dX4_readRight_83 : decode cX4_readRight 83 = .ok (.iconst (-1), 1) := by decide +kernel
theorem dX4_readRight_84 : decode cX4_readRight 84 = .ok (.if_icmp .eq 15, 3) := by decide +kernel
theorem dX4_readRight_87 : decode cX4_readRight 87 = .ok (.aload_n 0, 1) := by decide +kernel
theorem dX4_readRight_88 : decode cX4_readRight 88 = .ok (.getfield 20, 3) := by decide +kernel
theorem dX4_readRight_91 : decode cX4_readRight 91 = .ok (.bipush 6, 2) := by decide +kernel
theorem dX4_readRight_93 : decode cX4_readRight 93 = .ok (.invokevirtual 75, 3) := by decide +kernel
theorem dX4_readRight_96 : decode cX4_readRight 96 = .ok (.ifCond .ne 5, 3) := by decide +kernel
theorem dX4_readRight_99 : decode cX4_readRight 99 = .ok (.iconst 0, 1) := by decide +kernel
theorem dX4_readRight_100 : decode cX4_readRight 100 = .ok (.ireturn, 1) := by decide +kernel
theorem dX4_readRight_101 : decode cX4_readRight 101 = .ok (.aload_n 0, 1) := by decide +kernel
theorem dX4_readRight_102 : decode cX4_readRight 102 = .ok (.getfield 20, 3) := by decide +kernel
theorem dX4_readRight_105 : decode cX4_readRight 105 = .ok (.iconst 1, 1) := by decide +kernel
theorem dX4_readRight_106 : decode cX4_readRight 106 = .ok (.bipush 50, 2) := by decide +kernel
theorem dX4_readRight_108 : decode cX4_readRight 108 = .ok (.invokevirtual 84, 3) := by decide +kernel
theorem dX4_readRight_111 : decode cX4_readRight 111 = .ok (.istore 4, 2) := by decide +kernel
theorem dX4_readRight_113 : decode cX4_readRight 113 = .ok (.iload 4, 2) := by decide +kernel
theorem dX4_readRight_115 : decode cX4_readRight 115 = .ok (.iconst (-1), 1) := by decide +kernel
theorem dX4_readRight_116 : decode cX4_readRight 116 = .ok (.if_icmp .eq 15, 3) := by decide +kernel
theorem dX4_readRight_119 : decode cX4_readRight 119 = .ok (.aload_n 0, 1) := by decide +kernel
theorem dX4_readRight_120 : decode cX4_readRight 120 = .ok (.getfield 20, 3) := by decide +kernel
theorem dX4_readRight_123 : decode cX4_readRight 123 = .ok (.bipush 7, 2) := by decide +kernel
theorem dX4_readRight_125 : decode cX4_readRight 125 = .ok (.invokevirtual 75, 3) := by decide +kernel
theorem dX4_readRight_128 : decode cX4_readRight 128 = .ok (.ifCond .ne 5, 3) := by decide +kernel
theorem dX4_readRight_131 : decode cX4_readRight 131 = .ok (.iconst 0, 1) := by decide +kernel
theorem dX4_readRight_132 : decode cX4_readRight 132 = .ok (.ireturn, 1) := by decide +kernel
theorem dX4_readRight_133 : decode cX4_readRight 133 = .ok (.aload_n 0, 1) := by decide +kernel
theorem dX4_readRight_134 : decode cX4_readRight 134 = .ok (.invokevirtual 121, 3) := by decide +kernel
theorem dX4_readRight_137 : decode cX4_readRight 137 = .ok (.istore 5, 2) := by decide +kernel
theorem dX4_readRight_139 : decode cX4_readRight 139 = .ok (.iload 5, 2) := by decide +kernel
theorem dX4_readRight_141 : decode cX4_readRight 141 = .ok (.iconst (-1), 1) := by decide +kernel
theorem dX4_readRight_142 : decode cX4_readRight 142 = .ok (.if_icmp .eq 27, 3) := by decide +kernel
theorem dX4_readRight_145 : decode cX4_readRight 145 = .ok (.aload_n 0, 1) := by decide +kernel
theorem dX4_readRight_146 : decode cX4_readRight 146 = .ok (.getfield 24, 3) := by decide +kernel
theorem dX4_readRight_149 : decode cX4_readRight 149 = .ok (.getfield 105, 3) := by decide +kernel
theorem dX4_readRight_152 : decode cX4_readRight 152 = .ok (.iload_n 1, 1) := by decide +kernel
theorem dX4_readRight_153 : decode cX4_readRight 153 = .ok (.iload_n 2, 1) := by decide +kernel
theorem dX4_readRight_154 : decode cX4_readRight 154 = .ok (.iload_n 3, 1) := by decide +kernel
theorem dX4_readRight_155 : decode cX4_readRight 155 = .ok (.iload 4, 2) := by decide +kernel
theorem dX4_readRight_157 : decode cX4_readRight 157 = .ok (.iload 5, 2) := by decide +kernel
theorem dX4_readRight_159 : decode cX4_readRight 159 = .ok (.invokevirtual 124, 3) := by decide +kernel
theorem dX4_readRight_162 : decode cX4_readRight 162 = .ok (.ifCond .eq 7, 3) := by decide +kernel
theorem dX4_readRight_165 : decode cX4_readRight 165 = .ok (.iconst 1, 1) := by decide +kernel
theorem dX4_readRight_166 : decode cX4_readRight 166 = .ok (.goto 4, 3) := by decide +kernel
theorem dX4_readRight_169 : decode cX4_readRight 169 = .ok (.iconst 0, 1) := by decide +kernel
theorem dX4_readRight_170 : decode cX4_readRight 170 = .ok (.ireturn, 1) := by decide +kernel
def F_X4_readRight (w : Nat) (M : z_Mem) : Option (Bool × z_Mem) :=
  (F_X4_hasRoom w M (M.1 32 5) (8 : Int32)).bind fun q1 =>
  if q1.1 = true then
  (F_X7_advance w q1.2).bind fun q4 =>
  (F_X7_takeSide w q4.2).bind fun q6 =>
  if q6.1 = (-1 : Int32) then
  some (false, q6.2)
  else
  (F_X4_kindHere w q6.2).bind fun q9 =>
  if q9.1 = (-1 : Int32) then
  some (false, q9.2)
  else
  (F_X7_advance w q9.2).bind fun q12 =>
  if q9.1 = (2 : Int32) then
  (F_X7_takeNumber w q12.2 (1 : Int32) (6 : Int32)).bind fun q31 =>
  if q31.1 = (-1 : Int32) then
  some (false, q31.2)
  else
  (F_X7_take w q31.2 (6 : Int32)).bind fun q34 =>
  if q34.1 = true then
  (F_X7_takeNumber w q34.2 (1 : Int32) (50 : Int32)).bind fun q37 =>
  if q37.1 = (-1 : Int32) then
  some (false, q37.2)
  else
  (F_X7_take w q37.2 (7 : Int32)).bind fun q40 =>
  if q40.1 = true then
  (F_X4_takeMonths w q40.2).bind fun q43 =>
  if q43.1 = (-1 : Int32) then
  some (false, q43.2)
  else
  (F_X6_add w q43.2 30 q6.1 q9.1 q31.1 q37.1 q43.1).bind fun q46 =>
  if q46.1 = true then
  some (true, q46.2)
  else
  some (false, q46.2)
  else
  some (false, q40.2)
  else
  some (false, q34.2)
  else
  (F_X7_take w q12.2 (6 : Int32)).bind fun q16 =>
  if q16.1 = true then
  (F_X7_takeNumber w q16.2 (1 : Int32) (50 : Int32)).bind fun q19 =>
  if q19.1 = (-1 : Int32) then
  some (false, q19.2)
  else
  (F_X7_take w q19.2 (7 : Int32)).bind fun q22 =>
  if q22.1 = true then
  (F_X4_takeMonths w q22.2).bind fun q25 =>
  if q25.1 = (-1 : Int32) then
  some (false, q25.2)
  else
  (F_X6_add w q25.2 30 q6.1 q9.1 (0 : Int32) q19.1 q25.1).bind fun q28 =>
  if q28.1 = true then
  some (true, q28.2)
  else
  some (false, q28.2)
  else
  some (false, q22.2)
  else
  some (false, q16.2)
  else
  some (false, q1.2)
set_option maxHeartbeats 4000000 in
theorem A_X4_readRight {w : Nat} {M : z_Mem} {r : Bool} {M' : z_Mem} {Q : Option Value → z_Mem → Prop} (h : F_X4_readRight w M = some (r, M')) (hq : Q (some (.int (z_tb r))) M') : z_Cl 5 mX4_readRight [.ref 55] M Q := by
  refine g_in (ls := [some (.ref 55), none, none, none, none, none]) rfl ?_
  unfold F_X4_readRight at h
  refine g_aload_n dX4_readRight_0 rfl rfl ?_
  refine g_aload_n dX4_readRight_1 rfl rfl ?_
  refine g_get (a := 53) (v := .ref 32) dX4_readRight_2 f_4_24 sh_53 rfl rfl ?_
  refine g_get (a := 30) (v := .ref 34) dX4_readRight_5 f_4_105 sh_30 rfl rfl ?_
  refine g_get (a := 32) (v := .int (M.1 32 5)) dX4_readRight_8 f_4_109 sh_32 rfl rfl ?_
  refine g_bipush (v := (8 : Int32)) dX4_readRight_11 (by decide) ?_
  obtain ⟨q1, e2, h⟩ := z_bd h
  refine g_callV (a := 53) (as := [.int (M.1 32 5), .int (8 : Int32)]) (rest := []) (c := mX4_hasRoom) (k1 := 1) dX4_readRight_13 rfl rfl rfl sh_53 rfl rfl (Nat.le_of_ble_eq_true rfl) (Nat.le_of_ble_eq_true rfl) (by decide) ?_
  refine A_X4_hasRoom e2 ?_
  show z_G none 5 mX4_readRight 16 [some (.ref 55), none, none, none, none, none] [.int (z_tb q1.1)] q1.2 Q
  refine g_if_ne (t := 21) dX4_readRight_16 (by decide) (fun c3 => ?_) (fun c3 => ?_)
  · replace h := z_ift (z_tbn.mp c3) h
    refine g_aload_n dX4_readRight_21 rfl rfl ?_
    refine g_get (a := 53) (v := .ref 7) dX4_readRight_22 f_4_20 sh_53 rfl rfl ?_
    obtain ⟨q4, e5, h⟩ := z_bd h
    refine g_callV (a := 5) (as := []) (rest := []) (c := mX7_advance) (k1 := 2) dX4_readRight_25 rfl rfl rfl sh_5 rfl rfl (Nat.le_of_ble_eq_true rfl) (Nat.le_of_ble_eq_true rfl) (by decide) ?_
    refine A_X7_advance e5 ?_
    show z_G none 5 mX4_readRight 28 [some (.ref 55), none, none, none, none, none] [] q4.2 Q
    refine g_aload_n dX4_readRight_28 rfl rfl ?_
    refine g_get (a := 53) (v := .ref 7) dX4_readRight_29 f_4_20 sh_53 rfl rfl ?_
    obtain ⟨q6, e7, h⟩ := z_bd h
    refine g_callV (a := 5) (as := []) (rest := []) (c := mX7_takeSide) (k1 := 3) dX4_readRight_32 rfl rfl rfl sh_5 rfl rfl (Nat.le_of_ble_eq_true rfl) (Nat.le_of_ble_eq_true rfl) (by decide) ?_
    refine A_X7_takeSide e7 ?_
    show z_G none 5 mX4_readRight 35 [some (.ref 55), none, none, none, none, none] [.int q6.1] q6.2 Q
    refine g_istore_n (ls' := [some (.ref 55), some (.int q6.1), none, none, none, none]) dX4_readRight_35 rfl (Nat.le_of_ble_eq_true rfl) rfl ?_
    refine g_iload_n dX4_readRight_36 rfl rfl ?_
    refine g_iconst (v := (-1 : Int32)) dX4_readRight_37 (by decide) ?_
    refine g_ic_ne (t := 43) dX4_readRight_38 (by decide) (fun c8 => ?_) (fun c8 => ?_)
    · replace h := z_iff c8 h
      refine g_aload_n dX4_readRight_43 rfl rfl ?_
      obtain ⟨q9, e10, h⟩ := z_bd h
      refine g_callV (a := 53) (as := []) (rest := []) (c := mX4_kindHere) (k1 := 1) dX4_readRight_44 rfl rfl rfl sh_53 rfl rfl (Nat.le_of_ble_eq_true rfl) (Nat.le_of_ble_eq_true rfl) (by decide) ?_
      refine A_X4_kindHere e10 ?_
      show z_G none 5 mX4_readRight 47 [some (.ref 55), some (.int q6.1), none, none, none, none] [.int q9.1] q9.2 Q
      refine g_istore_n (ls' := [some (.ref 55), some (.int q6.1), some (.int q9.1), none, none, none]) dX4_readRight_47 rfl (Nat.le_of_ble_eq_true rfl) rfl ?_
      refine g_iload_n dX4_readRight_48 rfl rfl ?_
      refine g_iconst (v := (-1 : Int32)) dX4_readRight_49 (by decide) ?_
      refine g_ic_ne (t := 55) dX4_readRight_50 (by decide) (fun c11 => ?_) (fun c11 => ?_)
      · replace h := z_iff c11 h
        refine g_aload_n dX4_readRight_55 rfl rfl ?_
        refine g_get (a := 53) (v := .ref 7) dX4_readRight_56 f_4_20 sh_53 rfl rfl ?_
        obtain ⟨q12, e13, h⟩ := z_bd h
        refine g_callV (a := 5) (as := []) (rest := []) (c := mX7_advance) (k1 := 2) dX4_readRight_59 rfl rfl rfl sh_5 rfl rfl (Nat.le_of_ble_eq_true rfl) (Nat.le_of_ble_eq_true rfl) (by decide) ?_
        refine A_X7_advance e13 ?_
        show z_G none 5 mX4_readRight 62 [some (.ref 55), some (.int q6.1), some (.int q9.1), none, none, none] [] q12.2 Q
        refine g_iload_n dX4_readRight_62 rfl rfl ?_
        refine g_iconst (v := (2 : Int32)) dX4_readRight_63 (by decide) ?_
        refine g_ic_ne (t := 80) dX4_readRight_64 (by decide) (fun c14 => ?_) (fun c14 => ?_)
        · replace h := z_iff c14 h
          refine g_iconst (v := (0 : Int32)) dX4_readRight_80 (by decide) ?_
          refine g_istore_n (ls' := [some (.ref 55), some (.int q6.1), some (.int q9.1), some (.int (0 : Int32)), none, none]) dX4_readRight_81 rfl (Nat.le_of_ble_eq_true rfl) rfl ?_
          refine g_iload_n dX4_readRight_82 rfl rfl ?_
          refine g_iconst (v := (-1 : Int32)) dX4_readRight_83 (by decide) ?_
          refine g_ic_eq (t := 99) dX4_readRight_84 (by decide) (fun c15 => ?_) (fun c15 => ?_)
          · exact absurd c15 (by decide)
          · skip
            refine g_aload_n dX4_readRight_87 rfl rfl ?_
            refine g_get (a := 53) (v := .ref 7) dX4_readRight_88 f_4_20 sh_53 rfl rfl ?_
            refine g_bipush (v := (6 : Int32)) dX4_readRight_91 (by decide) ?_
            obtain ⟨q16, e17, h⟩ := z_bd h
            refine g_callV (a := 5) (as := [.int (6 : Int32)]) (rest := []) (c := mX7_take) (k1 := 3) dX4_readRight_93 rfl rfl rfl sh_5 rfl rfl (Nat.le_of_ble_eq_true rfl) (Nat.le_of_ble_eq_true rfl) (by decide) ?_
            refine A_X7_take e17 ?_
            show z_G none 5 mX4_readRight 96 [some (.ref 55), some (.int q6.1), some (.int q9.1), some (.int (0 : Int32)), none, none] [.int (z_tb q16.1)] q16.2 Q
            refine g_if_ne (t := 101) dX4_readRight_96 (by decide) (fun c18 => ?_) (fun c18 => ?_)
            · replace h := z_ift (z_tbn.mp c18) h
              refine g_aload_n dX4_readRight_101 rfl rfl ?_
              refine g_get (a := 53) (v := .ref 7) dX4_readRight_102 f_4_20 sh_53 rfl rfl ?_
              refine g_iconst (v := (1 : Int32)) dX4_readRight_105 (by decide) ?_
              refine g_bipush (v := (50 : Int32)) dX4_readRight_106 (by decide) ?_
              obtain ⟨q19, e20, h⟩ := z_bd h
              refine g_callV (a := 5) (as := [.int (1 : Int32), .int (50 : Int32)]) (rest := []) (c := mX7_takeNumber) (k1 := 3) dX4_readRight_108 rfl rfl rfl sh_5 rfl rfl (Nat.le_of_ble_eq_true rfl) (Nat.le_of_ble_eq_true rfl) (by decide) ?_
              refine A_X7_takeNumber e20 ?_
              show z_G none 5 mX4_readRight 111 [some (.ref 55), some (.int q6.1), some (.int q9.1), some (.int (0 : Int32)), none, none] [.int q19.1] q19.2 Q
              refine g_istore (ls' := [some (.ref 55), some (.int q6.1), some (.int q9.1), some (.int (0 : Int32)), some (.int q19.1), none]) dX4_readRight_111 (Nat.le_of_ble_eq_true rfl) rfl ?_
              refine g_iload dX4_readRight_113 rfl ?_
              refine g_iconst (v := (-1 : Int32)) dX4_readRight_115 (by decide) ?_
              refine g_ic_eq (t := 131) dX4_readRight_116 (by decide) (fun c21 => ?_) (fun c21 => ?_)
              · replace h := z_ift c21 h
                refine g_iconst (v := (0 : Int32)) dX4_readRight_131 (by decide) ?_
                cases h
                exact g_iret dX4_readRight_132 rfl rfl hq
              · replace h := z_iff c21 h
                refine g_aload_n dX4_readRight_119 rfl rfl ?_
                refine g_get (a := 53) (v := .ref 7) dX4_readRight_120 f_4_20 sh_53 rfl rfl ?_
                refine g_bipush (v := (7 : Int32)) dX4_readRight_123 (by decide) ?_
                obtain ⟨q22, e23, h⟩ := z_bd h
                refine g_callV (a := 5) (as := [.int (7 : Int32)]) (rest := []) (c := mX7_take) (k1 := 3) dX4_readRight_125 rfl rfl rfl sh_5 rfl rfl (Nat.le_of_ble_eq_true rfl) (Nat.le_of_ble_eq_true rfl) (by decide) ?_
                refine A_X7_take e23 ?_
                show z_G none 5 mX4_readRight 128 [some (.ref 55), some (.int q6.1), some (.int q9.1), some (.int (0 : Int32)), some (.int q19.1), none] [.int (z_tb q22.1)] q22.2 Q
                refine g_if_ne (t := 133) dX4_readRight_128 (by decide) (fun c24 => ?_) (fun c24 => ?_)
                · replace h := z_ift (z_tbn.mp c24) h
                  refine g_aload_n dX4_readRight_133 rfl rfl ?_
                  obtain ⟨q25, e26, h⟩ := z_bd h
                  refine g_callV (a := 53) (as := []) (rest := []) (c := mX4_takeMonths) (k1 := 4) dX4_readRight_134 rfl rfl rfl sh_53 rfl rfl (Nat.le_of_ble_eq_true rfl) (Nat.le_of_ble_eq_true rfl) (by decide) ?_
                  refine A_X4_takeMonths e26 ?_
                  show z_G none 5 mX4_readRight 137 [some (.ref 55), some (.int q6.1), some (.int q9.1), some (.int (0 : Int32)), some (.int q19.1), none] [.int q25.1] q25.2 Q
                  refine g_istore (ls' := [some (.ref 55), some (.int q6.1), some (.int q9.1), some (.int (0 : Int32)), some (.int q19.1), some (.int q25.1)]) dX4_readRight_137 (Nat.le_of_ble_eq_true rfl) rfl ?_
                  refine g_iload dX4_readRight_139 rfl ?_
                  refine g_iconst (v := (-1 : Int32)) dX4_readRight_141 (by decide) ?_
                  refine g_ic_eq (t := 169) dX4_readRight_142 (by decide) (fun c27 => ?_) (fun c27 => ?_)
                  · replace h := z_ift c27 h
                    refine g_iconst (v := (0 : Int32)) dX4_readRight_169 (by decide) ?_
                    cases h
                    exact g_iret dX4_readRight_170 rfl rfl hq
                  · replace h := z_iff c27 h
                    refine g_aload_n dX4_readRight_145 rfl rfl ?_
                    refine g_get (a := 53) (v := .ref 32) dX4_readRight_146 f_4_24 sh_53 rfl rfl ?_
                    refine g_get (a := 30) (v := .ref 34) dX4_readRight_149 f_4_105 sh_30 rfl rfl ?_
                    refine g_iload_n dX4_readRight_152 rfl rfl ?_
                    refine g_iload_n dX4_readRight_153 rfl rfl ?_
                    refine g_iload_n dX4_readRight_154 rfl rfl ?_
                    refine g_iload dX4_readRight_155 rfl ?_
                    refine g_iload dX4_readRight_157 rfl ?_
                    obtain ⟨q28, e29, h⟩ := z_bd h
                    refine g_callV (a := 32) (as := [.int q6.1, .int q9.1, .int (0 : Int32), .int q19.1, .int q25.1]) (rest := []) (c := mX6_add) (k1 := 0) dX4_readRight_159 rfl rfl rfl sh_32 rfl rfl (Nat.le_of_ble_eq_true rfl) (Nat.le_of_ble_eq_true rfl) (by decide) ?_
                    refine A_X6_add z_par_30 e29 ?_
                    show z_G none 5 mX4_readRight 162 [some (.ref 55), some (.int q6.1), some (.int q9.1), some (.int (0 : Int32)), some (.int q19.1), some (.int q25.1)] [.int (z_tb q28.1)] q28.2 Q
                    refine g_if_eq (t := 169) dX4_readRight_162 (by decide) (fun c30 => ?_) (fun c30 => ?_)
                    · replace h := z_iff (z_tb0.mp c30) h
                      refine g_iconst (v := (0 : Int32)) dX4_readRight_169 (by decide) ?_
                      cases h
                      exact g_iret dX4_readRight_170 rfl rfl hq
                    · replace h := z_ift (z_tbn.mp c30) h
                      refine g_iconst (v := (1 : Int32)) dX4_readRight_165 (by decide) ?_
                      refine g_goto (t := 170) dX4_readRight_166 (by decide) ?_
                      cases h
                      exact g_iret dX4_readRight_170 rfl rfl hq
                · replace h := z_iff (z_tb0.mp c24) h
                  refine g_iconst (v := (0 : Int32)) dX4_readRight_131 (by decide) ?_
                  cases h
                  exact g_iret dX4_readRight_132 rfl rfl hq
            · replace h := z_iff (z_tb0.mp c18) h
              refine g_iconst (v := (0 : Int32)) dX4_readRight_99 (by decide) ?_
              cases h
              exact g_iret dX4_readRight_100 rfl rfl hq
        · replace h := z_ift c14 h
          refine g_aload_n dX4_readRight_67 rfl rfl ?_
          refine g_get (a := 53) (v := .ref 7) dX4_readRight_68 f_4_20 sh_53 rfl rfl ?_
          refine g_iconst (v := (1 : Int32)) dX4_readRight_71 (by decide) ?_
          refine g_bipush (v := (6 : Int32)) dX4_readRight_72 (by decide) ?_
          obtain ⟨q31, e32, h⟩ := z_bd h
          refine g_callV (a := 5) (as := [.int (1 : Int32), .int (6 : Int32)]) (rest := []) (c := mX7_takeNumber) (k1 := 3) dX4_readRight_74 rfl rfl rfl sh_5 rfl rfl (Nat.le_of_ble_eq_true rfl) (Nat.le_of_ble_eq_true rfl) (by decide) ?_
          refine A_X7_takeNumber e32 ?_
          show z_G none 5 mX4_readRight 77 [some (.ref 55), some (.int q6.1), some (.int q9.1), none, none, none] [.int q31.1] q31.2 Q
          refine g_goto (t := 81) dX4_readRight_77 (by decide) ?_
          refine g_istore_n (ls' := [some (.ref 55), some (.int q6.1), some (.int q9.1), some (.int q31.1), none, none]) dX4_readRight_81 rfl (Nat.le_of_ble_eq_true rfl) rfl ?_
          refine g_iload_n dX4_readRight_82 rfl rfl ?_
          refine g_iconst (v := (-1 : Int32)) dX4_readRight_83 (by decide) ?_
          refine g_ic_eq (t := 99) dX4_readRight_84 (by decide) (fun c33 => ?_) (fun c33 => ?_)
          · replace h := z_ift c33 h
            refine g_iconst (v := (0 : Int32)) dX4_readRight_99 (by decide) ?_
            cases h
            exact g_iret dX4_readRight_100 rfl rfl hq
          · replace h := z_iff c33 h
            refine g_aload_n dX4_readRight_87 rfl rfl ?_
            refine g_get (a := 53) (v := .ref 7) dX4_readRight_88 f_4_20 sh_53 rfl rfl ?_
            refine g_bipush (v := (6 : Int32)) dX4_readRight_91 (by decide) ?_
            obtain ⟨q34, e35, h⟩ := z_bd h
            refine g_callV (a := 5) (as := [.int (6 : Int32)]) (rest := []) (c := mX7_take) (k1 := 3) dX4_readRight_93 rfl rfl rfl sh_5 rfl rfl (Nat.le_of_ble_eq_true rfl) (Nat.le_of_ble_eq_true rfl) (by decide) ?_
            refine A_X7_take e35 ?_
            show z_G none 5 mX4_readRight 96 [some (.ref 55), some (.int q6.1), some (.int q9.1), some (.int q31.1), none, none] [.int (z_tb q34.1)] q34.2 Q
            refine g_if_ne (t := 101) dX4_readRight_96 (by decide) (fun c36 => ?_) (fun c36 => ?_)
            · replace h := z_ift (z_tbn.mp c36) h
              refine g_aload_n dX4_readRight_101 rfl rfl ?_
              refine g_get (a := 53) (v := .ref 7) dX4_readRight_102 f_4_20 sh_53 rfl rfl ?_
              refine g_iconst (v := (1 : Int32)) dX4_readRight_105 (by decide) ?_
              refine g_bipush (v := (50 : Int32)) dX4_readRight_106 (by decide) ?_
              obtain ⟨q37, e38, h⟩ := z_bd h
              refine g_callV (a := 5) (as := [.int (1 : Int32), .int (50 : Int32)]) (rest := []) (c := mX7_takeNumber) (k1 := 3) dX4_readRight_108 rfl rfl rfl sh_5 rfl rfl (Nat.le_of_ble_eq_true rfl) (Nat.le_of_ble_eq_true rfl) (by decide) ?_
              refine A_X7_takeNumber e38 ?_
              show z_G none 5 mX4_readRight 111 [some (.ref 55), some (.int q6.1), some (.int q9.1), some (.int q31.1), none, none] [.int q37.1] q37.2 Q
              refine g_istore (ls' := [some (.ref 55), some (.int q6.1), some (.int q9.1), some (.int q31.1), some (.int q37.1), none]) dX4_readRight_111 (Nat.le_of_ble_eq_true rfl) rfl ?_
              refine g_iload dX4_readRight_113 rfl ?_
              refine g_iconst (v := (-1 : Int32)) dX4_readRight_115 (by decide) ?_
              refine g_ic_eq (t := 131) dX4_readRight_116 (by decide) (fun c39 => ?_) (fun c39 => ?_)
              · replace h := z_ift c39 h
                refine g_iconst (v := (0 : Int32)) dX4_readRight_131 (by decide) ?_
                cases h
                exact g_iret dX4_readRight_132 rfl rfl hq
              · replace h := z_iff c39 h
                refine g_aload_n dX4_readRight_119 rfl rfl ?_
                refine g_get (a := 53) (v := .ref 7) dX4_readRight_120 f_4_20 sh_53 rfl rfl ?_
                refine g_bipush (v := (7 : Int32)) dX4_readRight_123 (by decide) ?_
                obtain ⟨q40, e41, h⟩ := z_bd h
                refine g_callV (a := 5) (as := [.int (7 : Int32)]) (rest := []) (c := mX7_take) (k1 := 3) dX4_readRight_125 rfl rfl rfl sh_5 rfl rfl (Nat.le_of_ble_eq_true rfl) (Nat.le_of_ble_eq_true rfl) (by decide) ?_
                refine A_X7_take e41 ?_
                show z_G none 5 mX4_readRight 128 [some (.ref 55), some (.int q6.1), some (.int q9.1), some (.int q31.1), some (.int q37.1), none] [.int (z_tb q40.1)] q40.2 Q
                refine g_if_ne (t := 133) dX4_readRight_128 (by decide) (fun c42 => ?_) (fun c42 => ?_)
                · replace h := z_ift (z_tbn.mp c42) h
                  refine g_aload_n dX4_readRight_133 rfl rfl ?_
                  obtain ⟨q43, e44, h⟩ := z_bd h
                  refine g_callV (a := 53) (as := []) (rest := []) (c := mX4_takeMonths) (k1 := 4) dX4_readRight_134 rfl rfl rfl sh_53 rfl rfl (Nat.le_of_ble_eq_true rfl) (Nat.le_of_ble_eq_true rfl) (by decide) ?_
                  refine A_X4_takeMonths e44 ?_
                  show z_G none 5 mX4_readRight 137 [some (.ref 55), some (.int q6.1), some (.int q9.1), some (.int q31.1), some (.int q37.1), none] [.int q43.1] q43.2 Q
                  refine g_istore (ls' := [some (.ref 55), some (.int q6.1), some (.int q9.1), some (.int q31.1), some (.int q37.1), some (.int q43.1)]) dX4_readRight_137 (Nat.le_of_ble_eq_true rfl) rfl ?_
                  refine g_iload dX4_readRight_139 rfl ?_
                  refine g_iconst (v := (-1 : Int32)) dX4_readRight_141 (by decide) ?_
                  refine g_ic_eq (t := 169) dX4_readRight_142 (by decide) (fun c45 => ?_) (fun c45 => ?_)
                  · replace h := z_ift c45 h
                    refine g_iconst (v := (0 : Int32)) dX4_readRight_169 (by decide) ?_
                    cases h
                    exact g_iret dX4_readRight_170 rfl rfl hq
                  · replace h := z_iff c45 h
                    refine g_aload_n dX4_readRight_145 rfl rfl ?_
                    refine g_get (a := 53) (v := .ref 32) dX4_readRight_146 f_4_24 sh_53 rfl rfl ?_
                    refine g_get (a := 30) (v := .ref 34) dX4_readRight_149 f_4_105 sh_30 rfl rfl ?_
                    refine g_iload_n dX4_readRight_152 rfl rfl ?_
                    refine g_iload_n dX4_readRight_153 rfl rfl ?_
                    refine g_iload_n dX4_readRight_154 rfl rfl ?_
                    refine g_iload dX4_readRight_155 rfl ?_
                    refine g_iload dX4_readRight_157 rfl ?_
                    obtain ⟨q46, e47, h⟩ := z_bd h
                    refine g_callV (a := 32) (as := [.int q6.1, .int q9.1, .int q31.1, .int q37.1, .int q43.1]) (rest := []) (c := mX6_add) (k1 := 0) dX4_readRight_159 rfl rfl rfl sh_32 rfl rfl (Nat.le_of_ble_eq_true rfl) (Nat.le_of_ble_eq_true rfl) (by decide) ?_
                    refine A_X6_add z_par_30 e47 ?_
                    show z_G none 5 mX4_readRight 162 [some (.ref 55), some (.int q6.1), some (.int q9.1), some (.int q31.1), some (.int q37.1), some (.int q43.1)] [.int (z_tb q46.1)] q46.2 Q
                    refine g_if_eq (t := 169) dX4_readRight_162 (by decide) (fun c48 => ?_) (fun c48 => ?_)
                    · replace h := z_iff (z_tb0.mp c48) h
                      refine g_iconst (v := (0 : Int32)) dX4_readRight_169 (by decide) ?_
                      cases h
                      exact g_iret dX4_readRight_170 rfl rfl hq
                    · replace h := z_ift (z_tbn.mp c48) h
                      refine g_iconst (v := (1 : Int32)) dX4_readRight_165 (by decide) ?_
                      refine g_goto (t := 170) dX4_readRight_166 (by decide) ?_
                      cases h
                      exact g_iret dX4_readRight_170 rfl rfl hq
                · replace h := z_iff (z_tb0.mp c42) h
                  refine g_iconst (v := (0 : Int32)) dX4_readRight_131 (by decide) ?_
                  cases h
                  exact g_iret dX4_readRight_132 rfl rfl hq
            · replace h := z_iff (z_tb0.mp c36) h
              refine g_iconst (v := (0 : Int32)) dX4_readRight_99 (by decide) ?_
              cases h
              exact g_iret dX4_readRight_100 rfl rfl hq
      · replace h := z_ift c11 h
        refine g_iconst (v := (0 : Int32)) dX4_readRight_53 (by decide) ?_
        cases h
        exact g_iret dX4_readRight_54 rfl rfl hq
    · replace h := z_ift c8 h
      refine g_iconst (v := (0 : Int32)) dX4_readRight_41 (by decide) ?_
      cases h
      exact g_iret dX4_readRight_42 rfl rfl hq
  · replace h := z_iff (z_tb0.mp c3) h
    refine g_iconst (v := (0 : Int32)) dX4_readRight_19 (by decide) ?_
    cases h
    exact g_iret dX4_readRight_20 rfl rfl hq
theorem dX4_readDebt_0 : decode cX4_readDebt 0 = .ok (.aload_n 0, 1) := by decide +kernel
theorem dX4_readDebt_1 : decode cX4_readDebt 1 = .ok (.aload_n 0, 1) := by decide +kernel
theorem dX4_readDebt_2 : decode cX4_readDebt 2 = .ok (.getfield 24, 3) := by decide +kernel
theorem dX4_readDebt_5 : decode cX4_readDebt 5 = .ok (.getfield 131, 3) := by decide +kernel
theorem dX4_readDebt_8 : decode cX4_readDebt 8 = .ok (.getfield 135, 3) := by decide +kernel
theorem dX4_readDebt_11 : decode cX4_readDebt 11 = .ok (.iconst 5, 1) := by decide +kernel
theorem dX4_readDebt_12 : decode cX4_readDebt 12 = .ok (.invokevirtual 114, 3) := by decide +kernel
theorem dX4_readDebt_15 : decode cX4_readDebt 15 = .ok (.ifCond .ne 5, 3) := by decide +kernel
theorem dX4_readDebt_18 : decode cX4_readDebt 18 = .ok (.iconst 0, 1) := by decide +kernel
theorem dX4_readDebt_19 : decode cX4_readDebt 19 = .ok (.ireturn, 1) := by decide +kernel
theorem dX4_readDebt_20 : decode cX4_readDebt 20 = .ok (.aload_n 0, 1) := by decide +kernel
theorem dX4_readDebt_21 : decode cX4_readDebt 21 = .ok (.getfield 20, 3) := by decide +kernel
theorem dX4_readDebt_24 : decode cX4_readDebt 24 = .ok (.invokevirtual 81, 3) := by decide +kernel
theorem dX4_readDebt_27 : decode cX4_readDebt 27 = .ok (.aload_n 0, 1) := by decide +kernel
theorem dX4_readDebt_28 : decode cX4_readDebt 28 = .ok (.getfield 20, 3) := by decide +kernel
theorem dX4_readDebt_31 : decode cX4_readDebt 31 = .ok (.invokevirtual 92, 3) := by decide +kernel
theorem dX4_readDebt_34 : decode cX4_readDebt 34 = .ok (.istore_n 1, 1) := by decide +kernel
theorem dX4_readDebt_35 : decode cX4_readDebt 35 = .ok (.iload_n 1, 1) := by decide +kernel
theorem dX4_readDebt_36 : decode cX4_readDebt 36 = .ok (.iconst (-1), 1) := by decide +kernel
theorem dX4_readDebt_37 : decode cX4_readDebt 37 = .ok (.if_icmp .eq 15, 3) := by decide +kernel
theorem dX4_readDebt_40 : decode cX4_readDebt 40 = .ok (.aload_n 0, 1) := by decide +kernel
theorem dX4_readDebt_41 : decode cX4_readDebt 41 = .ok (.getfield 20, 3) := by decide +kernel
theorem dX4_readDebt_44 : decode cX4_readDebt 44 = .ok (.bipush 9, 2) := by decide +kernel
theorem dX4_readDebt_46 : decode cX4_readDebt 46 = .ok (.invokevirtual 75, 3) := by decide +kernel
theorem dX4_readDebt_49 : decode cX4_readDebt 49 = .ok (.ifCond .ne 5, 3) := by decide +kernel
theorem dX4_readDebt_52 : decode cX4_readDebt 52 = .ok (.iconst 0, 1) := by decide +kernel
theorem dX4_readDebt_53 : decode cX4_readDebt 53 = .ok (.ireturn, 1) := by decide +kernel
theorem dX4_readDebt_54 : decode cX4_readDebt 54 = .ok (.aload_n 0, 1) := by decide +kernel
theorem dX4_readDebt_55 : decode cX4_readDebt 55 = .ok (.getfield 20, 3) := by decide +kernel
theorem dX4_readDebt_58 : decode cX4_readDebt 58 = .ok (.iconst 1, 1) := by decide +kernel
theorem dX4_readDebt_59 : decode cX4_readDebt 59 = .ok (.bipush 99, 2) := by decide +kernel
theorem dX4_readDebt_61 : decode cX4_readDebt 61 = .ok (.invokevirtual 84, 3) := by decide +kernel
theorem dX4_readDebt_64 : decode cX4_readDebt 64 = .ok (.istore_n 2, 1) := by decide +kernel
theorem dX4_readDebt_65 : decode cX4_readDebt 65 = .ok (.iload_n 2, 1) := by decide +kernel
theorem dX4_readDebt_66 : decode cX4_readDebt 66 = .ok (.iconst (-1), 1) := by decide +kernel
theorem dX4_readDebt_67 : decode cX4_readDebt 67 = .ok (.if_icmp .eq 15, 3) := by decide +kernel
theorem dX4_readDebt_70 : decode cX4_readDebt 70 = .ok (.aload_n 0, 1) := by decide +kernel
theorem dX4_readDebt_71 : decode cX4_readDebt 71 = .ok (.getfield 20, 3) := by decide +kernel
theorem dX4_readDebt_74 : decode cX4_readDebt 74 = .ok (.bipush 10, 2) := by decide +kernel
theorem dX4_readDebt_76 : decode cX4_readDebt 76 = .ok (.invokevirtual 75, 3) := by decide +kernel
theorem dX4_readDebt_79 : decode cX4_readDebt 79 = .ok (.ifCond .ne 5, 3) := by decide +kernel
theorem dX4_readDebt_82 : decode cX4_readDebt 82 = .ok (.iconst 0, 1) := by decide +kernel
theorem dX4_readDebt_83 : decode cX4_readDebt 83 = .ok (.ireturn, 1) := by decide +kernel
theorem dX4_readDebt_84 : decode cX4_readDebt 84 = .ok (.aload_n 0, 1) := by decide +kernel
theorem dX4_readDebt_85 : decode cX4_readDebt 85 = .ok (.getfield 20, 3) := by decide +kernel
theorem dX4_readDebt_88 : decode cX4_readDebt 88 = .ok (.iconst 1, 1) := by decide +kernel
theorem dX4_readDebt_89 : decode cX4_readDebt 89 = .ok (.bipush 24, 2) := by decide +kernel
theorem dX4_readDebt_91 : decode cX4_readDebt 91 = .ok (.invokevirtual 84, 3) := by decide +kernel
theorem dX4_readDebt_94 : decode cX4_readDebt 94 = .ok (.istore_n 3, 1) := by decide +kernel
theorem dX4_readDebt_95 : decode cX4_readDebt 95 = .ok (.iload_n 3, 1) := by decide +kernel
theorem dX4_readDebt_96 : decode cX4_readDebt 96 = .ok (.iconst (-1), 1) := by decide +kernel
theorem dX4_readDebt_97 : decode cX4_readDebt 97 = .ok (.if_icmp .eq 23, 3) := by decide +kernel
theorem dX4_readDebt_100 : decode cX4_readDebt 100 = .ok (.aload_n 0, 1) := by decide +kernel
theorem dX4_readDebt_101 : decode cX4_readDebt 101 = .ok (.getfield 24, 3) := by decide +kernel
theorem dX4_readDebt_104 : decode cX4_readDebt 104 = .ok (.getfield 131, 3) := by decide +kernel
theorem dX4_readDebt_107 : decode cX4_readDebt 107 = .ok (.iload_n 1, 1) := by decide +kernel
theorem dX4_readDebt_108 : decode cX4_readDebt 108 = .ok (.iload_n 2, 1) := by decide +kernel
theorem dX4_readDebt_109 : decode cX4_readDebt 109 = .ok (.iload_n 3, 1) := by decide +kernel
theorem dX4_readDebt_110 : decode cX4_readDebt 110 = .ok (.invokevirtual 138, 3) := by decide +kernel
theorem dX4_readDebt_113 : decode cX4_readDebt 113 = .ok (.ifCond .eq 7, 3) := by decide +kernel
theorem dX4_readDebt_116 : decode cX4_readDebt 116 = .ok (.iconst 1, 1) := by decide +kernel
theorem dX4_readDebt_117 : decode cX4_readDebt 117 = .ok (.goto 4, 3) := by decide +kernel
theorem dX4_readDebt_120 : decode cX4_readDebt 120 = .ok (.iconst 0, 1) := by decide +kernel
theorem dX4_readDebt_121 : decode cX4_readDebt 121 = .ok (.ireturn, 1) := by decide +kernel
def F_X4_readDebt (w : Nat) (M : z_Mem) : Option (Bool × z_Mem) :=
  (F_X4_hasRoom w M (M.1 38 3) (5 : Int32)).bind fun q1 =>
  if q1.1 = true then
  (F_X7_advance w q1.2).bind fun q4 =>
  (F_X7_takeSide w q4.2).bind fun q6 =>
  if q6.1 = (-1 : Int32) then
  some (false, q6.2)
  else
  (F_X7_take w q6.2 (9 : Int32)).bind fun q9 =>
  if q9.1 = true then
  (F_X7_takeNumber w q9.2 (1 : Int32) (99 : Int32)).bind fun q12 =>
  if q12.1 = (-1 : Int32) then
  some (false, q12.2)
  else
  (F_X7_take w q12.2 (10 : Int32)).bind fun q15 =>
  if q15.1 = true then
  (F_X7_takeNumber w q15.2 (1 : Int32) (24 : Int32)).bind fun q18 =>
  if q18.1 = (-1 : Int32) then
  some (false, q18.2)
  else
  (F_X1_add w q18.2 30 q6.1 q12.1 q18.1).bind fun q21 =>
  if q21.1 = true then
  some (true, q21.2)
  else
  some (false, q21.2)
  else
  some (false, q15.2)
  else
  some (false, q9.2)
  else
  some (false, q1.2)
set_option maxHeartbeats 4000000 in
theorem A_X4_readDebt {w : Nat} {M : z_Mem} {r : Bool} {M' : z_Mem} {Q : Option Value → z_Mem → Prop} (h : F_X4_readDebt w M = some (r, M')) (hq : Q (some (.int (z_tb r))) M') : z_Cl 4 mX4_readDebt [.ref 55] M Q := by
  refine g_in (ls := [some (.ref 55), none, none, none]) rfl ?_
  unfold F_X4_readDebt at h
  refine g_aload_n dX4_readDebt_0 rfl rfl ?_
  refine g_aload_n dX4_readDebt_1 rfl rfl ?_
  refine g_get (a := 53) (v := .ref 32) dX4_readDebt_2 f_4_24 sh_53 rfl rfl ?_
  refine g_get (a := 30) (v := .ref 40) dX4_readDebt_5 f_4_131 sh_30 rfl rfl ?_
  refine g_get (a := 38) (v := .int (M.1 38 3)) dX4_readDebt_8 f_4_135 sh_38 rfl rfl ?_
  refine g_iconst (v := (5 : Int32)) dX4_readDebt_11 (by decide) ?_
  obtain ⟨q1, e2, h⟩ := z_bd h
  refine g_callV (a := 53) (as := [.int (M.1 38 3), .int (5 : Int32)]) (rest := []) (c := mX4_hasRoom) (k1 := 1) dX4_readDebt_12 rfl rfl rfl sh_53 rfl rfl (Nat.le_of_ble_eq_true rfl) (Nat.le_of_ble_eq_true rfl) (by decide) ?_
  refine A_X4_hasRoom e2 ?_
  show z_G none 4 mX4_readDebt 15 [some (.ref 55), none, none, none] [.int (z_tb q1.1)] q1.2 Q
  refine g_if_ne (t := 20) dX4_readDebt_15 (by decide) (fun c3 => ?_) (fun c3 => ?_)
  · replace h := z_ift (z_tbn.mp c3) h
    refine g_aload_n dX4_readDebt_20 rfl rfl ?_
    refine g_get (a := 53) (v := .ref 7) dX4_readDebt_21 f_4_20 sh_53 rfl rfl ?_
    obtain ⟨q4, e5, h⟩ := z_bd h
    refine g_callV (a := 5) (as := []) (rest := []) (c := mX7_advance) (k1 := 2) dX4_readDebt_24 rfl rfl rfl sh_5 rfl rfl (Nat.le_of_ble_eq_true rfl) (Nat.le_of_ble_eq_true rfl) (by decide) ?_
    refine A_X7_advance e5 ?_
    show z_G none 4 mX4_readDebt 27 [some (.ref 55), none, none, none] [] q4.2 Q
    refine g_aload_n dX4_readDebt_27 rfl rfl ?_
    refine g_get (a := 53) (v := .ref 7) dX4_readDebt_28 f_4_20 sh_53 rfl rfl ?_
    obtain ⟨q6, e7, h⟩ := z_bd h
    refine g_callV (a := 5) (as := []) (rest := []) (c := mX7_takeSide) (k1 := 3) dX4_readDebt_31 rfl rfl rfl sh_5 rfl rfl (Nat.le_of_ble_eq_true rfl) (Nat.le_of_ble_eq_true rfl) (by decide) ?_
    refine A_X7_takeSide e7 ?_
    show z_G none 4 mX4_readDebt 34 [some (.ref 55), none, none, none] [.int q6.1] q6.2 Q
    refine g_istore_n (ls' := [some (.ref 55), some (.int q6.1), none, none]) dX4_readDebt_34 rfl (Nat.le_of_ble_eq_true rfl) rfl ?_
    refine g_iload_n dX4_readDebt_35 rfl rfl ?_
    refine g_iconst (v := (-1 : Int32)) dX4_readDebt_36 (by decide) ?_
    refine g_ic_eq (t := 52) dX4_readDebt_37 (by decide) (fun c8 => ?_) (fun c8 => ?_)
    · replace h := z_ift c8 h
      refine g_iconst (v := (0 : Int32)) dX4_readDebt_52 (by decide) ?_
      cases h
      exact g_iret dX4_readDebt_53 rfl rfl hq
    · replace h := z_iff c8 h
      refine g_aload_n dX4_readDebt_40 rfl rfl ?_
      refine g_get (a := 53) (v := .ref 7) dX4_readDebt_41 f_4_20 sh_53 rfl rfl ?_
      refine g_bipush (v := (9 : Int32)) dX4_readDebt_44 (by decide) ?_
      obtain ⟨q9, e10, h⟩ := z_bd h
      refine g_callV (a := 5) (as := [.int (9 : Int32)]) (rest := []) (c := mX7_take) (k1 := 3) dX4_readDebt_46 rfl rfl rfl sh_5 rfl rfl (Nat.le_of_ble_eq_true rfl) (Nat.le_of_ble_eq_true rfl) (by decide) ?_
      refine A_X7_take e10 ?_
      show z_G none 4 mX4_readDebt 49 [some (.ref 55), some (.int q6.1), none, none] [.int (z_tb q9.1)] q9.2 Q
      refine g_if_ne (t := 54) dX4_readDebt_49 (by decide) (fun c11 => ?_) (fun c11 => ?_)
      · replace h := z_ift (z_tbn.mp c11) h
        refine g_aload_n dX4_readDebt_54 rfl rfl ?_
        refine g_get (a := 53) (v := .ref 7) dX4_readDebt_55 f_4_20 sh_53 rfl rfl ?_
        refine g_iconst (v := (1 : Int32)) dX4_readDebt_58 (by decide) ?_
        refine g_bipush (v := (99 : Int32)) dX4_readDebt_59 (by decide) ?_
        obtain ⟨q12, e13, h⟩ := z_bd h
        refine g_callV (a := 5) (as := [.int (1 : Int32), .int (99 : Int32)]) (rest := []) (c := mX7_takeNumber) (k1 := 3) dX4_readDebt_61 rfl rfl rfl sh_5 rfl rfl (Nat.le_of_ble_eq_true rfl) (Nat.le_of_ble_eq_true rfl) (by decide) ?_
        refine A_X7_takeNumber e13 ?_
        show z_G none 4 mX4_readDebt 64 [some (.ref 55), some (.int q6.1), none, none] [.int q12.1] q12.2 Q
        refine g_istore_n (ls' := [some (.ref 55), some (.int q6.1), some (.int q12.1), none]) dX4_readDebt_64 rfl (Nat.le_of_ble_eq_true rfl) rfl ?_
        refine g_iload_n dX4_readDebt_65 rfl rfl ?_
        refine g_iconst (v := (-1 : Int32)) dX4_readDebt_66 (by decide) ?_
        refine g_ic_eq (t := 82) dX4_readDebt_67 (by decide) (fun c14 => ?_) (fun c14 => ?_)
        · replace h := z_ift c14 h
          refine g_iconst (v := (0 : Int32)) dX4_readDebt_82 (by decide) ?_
          cases h
          exact g_iret dX4_readDebt_83 rfl rfl hq
        · replace h := z_iff c14 h
          refine g_aload_n dX4_readDebt_70 rfl rfl ?_
          refine g_get (a := 53) (v := .ref 7) dX4_readDebt_71 f_4_20 sh_53 rfl rfl ?_
          refine g_bipush (v := (10 : Int32)) dX4_readDebt_74 (by decide) ?_
          obtain ⟨q15, e16, h⟩ := z_bd h
          refine g_callV (a := 5) (as := [.int (10 : Int32)]) (rest := []) (c := mX7_take) (k1 := 3) dX4_readDebt_76 rfl rfl rfl sh_5 rfl rfl (Nat.le_of_ble_eq_true rfl) (Nat.le_of_ble_eq_true rfl) (by decide) ?_
          refine A_X7_take e16 ?_
          show z_G none 4 mX4_readDebt 79 [some (.ref 55), some (.int q6.1), some (.int q12.1), none] [.int (z_tb q15.1)] q15.2 Q
          refine g_if_ne (t := 84) dX4_readDebt_79 (by decide) (fun c17 => ?_) (fun c17 => ?_)
          · replace h := z_ift (z_tbn.mp c17) h
            refine g_aload_n dX4_readDebt_84 rfl rfl ?_
            refine g_get (a := 53) (v := .ref 7) dX4_readDebt_85 f_4_20 sh_53 rfl rfl ?_
            refine g_iconst (v := (1 : Int32)) dX4_readDebt_88 (by decide) ?_
            refine g_bipush (v := (24 : Int32)) dX4_readDebt_89 (by decide) ?_
            obtain ⟨q18, e19, h⟩ := z_bd h
            refine g_callV (a := 5) (as := [.int (1 : Int32), .int (24 : Int32)]) (rest := []) (c := mX7_takeNumber) (k1 := 3) dX4_readDebt_91 rfl rfl rfl sh_5 rfl rfl (Nat.le_of_ble_eq_true rfl) (Nat.le_of_ble_eq_true rfl) (by decide) ?_
            refine A_X7_takeNumber e19 ?_
            show z_G none 4 mX4_readDebt 94 [some (.ref 55), some (.int q6.1), some (.int q12.1), none] [.int q18.1] q18.2 Q
            refine g_istore_n (ls' := [some (.ref 55), some (.int q6.1), some (.int q12.1), some (.int q18.1)]) dX4_readDebt_94 rfl (Nat.le_of_ble_eq_true rfl) rfl ?_
            refine g_iload_n dX4_readDebt_95 rfl rfl ?_
            refine g_iconst (v := (-1 : Int32)) dX4_readDebt_96 (by decide) ?_
            refine g_ic_eq (t := 120) dX4_readDebt_97 (by decide) (fun c20 => ?_) (fun c20 => ?_)
            · replace h := z_ift c20 h
              refine g_iconst (v := (0 : Int32)) dX4_readDebt_120 (by decide) ?_
              cases h
              exact g_iret dX4_readDebt_121 rfl rfl hq
            · replace h := z_iff c20 h
              refine g_aload_n dX4_readDebt_100 rfl rfl ?_
              refine g_get (a := 53) (v := .ref 32) dX4_readDebt_101 f_4_24 sh_53 rfl rfl ?_
              refine g_get (a := 30) (v := .ref 40) dX4_readDebt_104 f_4_131 sh_30 rfl rfl ?_
              refine g_iload_n dX4_readDebt_107 rfl rfl ?_
              refine g_iload_n dX4_readDebt_108 rfl rfl ?_
              refine g_iload_n dX4_readDebt_109 rfl rfl ?_
              obtain ⟨q21, e22, h⟩ := z_bd h
              refine g_callV (a := 38) (as := [.int q6.1, .int q12.1, .int q18.1]) (rest := []) (c := mX1_add) (k1 := 0) dX4_readDebt_110 rfl rfl rfl sh_38 rfl rfl (Nat.le_of_ble_eq_true rfl) (Nat.le_of_ble_eq_true rfl) (by decide) ?_
              refine A_X1_add z_par_30 e22 ?_
              show z_G none 4 mX4_readDebt 113 [some (.ref 55), some (.int q6.1), some (.int q12.1), some (.int q18.1)] [.int (z_tb q21.1)] q21.2 Q
              refine g_if_eq (t := 120) dX4_readDebt_113 (by decide) (fun c23 => ?_) (fun c23 => ?_)
              · replace h := z_iff (z_tb0.mp c23) h
                refine g_iconst (v := (0 : Int32)) dX4_readDebt_120 (by decide) ?_
                cases h
                exact g_iret dX4_readDebt_121 rfl rfl hq
              · replace h := z_ift (z_tbn.mp c23) h
                refine g_iconst (v := (1 : Int32)) dX4_readDebt_116 (by decide) ?_
                refine g_goto (t := 121) dX4_readDebt_117 (by decide) ?_
                cases h
                exact g_iret dX4_readDebt_121 rfl rfl hq
          · replace h := z_iff (z_tb0.mp c17) h
            refine g_iconst (v := (0 : Int32)) dX4_readDebt_82 (by decide) ?_
            cases h
            exact g_iret dX4_readDebt_83 rfl rfl hq
      · replace h := z_iff (z_tb0.mp c11) h
        refine g_iconst (v := (0 : Int32)) dX4_readDebt_52 (by decide) ?_
        cases h
        exact g_iret dX4_readDebt_53 rfl rfl hq
  · replace h := z_iff (z_tb0.mp c3) h
    refine g_iconst (v := (0 : Int32)) dX4_readDebt_18 (by decide) ?_
    cases h
    exact g_iret dX4_readDebt_19 rfl rfl hq
theorem dX4_isNameHere_0 : decode cX4_isNameHere 0 = .ok (.aload_n 0, 1) := by decide +kernel
theorem dX4_isNameHere_1 : decode cX4_isNameHere 1 = .ok (.getfield 20, 3) := by decide +kernel
theorem dX4_isNameHere_4 : decode cX4_isNameHere 4 = .ok (.getfield 151, 3) := by decide +kernel
theorem dX4_isNameHere_7 : decode cX4_isNameHere 7 = .ok (.istore_n 2, 1) := by decide +kernel
theorem dX4_isNameHere_8 : decode cX4_isNameHere 8 = .ok (.iload_n 2, 1) := by decide +kernel
theorem dX4_isNameHere_9 : decode cX4_isNameHere 9 = .ok (.aload_n 0, 1) := by decide +kernel
theorem dX4_isNameHere_10 : decode cX4_isNameHere 10 = .ok (.getfield 20, 3) := by decide +kernel
theorem dX4_isNameHere_13 : decode cX4_isNameHere 13 = .ok (.getfield 154, 3) := by decide +kernel
theorem dX4_isNameHere_16 : decode cX4_isNameHere 16 = .ok (.if_icmp .ge 42, 3) := by decide +kernel
theorem dX4_isNameHere_19 : decode cX4_isNameHere 19 = .ok (.aload_n 0, 1) := by decide +kernel
theorem dX4_isNameHere_20 : decode cX4_isNameHere 20 = .ok (.getfield 20, 3) := by decide +kernel
theorem dX4_isNameHere_23 : decode cX4_isNameHere 23 = .ok (.getfield 160, 3) := by decide +kernel
theorem dX4_isNameHere_26 : decode cX4_isNameHere 26 = .ok (.iload_n 2, 1) := by decide +kernel
theorem dX4_isNameHere_27 : decode cX4_isNameHere 27 = .ok (.baload, 1) := by decide +kernel
theorem dX4_isNameHere_28 : decode cX4_isNameHere 28 = .ok (.aload_n 0, 1) := by decide +kernel
theorem dX4_isNameHere_29 : decode cX4_isNameHere 29 = .ok (.getfield 20, 3) := by decide +kernel
theorem dX4_isNameHere_32 : decode cX4_isNameHere 32 = .ok (.getfield 160, 3) := by decide +kernel
theorem dX4_isNameHere_35 : decode cX4_isNameHere 35 = .ok (.iload_n 1, 1) := by decide +kernel
theorem dX4_isNameHere_36 : decode cX4_isNameHere 36 = .ok (.iload_n 2, 1) := by decide +kernel
theorem dX4_isNameHere_37 : decode cX4_isNameHere 37 = .ok (.iadd, 1) := by decide +kernel
theorem dX4_isNameHere_38 : decode cX4_isNameHere 38 = .ok (.aload_n 0, 1) := by decide +kernel
theorem dX4_isNameHere_39 : decode cX4_isNameHere 39 = .ok (.getfield 20, 3) := by decide +kernel
theorem dX4_isNameHere_42 : decode cX4_isNameHere 42 = .ok (.getfield 151, 3) := by decide +kernel
theorem dX4_isNameHere_45 : decode cX4_isNameHere 45 = .ok (.isub, 1) := by decide +kernel
theorem dX4_isNameHere_46 : decode cX4_isNameHere 46 = .ok (.baload, 1) := by decide +kernel
theorem dX4_isNameHere_47 : decode cX4_isNameHere 47 = .ok (.if_icmp .eq 5, 3) := by decide +kernel
theorem dX4_isNameHere_50 : decode cX4_isNameHere 50 = .ok (.iconst 0, 1) := by decide +kernel
theorem dX4_isNameHere_51 : decode cX4_isNameHere 51 = .ok (.ireturn, 1) := by decide +kernel
theorem dX4_isNameHere_52 : decode cX4_isNameHere 52 = .ok (.iinc 2 1, 3) := by decide +kernel
theorem dX4_isNameHere_55 : decode cX4_isNameHere 55 = .ok (.goto (-47), 3) := by decide +kernel
theorem dX4_isNameHere_58 : decode cX4_isNameHere 58 = .ok (.iconst 1, 1) := by decide +kernel
theorem dX4_isNameHere_59 : decode cX4_isNameHere 59 = .ok (.ireturn, 1) := by decide +kernel
def L_X4_isNameHere (w : Nat) : Nat → z_Mem → Int32 → Int32 → Option (Bool × z_Mem)
  | 0, _, _, _ => none
  | c + 1, M, x1, x2 =>
    if (M.1 5 5) ≤ x2 then
    some (true, M)
    else
    if x2 < 0 ∨ 900 ≤ x2.toNatClampNeg then none else
    if ((x1 + x2) - (M.1 5 4)) < 0 ∨ 900 ≤ ((x1 + x2) - (M.1 5 4)).toNatClampNeg then none else
    if (M.1 6 x2.toNatClampNeg) = (M.1 6 ((x1 + x2) - (M.1 5 4)).toNatClampNeg) then
    L_X4_isNameHere w c M x1 (x2 + (1 : Int32))
    else
    some (false, M)
set_option maxHeartbeats 4000000 in
theorem AL_X4_isNameHere {w : Nat} : ∀ (c : Nat), (∀ (M : z_Mem) (x1 : Int32) (x2 : Int32) (r : Bool) (M' : z_Mem) (Q : Option Value → z_Mem → Prop), L_X4_isNameHere w c M x1 x2 = some (r, M') → Q (some (.int (z_tb r))) M' → z_G none 0 mX4_isNameHere 8 [some (.ref 55), some (.int x1), some (.int x2)] [] M Q) := by
  intro c
  induction c with
  | zero => exact (fun M x1 x2 r M' Q h hq => by rw [L_X4_isNameHere] at h; cases h)
  | succ c ih =>
    intro M x1 x2 r M' Q h hq
    rw [L_X4_isNameHere] at h
    refine g_iload_n dX4_isNameHere_8 rfl rfl ?_
    refine g_aload_n dX4_isNameHere_9 rfl rfl ?_
    refine g_get (a := 53) (v := .ref 7) dX4_isNameHere_10 f_4_20 sh_53 rfl rfl ?_
    refine g_get (a := 5) (v := .int (M.1 5 5)) dX4_isNameHere_13 f_4_154 sh_5 rfl rfl ?_
    refine g_ic_ge (t := 58) dX4_isNameHere_16 (by decide) (fun c1 => ?_) (fun c1 => ?_)
    · replace h := z_ift c1 h
      refine g_iconst (v := (1 : Int32)) dX4_isNameHere_58 (by decide) ?_
      cases h
      exact g_iret dX4_isNameHere_59 rfl rfl hq
    · replace h := z_iff c1 h
      refine g_aload_n dX4_isNameHere_19 rfl rfl ?_
      refine g_get (a := 53) (v := .ref 7) dX4_isNameHere_20 f_4_20 sh_53 rfl rfl ?_
      refine g_get (a := 5) (v := .ref 8) dX4_isNameHere_23 f_4_160 sh_5 rfl rfl ?_
      refine g_iload_n dX4_isNameHere_26 rfl rfl ?_
      by_cases g2 : x2 < 0 ∨ 900 ≤ x2.toNatClampNeg
      · rw [if_pos g2] at h; cases h
      replace h := z_iff g2 h
      refine g_bald (a := 6) dX4_isNameHere_27 sh_6 g2 ?_
      refine g_aload_n dX4_isNameHere_28 rfl rfl ?_
      refine g_get (a := 53) (v := .ref 7) dX4_isNameHere_29 f_4_20 sh_53 rfl rfl ?_
      refine g_get (a := 5) (v := .ref 8) dX4_isNameHere_32 f_4_160 sh_5 rfl rfl ?_
      refine g_iload_n dX4_isNameHere_35 rfl rfl ?_
      refine g_iload_n dX4_isNameHere_36 rfl rfl ?_
      refine g_iadd dX4_isNameHere_37 ?_
      refine g_aload_n dX4_isNameHere_38 rfl rfl ?_
      refine g_get (a := 53) (v := .ref 7) dX4_isNameHere_39 f_4_20 sh_53 rfl rfl ?_
      refine g_get (a := 5) (v := .int (M.1 5 4)) dX4_isNameHere_42 f_4_151 sh_5 rfl rfl ?_
      refine g_isub dX4_isNameHere_45 ?_
      by_cases g3 : ((x1 + x2) - (M.1 5 4)) < 0 ∨ 900 ≤ ((x1 + x2) - (M.1 5 4)).toNatClampNeg
      · rw [if_pos g3] at h; cases h
      replace h := z_iff g3 h
      refine g_bald (a := 6) dX4_isNameHere_46 sh_6 g3 ?_
      refine g_ic_eq (t := 52) dX4_isNameHere_47 (by decide) (fun c4 => ?_) (fun c4 => ?_)
      · replace h := z_ift c4 h
        refine g_iinc (v := x2 + (1 : Int32)) (ls' := [some (.ref 55), some (.int x1), some (.int (x2 + (1 : Int32)))]) dX4_isNameHere_52 rfl rfl rfl ?_
        refine g_goto (t := 8) dX4_isNameHere_55 (by decide) ?_
        exact g_sub (z_sub_s (z_sub_s (z_sub_s z_sub_nil))) (ih _ _ _ _ _ _ h hq)
      · replace h := z_iff c4 h
        refine g_iconst (v := (0 : Int32)) dX4_isNameHere_50 (by decide) ?_
        cases h
        exact g_iret dX4_isNameHere_51 rfl rfl hq
def F_X4_isNameHere (w : Nat) (M : z_Mem) (a1 : Int32) : Option (Bool × z_Mem) :=
  L_X4_isNameHere w w M a1 (M.1 5 4)
set_option maxHeartbeats 4000000 in
theorem A_X4_isNameHere {w : Nat} {M : z_Mem} {a1 : Int32} {r : Bool} {M' : z_Mem} {Q : Option Value → z_Mem → Prop} (h : F_X4_isNameHere w M a1 = some (r, M')) (hq : Q (some (.int (z_tb r))) M') : z_Cl 0 mX4_isNameHere [.ref 55, .int a1] M Q := by
  refine g_in (ls := [some (.ref 55), some (.int a1), none]) rfl ?_
  unfold F_X4_isNameHere at h
  refine g_aload_n dX4_isNameHere_0 rfl rfl ?_
  refine g_get (a := 53) (v := .ref 7) dX4_isNameHere_1 f_4_20 sh_53 rfl rfl ?_
  refine g_get (a := 5) (v := .int (M.1 5 4)) dX4_isNameHere_4 f_4_151 sh_5 rfl rfl ?_
  refine g_istore_n (ls' := [some (.ref 55), some (.int a1), some (.int (M.1 5 4))]) dX4_isNameHere_7 rfl (Nat.le_of_ble_eq_true rfl) rfl ?_
  exact g_sub (z_sub_s (z_sub_s (z_sub_s z_sub_nil))) ((AL_X4_isNameHere (w := w) w) _ _ _ _ _ _ h hq)
theorem dX4_questionHere_0 : decode cX4_questionHere 0 = .ok (.iconst 0, 1) := by decide +kernel
theorem dX4_questionHere_1 : decode cX4_questionHere 1 = .ok (.istore_n 1, 1) := by decide +kernel
theorem dX4_questionHere_2 : decode cX4_questionHere 2 = .ok (.iload_n 1, 1) := by decide +kernel
theorem dX4_questionHere_3 : decode cX4_questionHere 3 = .ok (.aload_n 0, 1) := by decide +kernel
theorem dX4_questionHere_4 : decode cX4_questionHere 4 = .ok (.getfield 24, 3) := by decide +kernel
theorem dX4_questionHere_7 : decode cX4_questionHere 7 = .ok (.getfield 141, 3) := by decide +kernel
theorem dX4_questionHere_10 : decode cX4_questionHere 10 = .ok (.getfield 145, 3) := by decide +kernel
theorem dX4_questionHere_13 : decode cX4_questionHere 13 = .ok (.if_icmp .ge 48, 3) := by decide +kernel
theorem dX4_questionHere_16 : decode cX4_questionHere 16 = .ok (.aload_n 0, 1) := by decide +kernel
theorem dX4_questionHere_17 : decode cX4_questionHere 17 = .ok (.getfield 17, 3) := by decide +kernel
theorem dX4_questionHere_20 : decode cX4_questionHere 20 = .ok (.iload_n 1, 1) := by decide +kernel
theorem dX4_questionHere_21 : decode cX4_questionHere 21 = .ok (.iaload, 1) := by decide +kernel
theorem dX4_questionHere_22 : decode cX4_questionHere 22 = .ok (.aload_n 0, 1) := by decide +kernel
theorem dX4_questionHere_23 : decode cX4_questionHere 23 = .ok (.getfield 20, 3) := by decide +kernel
theorem dX4_questionHere_26 : decode cX4_questionHere 26 = .ok (.getfield 154, 3) := by decide +kernel
theorem dX4_questionHere_29 : decode cX4_questionHere 29 = .ok (.aload_n 0, 1) := by decide +kernel
theorem dX4_questionHere_30 : decode cX4_questionHere 30 = .ok (.getfield 20, 3) := by decide +kernel
theorem dX4_questionHere_33 : decode cX4_questionHere 33 = .ok (.getfield 151, 3) := by decide +kernel
theorem dX4_questionHere_36 : decode cX4_questionHere 36 = .ok (.isub, 1) := by decide +kernel
theorem dX4_questionHere_37 : decode cX4_questionHere 37 = .ok (.if_icmp .ne 18, 3) := by decide +kernel
theorem dX4_questionHere_40 : decode cX4_questionHere 40 = .ok (.aload_n 0, 1) := by decide +kernel
theorem dX4_questionHere_41 : decode cX4_questionHere 41 = .ok (.aload_n 0, 1) := by decide +kernel
theorem dX4_questionHere_42 : decode cX4_questionHere 42 = .ok (.getfield 11, 3) := by decide +kernel
theorem dX4_questionHere_45 : decode cX4_questionHere 45 = .ok (.iload_n 1, 1) := by decide +kernel
theorem dX4_questionHere_46 : decode cX4_questionHere 46 = .ok (.iaload, 1) := by decide +kernel
theorem dX4_questionHere_47 : decode cX4_questionHere 47 = .ok (.invokevirtual 157, 3) := by decide +kernel
theorem dX4_questionHere_50 : decode cX4_questionHere 50 = .ok (.ifCond .eq 5, 3) := by decide +kernel
theorem dX4_questionHere_53 : decode cX4_questionHere 53 = .ok (.iload_n 1, 1) := by decide +kernel
theorem dX4_questionHere_54 : decode cX4_questionHere 54 = .ok (.ireturn, 1) := by decide +kernel
theorem dX4_questionHere_55 : decode cX4_questionHere 55 = .ok (.iinc 1 1, 3) := by decide +kernel
theorem dX4_questionHere_58 : decode cX4_questionHere 58 = .ok (.goto (-56), 3) := by decide +kernel
theorem dX4_questionHere_61 : decode cX4_questionHere 61 = .ok (.iconst (-1), 1) := by decide +kernel
theorem dX4_questionHere_62 : decode cX4_questionHere 62 = .ok (.ireturn, 1) := by decide +kernel
def L_X4_questionHere (w : Nat) : Nat → z_Mem → Int32 → Option (Int32 × z_Mem)
  | 0, _, _ => none
  | c + 1, M, x1 =>
    if (M.1 42 4) ≤ x1 then
    some ((-1 : Int32), M)
    else
    if x1 < 0 ∨ 6 ≤ x1.toNatClampNeg then none else
    if (M.1 55 x1.toNatClampNeg) = ((M.1 5 5) - (M.1 5 4)) then
    if x1 < 0 ∨ 6 ≤ x1.toNatClampNeg then none else
    (F_X4_isNameHere w M (M.1 54 x1.toNatClampNeg)).bind fun q5 =>
    if q5.1 = true then
    some (x1, q5.2)
    else
    L_X4_questionHere w c q5.2 (x1 + (1 : Int32))
    else
    L_X4_questionHere w c M (x1 + (1 : Int32))
set_option maxHeartbeats 4000000 in
theorem AL_X4_questionHere {w : Nat} : ∀ (c : Nat), (∀ (M : z_Mem) (x1 : Int32) (r : Int32) (M' : z_Mem) (Q : Option Value → z_Mem → Prop), L_X4_questionHere w c M x1 = some (r, M') → Q (some (.int r)) M' → z_G none 1 mX4_questionHere 2 [some (.ref 55), some (.int x1)] [] M Q) := by
  intro c
  induction c with
  | zero => exact (fun M x1 r M' Q h hq => by rw [L_X4_questionHere] at h; cases h)
  | succ c ih =>
    intro M x1 r M' Q h hq
    rw [L_X4_questionHere] at h
    refine g_iload_n dX4_questionHere_2 rfl rfl ?_
    refine g_aload_n dX4_questionHere_3 rfl rfl ?_
    refine g_get (a := 53) (v := .ref 32) dX4_questionHere_4 f_4_24 sh_53 rfl rfl ?_
    refine g_get (a := 30) (v := .ref 44) dX4_questionHere_7 f_4_141 sh_30 rfl rfl ?_
    refine g_get (a := 42) (v := .int (M.1 42 4)) dX4_questionHere_10 f_4_145 sh_42 rfl rfl ?_
    refine g_ic_ge (t := 61) dX4_questionHere_13 (by decide) (fun c1 => ?_) (fun c1 => ?_)
    · replace h := z_ift c1 h
      refine g_iconst (v := (-1 : Int32)) dX4_questionHere_61 (by decide) ?_
      cases h
      exact g_iret dX4_questionHere_62 rfl rfl hq
    · replace h := z_iff c1 h
      refine g_aload_n dX4_questionHere_16 rfl rfl ?_
      refine g_get (a := 53) (v := .ref 57) dX4_questionHere_17 f_4_17 sh_53 rfl rfl ?_
      refine g_iload_n dX4_questionHere_20 rfl rfl ?_
      by_cases g2 : x1 < 0 ∨ 6 ≤ x1.toNatClampNeg
      · rw [if_pos g2] at h; cases h
      replace h := z_iff g2 h
      refine g_iald (a := 55) dX4_questionHere_21 sh_55 g2 ?_
      refine g_aload_n dX4_questionHere_22 rfl rfl ?_
      refine g_get (a := 53) (v := .ref 7) dX4_questionHere_23 f_4_20 sh_53 rfl rfl ?_
      refine g_get (a := 5) (v := .int (M.1 5 5)) dX4_questionHere_26 f_4_154 sh_5 rfl rfl ?_
      refine g_aload_n dX4_questionHere_29 rfl rfl ?_
      refine g_get (a := 53) (v := .ref 7) dX4_questionHere_30 f_4_20 sh_53 rfl rfl ?_
      refine g_get (a := 5) (v := .int (M.1 5 4)) dX4_questionHere_33 f_4_151 sh_5 rfl rfl ?_
      refine g_isub dX4_questionHere_36 ?_
      refine g_ic_ne (t := 55) dX4_questionHere_37 (by decide) (fun c3 => ?_) (fun c3 => ?_)
      · replace h := z_iff c3 h
        refine g_iinc (v := x1 + (1 : Int32)) (ls' := [some (.ref 55), some (.int (x1 + (1 : Int32)))]) dX4_questionHere_55 rfl rfl rfl ?_
        refine g_goto (t := 2) dX4_questionHere_58 (by decide) ?_
        exact g_sub (z_sub_s (z_sub_s z_sub_nil)) (ih _ _ _ _ _ h hq)
      · replace h := z_ift c3 h
        refine g_aload_n dX4_questionHere_40 rfl rfl ?_
        refine g_aload_n dX4_questionHere_41 rfl rfl ?_
        refine g_get (a := 53) (v := .ref 56) dX4_questionHere_42 f_4_11 sh_53 rfl rfl ?_
        refine g_iload_n dX4_questionHere_45 rfl rfl ?_
        by_cases g4 : x1 < 0 ∨ 6 ≤ x1.toNatClampNeg
        · rw [if_pos g4] at h; cases h
        replace h := z_iff g4 h
        refine g_iald (a := 54) dX4_questionHere_46 sh_54 g4 ?_
        obtain ⟨q5, e6, h⟩ := z_bd h
        refine g_callV (a := 53) (as := [.int (M.1 54 x1.toNatClampNeg)]) (rest := []) (c := mX4_isNameHere) (k1 := 0) dX4_questionHere_47 rfl rfl rfl sh_53 rfl rfl (Nat.le_of_ble_eq_true rfl) (Nat.le_of_ble_eq_true rfl) (by decide) ?_
        refine A_X4_isNameHere e6 ?_
        show z_G none 1 mX4_questionHere 50 [some (.ref 55), some (.int x1)] [.int (z_tb q5.1)] q5.2 Q
        refine g_if_eq (t := 55) dX4_questionHere_50 (by decide) (fun c7 => ?_) (fun c7 => ?_)
        · replace h := z_iff (z_tb0.mp c7) h
          refine g_iinc (v := x1 + (1 : Int32)) (ls' := [some (.ref 55), some (.int (x1 + (1 : Int32)))]) dX4_questionHere_55 rfl rfl rfl ?_
          refine g_goto (t := 2) dX4_questionHere_58 (by decide) ?_
          exact g_sub (z_sub_s (z_sub_s z_sub_nil)) (ih _ _ _ _ _ h hq)
        · replace h := z_ift (z_tbn.mp c7) h
          refine g_iload_n dX4_questionHere_53 rfl rfl ?_
          cases h
          exact g_iret dX4_questionHere_54 rfl rfl hq
def F_X4_questionHere (w : Nat) (M : z_Mem) : Option (Int32 × z_Mem) :=
  L_X4_questionHere w w M (0 : Int32)
set_option maxHeartbeats 4000000 in
theorem A_X4_questionHere {w : Nat} {M : z_Mem} {r : Int32} {M' : z_Mem} {Q : Option Value → z_Mem → Prop} (h : F_X4_questionHere w M = some (r, M')) (hq : Q (some (.int r)) M') : z_Cl 1 mX4_questionHere [.ref 55] M Q := by
  refine g_in (ls := [some (.ref 55), none]) rfl ?_
  unfold F_X4_questionHere at h
  refine g_iconst (v := (0 : Int32)) dX4_questionHere_0 (by decide) ?_
  refine g_istore_n (ls' := [some (.ref 55), some (.int (0 : Int32))]) dX4_questionHere_1 rfl (Nat.le_of_ble_eq_true rfl) rfl ?_
  exact g_sub (z_sub_s (z_sub_s z_sub_nil)) ((AL_X4_questionHere (w := w) w) _ _ _ _ _ h hq)
theorem dX4_readAsk_0 : decode cX4_readAsk 0 = .ok (.aload_n 0, 1) := by decide +kernel
theorem dX4_readAsk_1 : decode cX4_readAsk 1 = .ok (.getfield 24, 3) := by decide +kernel
theorem dX4_readAsk_4 : decode cX4_readAsk 4 = .ok (.getfield 141, 3) := by decide +kernel
theorem dX4_readAsk_7 : decode cX4_readAsk 7 = .ok (.getfield 145, 3) := by decide +kernel
theorem dX4_readAsk_10 : decode cX4_readAsk 10 = .ok (.istore_n 1, 1) := by decide +kernel
theorem dX4_readAsk_11 : decode cX4_readAsk 11 = .ok (.aload_n 0, 1) := by decide +kernel
theorem dX4_readAsk_12 : decode cX4_readAsk 12 = .ok (.iload_n 1, 1) := by decide +kernel
theorem dX4_readAsk_13 : decode cX4_readAsk 13 = .ok (.bipush 6, 2) := by decide +kernel
theorem dX4_readAsk_15 : decode cX4_readAsk 15 = .ok (.invokevirtual 114, 3) := by decide +kernel
theorem dX4_readAsk_18 : decode cX4_readAsk 18 = .ok (.ifCond .ne 5, 3) := by decide +kernel
theorem dX4_readAsk_21 : decode cX4_readAsk 21 = .ok (.iconst 0, 1) := by decide +kernel
theorem dX4_readAsk_22 : decode cX4_readAsk 22 = .ok (.ireturn, 1) := by decide +kernel
theorem dX4_readAsk_23 : decode cX4_readAsk 23 = .ok (.aload_n 0, 1) := by decide +kernel
theorem dX4_readAsk_24 : decode cX4_readAsk 24 = .ok (.getfield 20, 3) := by decide +kernel
theorem dX4_readAsk_27 : decode cX4_readAsk 27 = .ok (.invokevirtual 81, 3) := by decide +kernel
theorem dX4_readAsk_30 : decode cX4_readAsk 30 = .ok (.aload_n 0, 1) := by decide +kernel
theorem dX4_readAsk_31 : decode cX4_readAsk 31 = .ok (.getfield 20, 3) := by decide +kernel
theorem dX4_readAsk_34 : decode cX4_readAsk 34 = .ok (.getfield 43, 3) := by decide +kernel
theorem dX4_readAsk_37 : decode cX4_readAsk 37 = .ok (.bipush 30, 2) := by decide +kernel
theorem dX4_readAsk_39 : decode cX4_readAsk 39 = .ok (.if_icmp .eq 12, 3) := by decide +kernel
theorem dX4_readAsk_42 : decode cX4_readAsk 42 = .ok (.aload_n 0, 1) := by decide +kernel
theorem dX4_readAsk_43 : decode cX4_readAsk 43 = .ok (.getfield 20, 3) := by decide +kernel
theorem dX4_readAsk_46 : decode cX4_readAsk 46 = .ok (.iconst 2, 1) := by decide +kernel
theorem dX4_readAsk_47 : decode cX4_readAsk 47 = .ok (.invokevirtual 72, 3) := by decide +kernel
theorem dX4_readAsk_50 : decode cX4_readAsk 50 = .ok (.ireturn, 1) := by decide +kernel
theorem dX4_readAsk_51 : decode cX4_readAsk 51 = .ok (.aload_n 0, 1) := by decide +kernel
theorem dX4_readAsk_52 : decode cX4_readAsk 52 = .ok (.invokevirtual 148, 3) := by decide +kernel
theorem dX4_readAsk_55 : decode cX4_readAsk 55 = .ok (.iconst (-1), 1) := by decide +kernel
theorem dX4_readAsk_56 : decode cX4_readAsk 56 = .ok (.if_icmp .eq 12, 3) := by decide +kernel
theorem dX4_readAsk_59 : decode cX4_readAsk 59 = .ok (.aload_n 0, 1) := by decide +kernel
theorem dX4_readAsk_60 : decode cX4_readAsk 60 = .ok (.getfield 20, 3) := by decide +kernel
theorem dX4_readAsk_63 : decode cX4_readAsk 63 = .ok (.iconst 3, 1) := by decide +kernel
theorem dX4_readAsk_64 : decode cX4_readAsk 64 = .ok (.invokevirtual 72, 3) := by decide +kernel
theorem dX4_readAsk_67 : decode cX4_readAsk 67 = .ok (.ireturn, 1) := by decide +kernel
theorem dX4_readAsk_68 : decode cX4_readAsk 68 = .ok (.aload_n 0, 1) := by decide +kernel
theorem dX4_readAsk_69 : decode cX4_readAsk 69 = .ok (.getfield 11, 3) := by decide +kernel
theorem dX4_readAsk_72 : decode cX4_readAsk 72 = .ok (.iload_n 1, 1) := by decide +kernel
theorem dX4_readAsk_73 : decode cX4_readAsk 73 = .ok (.aload_n 0, 1) := by decide +kernel
theorem dX4_readAsk_74 : decode cX4_readAsk 74 = .ok (.getfield 20, 3) := by decide +kernel
theorem dX4_readAsk_77 : decode cX4_readAsk 77 = .ok (.getfield 151, 3) := by decide +kernel
theorem dX4_readAsk_80 : decode cX4_readAsk 80 = .ok (.iastore, 1) := by decide +kernel
theorem dX4_readAsk_81 : decode cX4_readAsk 81 = .ok (.aload_n 0, 1) := by decide +kernel
theorem dX4_readAsk_82 : decode cX4_readAsk 82 = .ok (.getfield 17, 3) := by decide +kernel
theorem dX4_readAsk_85 : decode cX4_readAsk 85 = .ok (.iload_n 1, 1) := by decide +kernel
theorem dX4_readAsk_86 : decode cX4_readAsk 86 = .ok (.aload_n 0, 1) := by decide +kernel
theorem dX4_readAsk_87 : decode cX4_readAsk 87 = .ok (.getfield 20, 3) := by decide +kernel
theorem dX4_readAsk_90 : decode cX4_readAsk 90 = .ok (.getfield 154, 3) := by decide +kernel
theorem dX4_readAsk_93 : decode cX4_readAsk 93 = .ok (.aload_n 0, 1) := by decide +kernel
theorem dX4_readAsk_94 : decode cX4_readAsk 94 = .ok (.getfield 20, 3) := by decide +kernel
theorem dX4_readAsk_97 : decode cX4_readAsk 97 = .ok (.getfield 151, 3) := by decide +kernel
theorem dX4_readAsk_100 : decode cX4_readAsk 100 = .ok (.isub, 1) := by decide +kernel
theorem dX4_readAsk_101 : decode cX4_readAsk 101 = .ok (.iastore, 1) := by decide +kernel
theorem dX4_readAsk_102 : decode cX4_readAsk 102 = .ok (.aload_n 0, 1) := by decide +kernel
theorem dX4_readAsk_103 : decode cX4_readAsk 103 = .ok (.getfield 24, 3) := by decide +kernel
theorem dX4_readAsk_106 : decode cX4_readAsk 106 = .ok (.getfield 141, 3) := by decide +kernel
theorem dX4_readAsk_109 : decode cX4_readAsk 109 = .ok (.iload_n 1, 1) := by decide +kernel
theorem dX4_readAsk_110 : decode cX4_readAsk 110 = .ok (.iconst 1, 1) := by decide +kernel
theorem dX4_readAsk_111 : decode cX4_readAsk 111 = .ok (.iadd, 1) := by decide +kernel
theorem dX4_readAsk_112 : decode cX4_readAsk 112 = .ok (.putfield 145, 3) := by decide +kernel
theorem dX4_readAsk_115 : decode cX4_readAsk 115 = .ok (.aload_n 0, 1) := by decide +kernel
theorem dX4_readAsk_116 : decode cX4_readAsk 116 = .ok (.getfield 20, 3) := by decide +kernel
theorem dX4_readAsk_119 : decode cX4_readAsk 119 = .ok (.invokevirtual 81, 3) := by decide +kernel
theorem dX4_readAsk_122 : decode cX4_readAsk 122 = .ok (.iconst 1, 1) := by decide +kernel
theorem dX4_readAsk_123 : decode cX4_readAsk 123 = .ok (.ireturn, 1) := by decide +kernel
def F_X4_readAsk (w : Nat) (M : z_Mem) : Option (Bool × z_Mem) :=
  (F_X4_hasRoom w M (M.1 42 4) (6 : Int32)).bind fun q1 =>
  if q1.1 = true then
  (F_X7_advance w q1.2).bind fun q4 =>
  if (q4.2.1 5 3) = (30 : Int32) then
  (F_X4_questionHere w q4.2).bind fun q7 =>
  if q7.1 = (-1 : Int32) then
  if (M.1 42 4) < 0 ∨ 6 ≤ (M.1 42 4).toNatClampNeg then none else
  if (M.1 42 4) < 0 ∨ 6 ≤ (M.1 42 4).toNatClampNeg then none else
  (F_X7_advance w (z_wI (z_wI (z_wI q7.2 54 ((M.1 42 4).toNatClampNeg) (q7.2.1 5 4)) 55 ((M.1 42 4).toNatClampNeg) ((q7.2.1 5 5) - (q7.2.1 5 4))) 42 4 ((M.1 42 4) + (1 : Int32)))).bind fun q12 =>
  some (true, q12.2)
  else
  (F_X7_fail w q7.2 (3 : Int32)).bind fun q14 =>
  some (q14.1, q14.2)
  else
  (F_X7_fail w q4.2 (2 : Int32)).bind fun q16 =>
  some (q16.1, q16.2)
  else
  some (false, q1.2)
set_option maxHeartbeats 4000000 in
theorem A_X4_readAsk {w : Nat} {M : z_Mem} {r : Bool} {M' : z_Mem} {Q : Option Value → z_Mem → Prop} (h : F_X4_readAsk w M = some (r, M')) (hq : Q (some (.int (z_tb r))) M') : z_Cl 3 mX4_readAsk [.ref 55] M Q := by
  refine g_in (ls := [some (.ref 55), none]) rfl ?_
  unfold F_X4_readAsk at h
  refine g_aload_n dX4_readAsk_0 rfl rfl ?_
  refine g_get (a := 53) (v := .ref 32) dX4_readAsk_1 f_4_24 sh_53 rfl rfl ?_
  refine g_get (a := 30) (v := .ref 44) dX4_readAsk_4 f_4_141 sh_30 rfl rfl ?_
  refine g_get (a := 42) (v := .int (M.1 42 4)) dX4_readAsk_7 f_4_145 sh_42 rfl rfl ?_
  refine g_istore_n (ls' := [some (.ref 55), some (.int (M.1 42 4))]) dX4_readAsk_10 rfl (Nat.le_of_ble_eq_true rfl) rfl ?_
  refine g_aload_n dX4_readAsk_11 rfl rfl ?_
  refine g_iload_n dX4_readAsk_12 rfl rfl ?_
  refine g_bipush (v := (6 : Int32)) dX4_readAsk_13 (by decide) ?_
  obtain ⟨q1, e2, h⟩ := z_bd h
  refine g_callV (a := 53) (as := [.int (M.1 42 4), .int (6 : Int32)]) (rest := []) (c := mX4_hasRoom) (k1 := 1) dX4_readAsk_15 rfl rfl rfl sh_53 rfl rfl (Nat.le_of_ble_eq_true rfl) (Nat.le_of_ble_eq_true rfl) (by decide) ?_
  refine A_X4_hasRoom e2 ?_
  show z_G none 3 mX4_readAsk 18 [some (.ref 55), some (.int (M.1 42 4))] [.int (z_tb q1.1)] q1.2 Q
  refine g_if_ne (t := 23) dX4_readAsk_18 (by decide) (fun c3 => ?_) (fun c3 => ?_)
  · replace h := z_ift (z_tbn.mp c3) h
    refine g_aload_n dX4_readAsk_23 rfl rfl ?_
    refine g_get (a := 53) (v := .ref 7) dX4_readAsk_24 f_4_20 sh_53 rfl rfl ?_
    obtain ⟨q4, e5, h⟩ := z_bd h
    refine g_callV (a := 5) (as := []) (rest := []) (c := mX7_advance) (k1 := 2) dX4_readAsk_27 rfl rfl rfl sh_5 rfl rfl (Nat.le_of_ble_eq_true rfl) (Nat.le_of_ble_eq_true rfl) (by decide) ?_
    refine A_X7_advance e5 ?_
    show z_G none 3 mX4_readAsk 30 [some (.ref 55), some (.int (M.1 42 4))] [] q4.2 Q
    refine g_aload_n dX4_readAsk_30 rfl rfl ?_
    refine g_get (a := 53) (v := .ref 7) dX4_readAsk_31 f_4_20 sh_53 rfl rfl ?_
    refine g_get (a := 5) (v := .int (q4.2.1 5 3)) dX4_readAsk_34 f_4_43 sh_5 rfl rfl ?_
    refine g_bipush (v := (30 : Int32)) dX4_readAsk_37 (by decide) ?_
    refine g_ic_eq (t := 51) dX4_readAsk_39 (by decide) (fun c6 => ?_) (fun c6 => ?_)
    · replace h := z_ift c6 h
      refine g_aload_n dX4_readAsk_51 rfl rfl ?_
      obtain ⟨q7, e8, h⟩ := z_bd h
      refine g_callV (a := 53) (as := []) (rest := []) (c := mX4_questionHere) (k1 := 1) dX4_readAsk_52 rfl rfl rfl sh_53 rfl rfl (Nat.le_of_ble_eq_true rfl) (Nat.le_of_ble_eq_true rfl) (by decide) ?_
      refine A_X4_questionHere e8 ?_
      show z_G none 3 mX4_readAsk 55 [some (.ref 55), some (.int (M.1 42 4))] [.int q7.1] q7.2 Q
      refine g_iconst (v := (-1 : Int32)) dX4_readAsk_55 (by decide) ?_
      refine g_ic_eq (t := 68) dX4_readAsk_56 (by decide) (fun c9 => ?_) (fun c9 => ?_)
      · replace h := z_ift c9 h
        refine g_aload_n dX4_readAsk_68 rfl rfl ?_
        refine g_get (a := 53) (v := .ref 56) dX4_readAsk_69 f_4_11 sh_53 rfl rfl ?_
        refine g_iload_n dX4_readAsk_72 rfl rfl ?_
        refine g_aload_n dX4_readAsk_73 rfl rfl ?_
        refine g_get (a := 53) (v := .ref 7) dX4_readAsk_74 f_4_20 sh_53 rfl rfl ?_
        refine g_get (a := 5) (v := .int (q7.2.1 5 4)) dX4_readAsk_77 f_4_151 sh_5 rfl rfl ?_
        by_cases g10 : (M.1 42 4) < 0 ∨ 6 ≤ (M.1 42 4).toNatClampNeg
        · rw [if_pos g10] at h; cases h
        replace h := z_iff g10 h
        refine g_iast (a := 54) dX4_readAsk_80 sh_54 g10 ?_
        refine g_aload_n dX4_readAsk_81 rfl rfl ?_
        refine g_get (a := 53) (v := .ref 57) dX4_readAsk_82 f_4_17 sh_53 rfl rfl ?_
        refine g_iload_n dX4_readAsk_85 rfl rfl ?_
        refine g_aload_n dX4_readAsk_86 rfl rfl ?_
        refine g_get (a := 53) (v := .ref 7) dX4_readAsk_87 f_4_20 sh_53 rfl rfl ?_
        refine g_get (a := 5) (v := .int (q7.2.1 5 5)) dX4_readAsk_90 f_4_154 sh_5 rfl (by simp [z_fv, z_wI, z_wL, z_wLs, upd, vp_updL]) ?_
        refine g_aload_n dX4_readAsk_93 rfl rfl ?_
        refine g_get (a := 53) (v := .ref 7) dX4_readAsk_94 f_4_20 sh_53 rfl rfl ?_
        refine g_get (a := 5) (v := .int (q7.2.1 5 4)) dX4_readAsk_97 f_4_151 sh_5 rfl (by simp [z_fv, z_wI, z_wL, z_wLs, upd, vp_updL]) ?_
        refine g_isub dX4_readAsk_100 ?_
        by_cases g11 : (M.1 42 4) < 0 ∨ 6 ≤ (M.1 42 4).toNatClampNeg
        · rw [if_pos g11] at h; cases h
        replace h := z_iff g11 h
        refine g_iast (a := 55) dX4_readAsk_101 sh_55 g11 ?_
        refine g_aload_n dX4_readAsk_102 rfl rfl ?_
        refine g_get (a := 53) (v := .ref 32) dX4_readAsk_103 f_4_24 sh_53 rfl rfl ?_
        refine g_get (a := 30) (v := .ref 44) dX4_readAsk_106 f_4_141 sh_30 rfl rfl ?_
        refine g_iload_n dX4_readAsk_109 rfl rfl ?_
        refine g_iconst (v := (1 : Int32)) dX4_readAsk_110 (by decide) ?_
        refine g_iadd dX4_readAsk_111 ?_
        refine g_putI (a := 42) dX4_readAsk_112 f_4_145 sh_42 rfl rfl rfl ?_
        refine g_aload_n dX4_readAsk_115 rfl rfl ?_
        refine g_get (a := 53) (v := .ref 7) dX4_readAsk_116 f_4_20 sh_53 rfl rfl ?_
        obtain ⟨q12, e13, h⟩ := z_bd h
        refine g_callV (a := 5) (as := []) (rest := []) (c := mX7_advance) (k1 := 2) dX4_readAsk_119 rfl rfl rfl sh_5 rfl rfl (Nat.le_of_ble_eq_true rfl) (Nat.le_of_ble_eq_true rfl) (by decide) ?_
        refine A_X7_advance e13 ?_
        show z_G none 3 mX4_readAsk 122 [some (.ref 55), some (.int (M.1 42 4))] [] q12.2 Q
        refine g_iconst (v := (1 : Int32)) dX4_readAsk_122 (by decide) ?_
        cases h
        exact g_iret dX4_readAsk_123 rfl rfl hq
      · replace h := z_iff c9 h
        refine g_aload_n dX4_readAsk_59 rfl rfl ?_
        refine g_get (a := 53) (v := .ref 7) dX4_readAsk_60 f_4_20 sh_53 rfl rfl ?_
        refine g_iconst (v := (3 : Int32)) dX4_readAsk_63 (by decide) ?_
        obtain ⟨q14, e15, h⟩ := z_bd h
        refine g_callV (a := 5) (as := [.int (3 : Int32)]) (rest := []) (c := mX7_fail) (k1 := 0) dX4_readAsk_64 rfl rfl rfl sh_5 rfl rfl (Nat.le_of_ble_eq_true rfl) (Nat.le_of_ble_eq_true rfl) (by decide) ?_
        refine A_X7_fail e15 ?_
        show z_G none 3 mX4_readAsk 67 [some (.ref 55), some (.int (M.1 42 4))] [.int (z_tb q14.1)] q14.2 Q
        cases h
        exact g_iret dX4_readAsk_67 rfl nb_tb hq
    · replace h := z_iff c6 h
      refine g_aload_n dX4_readAsk_42 rfl rfl ?_
      refine g_get (a := 53) (v := .ref 7) dX4_readAsk_43 f_4_20 sh_53 rfl rfl ?_
      refine g_iconst (v := (2 : Int32)) dX4_readAsk_46 (by decide) ?_
      obtain ⟨q16, e17, h⟩ := z_bd h
      refine g_callV (a := 5) (as := [.int (2 : Int32)]) (rest := []) (c := mX7_fail) (k1 := 0) dX4_readAsk_47 rfl rfl rfl sh_5 rfl rfl (Nat.le_of_ble_eq_true rfl) (Nat.le_of_ble_eq_true rfl) (by decide) ?_
      refine A_X7_fail e17 ?_
      show z_G none 3 mX4_readAsk 50 [some (.ref 55), some (.int (M.1 42 4))] [.int (z_tb q16.1)] q16.2 Q
      cases h
      exact g_iret dX4_readAsk_50 rfl nb_tb hq
  · replace h := z_iff (z_tb0.mp c3) h
    refine g_iconst (v := (0 : Int32)) dX4_readAsk_21 (by decide) ?_
    cases h
    exact g_iret dX4_readAsk_22 rfl rfl hq
theorem dX4_takeLiteral_0 : decode cX4_takeLiteral 0 = .ok (.aload_n 0, 1) := by decide +kernel
theorem dX4_takeLiteral_1 : decode cX4_takeLiteral 1 = .ok (.getfield 20, 3) := by decide +kernel
theorem dX4_takeLiteral_4 : decode cX4_takeLiteral 4 = .ok (.getfield 43, 3) := by decide +kernel
theorem dX4_takeLiteral_7 : decode cX4_takeLiteral 7 = .ok (.bipush 13, 2) := by decide +kernel
theorem dX4_takeLiteral_9 : decode cX4_takeLiteral 9 = .ok (.if_icmp .ne 25, 3) := by decide +kernel
theorem dX4_takeLiteral_12 : decode cX4_takeLiteral 12 = .ok (.iload_n 1, 1) := by decide +kernel
theorem dX4_takeLiteral_13 : decode cX4_takeLiteral 13 = .ok (.ifCond .eq 14, 3) := by decide +kernel
theorem dX4_takeLiteral_16 : decode cX4_takeLiteral 16 = .ok (.aload_n 0, 1) := by decide +kernel
theorem dX4_takeLiteral_17 : decode cX4_takeLiteral 17 = .ok (.getfield 20, 3) := by decide +kernel
theorem dX4_takeLiteral_20 : decode cX4_takeLiteral 20 = .ok (.iconst 5, 1) := by decide +kernel
theorem dX4_takeLiteral_21 : decode cX4_takeLiteral 21 = .ok (.invokevirtual 72, 3) := by decide +kernel
theorem dX4_takeLiteral_24 : decode cX4_takeLiteral 24 = .ok (.pop, 1) := by decide +kernel
theorem dX4_takeLiteral_25 : decode cX4_takeLiteral 25 = .ok (.iconst (-1), 1) := by decide +kernel
theorem dX4_takeLiteral_26 : decode cX4_takeLiteral 26 = .ok (.ireturn, 1) := by decide +kernel
theorem dX4_takeLiteral_27 : decode cX4_takeLiteral 27 = .ok (.aload_n 0, 1) := by decide +kernel
theorem dX4_takeLiteral_28 : decode cX4_takeLiteral 28 = .ok (.getfield 20, 3) := by decide +kernel
theorem dX4_takeLiteral_31 : decode cX4_takeLiteral 31 = .ok (.invokevirtual 81, 3) := by decide +kernel
theorem dX4_takeLiteral_34 : decode cX4_takeLiteral 34 = .ok (.aload_n 0, 1) := by decide +kernel
theorem dX4_takeLiteral_35 : decode cX4_takeLiteral 35 = .ok (.getfield 20, 3) := by decide +kernel
theorem dX4_takeLiteral_38 : decode cX4_takeLiteral 38 = .ok (.getfield 43, 3) := by decide +kernel
theorem dX4_takeLiteral_41 : decode cX4_takeLiteral 41 = .ok (.bipush 30, 2) := by decide +kernel
theorem dX4_takeLiteral_43 : decode cX4_takeLiteral 43 = .ok (.if_icmp .eq 14, 3) := by decide +kernel
theorem dX4_takeLiteral_46 : decode cX4_takeLiteral 46 = .ok (.aload_n 0, 1) := by decide +kernel
theorem dX4_takeLiteral_47 : decode cX4_takeLiteral 47 = .ok (.getfield 20, 3) := by decide +kernel
theorem dX4_takeLiteral_50 : decode cX4_takeLiteral 50 = .ok (.iconst 2, 1) := by decide +kernel
theorem dX4_takeLiteral_51 : decode cX4_takeLiteral 51 = .ok (.invokevirtual 72, 3) := by decide +kernel
theorem dX4_takeLiteral_54 : decode cX4_takeLiteral 54 = .ok (.pop, 1) := by decide +kernel
theorem dX4_takeLiteral_55 : decode cX4_takeLiteral 55 = .ok (.iconst (-1), 1) := by decide +kernel
theorem dX4_takeLiteral_56 : decode cX4_takeLiteral 56 = .ok (.ireturn, 1) := by decide +kernel
theorem dX4_takeLiteral_57 : decode cX4_takeLiteral 57 = .ok (.aload_n 0, 1) := by decide +kernel
theorem dX4_takeLiteral_58 : decode cX4_takeLiteral 58 = .ok (.invokevirtual 148, 3) := by decide +kernel
theorem dX4_takeLiteral_61 : decode cX4_takeLiteral 61 = .ok (.istore_n 2, 1) := by decide +kernel
theorem dX4_takeLiteral_62 : decode cX4_takeLiteral 62 = .ok (.iload_n 2, 1) := by decide +kernel
theorem dX4_takeLiteral_63 : decode cX4_takeLiteral 63 = .ok (.iconst (-1), 1) := by decide +kernel
theorem dX4_takeLiteral_64 : decode cX4_takeLiteral 64 = .ok (.if_icmp .eq 7, 3) := by decide +kernel
theorem dX4_takeLiteral_67 : decode cX4_takeLiteral 67 = .ok (.iload_n 1, 1) := by decide +kernel
theorem dX4_takeLiteral_68 : decode cX4_takeLiteral 68 = .ok (.ifCond .eq 23, 3) := by decide +kernel
theorem dX4_takeLiteral_71 : decode cX4_takeLiteral 71 = .ok (.aload_n 0, 1) := by decide +kernel
theorem dX4_takeLiteral_72 : decode cX4_takeLiteral 72 = .ok (.getfield 20, 3) := by decide +kernel
theorem dX4_takeLiteral_75 : decode cX4_takeLiteral 75 = .ok (.iload_n 2, 1) := by decide +kernel
theorem dX4_takeLiteral_76 : decode cX4_takeLiteral 76 = .ok (.iconst (-1), 1) := by decide +kernel
theorem dX4_takeLiteral_77 : decode cX4_takeLiteral 77 = .ok (.if_icmp .ne 7, 3) := by decide +kernel
theorem dX4_takeLiteral_80 : decode cX4_takeLiteral 80 = .ok (.iconst 3, 1) := by decide +kernel
theorem dX4_takeLiteral_81 : decode cX4_takeLiteral 81 = .ok (.goto 4, 3) := by decide +kernel
theorem dX4_takeLiteral_84 : decode cX4_takeLiteral 84 = .ok (.iconst 5, 1) := by decide +kernel
theorem dX4_takeLiteral_85 : decode cX4_takeLiteral 85 = .ok (.invokevirtual 72, 3) := by decide +kernel
theorem dX4_takeLiteral_88 : decode cX4_takeLiteral 88 = .ok (.pop, 1) := by decide +kernel
theorem dX4_takeLiteral_89 : decode cX4_takeLiteral 89 = .ok (.iconst (-1), 1) := by decide +kernel
theorem dX4_takeLiteral_90 : decode cX4_takeLiteral 90 = .ok (.ireturn, 1) := by decide +kernel
theorem dX4_takeLiteral_91 : decode cX4_takeLiteral 91 = .ok (.aload_n 0, 1) := by decide +kernel
theorem dX4_takeLiteral_92 : decode cX4_takeLiteral 92 = .ok (.getfield 20, 3) := by decide +kernel
theorem dX4_takeLiteral_95 : decode cX4_takeLiteral 95 = .ok (.invokevirtual 81, 3) := by decide +kernel
theorem dX4_takeLiteral_98 : decode cX4_takeLiteral 98 = .ok (.iload_n 2, 1) := by decide +kernel
theorem dX4_takeLiteral_99 : decode cX4_takeLiteral 99 = .ok (.ireturn, 1) := by decide +kernel
def F_X4_takeLiteral (w : Nat) (M : z_Mem) (a1 : Int32) : Option (Int32 × z_Mem) :=
  if (M.1 5 3) = (13 : Int32) then
  if a1 = (0 : Int32) then
  (F_X7_advance w M).bind fun q22 =>
  if (q22.2.1 5 3) = (30 : Int32) then
  (F_X4_questionHere w q22.2).bind fun q25 =>
  if q25.1 = (-1 : Int32) then
  if q25.1 = (-1 : Int32) then
  (F_X7_fail w q25.2 (3 : Int32)).bind fun q31 =>
  some ((-1 : Int32), q31.2)
  else
  (F_X7_fail w q25.2 (5 : Int32)).bind fun q29 =>
  some ((-1 : Int32), q29.2)
  else
  if a1 = (0 : Int32) then
  (F_X7_advance w q25.2).bind fun q34 =>
  some (q25.1, q34.2)
  else
  if q25.1 = (-1 : Int32) then
  (F_X7_fail w q25.2 (3 : Int32)).bind fun q39 =>
  some ((-1 : Int32), q39.2)
  else
  (F_X7_fail w q25.2 (5 : Int32)).bind fun q37 =>
  some ((-1 : Int32), q37.2)
  else
  (F_X7_fail w q22.2 (2 : Int32)).bind fun q41 =>
  some ((-1 : Int32), q41.2)
  else
  (F_X7_fail w M (5 : Int32)).bind fun q43 =>
  some ((-1 : Int32), q43.2)
  else
  if (M.1 5 3) = (30 : Int32) then
  (F_X4_questionHere w M).bind fun q3 =>
  if q3.1 = (-1 : Int32) then
  if q3.1 = (-1 : Int32) then
  (F_X7_fail w q3.2 (3 : Int32)).bind fun q9 =>
  some ((-1 : Int32), q9.2)
  else
  (F_X7_fail w q3.2 (5 : Int32)).bind fun q7 =>
  some ((-1 : Int32), q7.2)
  else
  if a1 = (0 : Int32) then
  (F_X7_advance w q3.2).bind fun q12 =>
  some (q3.1, q12.2)
  else
  if q3.1 = (-1 : Int32) then
  (F_X7_fail w q3.2 (3 : Int32)).bind fun q17 =>
  some ((-1 : Int32), q17.2)
  else
  (F_X7_fail w q3.2 (5 : Int32)).bind fun q15 =>
  some ((-1 : Int32), q15.2)
  else
  (F_X7_fail w M (2 : Int32)).bind fun q19 =>
  some ((-1 : Int32), q19.2)
set_option maxHeartbeats 4000000 in
theorem A_X4_takeLiteral {w : Nat} {M : z_Mem} {a1 : Int32} {r : Int32} {M' : z_Mem} {Q : Option Value → z_Mem → Prop} (h : F_X4_takeLiteral w M a1 = some (r, M')) (hq : Q (some (.int r)) M') : z_Cl 3 mX4_takeLiteral [.ref 55, .int a1] M Q := by
  refine g_in (ls := [some (.ref 55), some (.int a1), none]) rfl ?_
  unfold F_X4_takeLiteral at h
  refine g_aload_n dX4_takeLiteral_0 rfl rfl ?_
  refine g_get (a := 53) (v := .ref 7) dX4_takeLiteral_1 f_4_20 sh_53 rfl rfl ?_
  refine g_get (a := 5) (v := .int (M.1 5 3)) dX4_takeLiteral_4 f_4_43 sh_5 rfl rfl ?_
  refine g_bipush (v := (13 : Int32)) dX4_takeLiteral_7 (by decide) ?_
  refine g_ic_ne (t := 34) dX4_takeLiteral_9 (by decide) (fun c1 => ?_) (fun c1 => ?_)
  · replace h := z_iff c1 h
    refine g_aload_n dX4_takeLiteral_34 rfl rfl ?_
    refine g_get (a := 53) (v := .ref 7) dX4_takeLiteral_35 f_4_20 sh_53 rfl rfl ?_
    refine g_get (a := 5) (v := .int (M.1 5 3)) dX4_takeLiteral_38 f_4_43 sh_5 rfl rfl ?_
    refine g_bipush (v := (30 : Int32)) dX4_takeLiteral_41 (by decide) ?_
    refine g_ic_eq (t := 57) dX4_takeLiteral_43 (by decide) (fun c2 => ?_) (fun c2 => ?_)
    · replace h := z_ift c2 h
      refine g_aload_n dX4_takeLiteral_57 rfl rfl ?_
      obtain ⟨q3, e4, h⟩ := z_bd h
      refine g_callV (a := 53) (as := []) (rest := []) (c := mX4_questionHere) (k1 := 1) dX4_takeLiteral_58 rfl rfl rfl sh_53 rfl rfl (Nat.le_of_ble_eq_true rfl) (Nat.le_of_ble_eq_true rfl) (by decide) ?_
      refine A_X4_questionHere e4 ?_
      show z_G none 3 mX4_takeLiteral 61 [some (.ref 55), some (.int a1), none] [.int q3.1] q3.2 Q
      refine g_istore_n (ls' := [some (.ref 55), some (.int a1), some (.int q3.1)]) dX4_takeLiteral_61 rfl (Nat.le_of_ble_eq_true rfl) rfl ?_
      refine g_iload_n dX4_takeLiteral_62 rfl rfl ?_
      refine g_iconst (v := (-1 : Int32)) dX4_takeLiteral_63 (by decide) ?_
      refine g_ic_eq (t := 71) dX4_takeLiteral_64 (by decide) (fun c5 => ?_) (fun c5 => ?_)
      · replace h := z_ift c5 h
        refine g_aload_n dX4_takeLiteral_71 rfl rfl ?_
        refine g_get (a := 53) (v := .ref 7) dX4_takeLiteral_72 f_4_20 sh_53 rfl rfl ?_
        refine g_iload_n dX4_takeLiteral_75 rfl rfl ?_
        refine g_iconst (v := (-1 : Int32)) dX4_takeLiteral_76 (by decide) ?_
        refine g_ic_ne (t := 84) dX4_takeLiteral_77 (by decide) (fun c6 => ?_) (fun c6 => ?_)
        · replace h := z_iff c6 h
          refine g_iconst (v := (5 : Int32)) dX4_takeLiteral_84 (by decide) ?_
          obtain ⟨q7, e8, h⟩ := z_bd h
          refine g_callV (a := 5) (as := [.int (5 : Int32)]) (rest := []) (c := mX7_fail) (k1 := 0) dX4_takeLiteral_85 rfl rfl rfl sh_5 rfl rfl (Nat.le_of_ble_eq_true rfl) (Nat.le_of_ble_eq_true rfl) (by decide) ?_
          refine A_X7_fail e8 ?_
          show z_G none 3 mX4_takeLiteral 88 [some (.ref 55), some (.int a1), some (.int q3.1)] [.int (z_tb q7.1)] q7.2 Q
          refine g_pop dX4_takeLiteral_88 rfl ?_
          refine g_iconst (v := (-1 : Int32)) dX4_takeLiteral_89 (by decide) ?_
          cases h
          exact g_iret dX4_takeLiteral_90 rfl rfl hq
        · replace h := z_ift c6 h
          refine g_iconst (v := (3 : Int32)) dX4_takeLiteral_80 (by decide) ?_
          refine g_goto (t := 85) dX4_takeLiteral_81 (by decide) ?_
          obtain ⟨q9, e10, h⟩ := z_bd h
          refine g_callV (a := 5) (as := [.int (3 : Int32)]) (rest := []) (c := mX7_fail) (k1 := 0) dX4_takeLiteral_85 rfl rfl rfl sh_5 rfl rfl (Nat.le_of_ble_eq_true rfl) (Nat.le_of_ble_eq_true rfl) (by decide) ?_
          refine A_X7_fail e10 ?_
          show z_G none 3 mX4_takeLiteral 88 [some (.ref 55), some (.int a1), some (.int q3.1)] [.int (z_tb q9.1)] q9.2 Q
          refine g_pop dX4_takeLiteral_88 rfl ?_
          refine g_iconst (v := (-1 : Int32)) dX4_takeLiteral_89 (by decide) ?_
          cases h
          exact g_iret dX4_takeLiteral_90 rfl rfl hq
      · replace h := z_iff c5 h
        refine g_iload_n dX4_takeLiteral_67 rfl rfl ?_
        refine g_if_eq (t := 91) dX4_takeLiteral_68 (by decide) (fun c11 => ?_) (fun c11 => ?_)
        · replace h := z_ift c11 h
          refine g_aload_n dX4_takeLiteral_91 rfl rfl ?_
          refine g_get (a := 53) (v := .ref 7) dX4_takeLiteral_92 f_4_20 sh_53 rfl rfl ?_
          obtain ⟨q12, e13, h⟩ := z_bd h
          refine g_callV (a := 5) (as := []) (rest := []) (c := mX7_advance) (k1 := 2) dX4_takeLiteral_95 rfl rfl rfl sh_5 rfl rfl (Nat.le_of_ble_eq_true rfl) (Nat.le_of_ble_eq_true rfl) (by decide) ?_
          refine A_X7_advance e13 ?_
          show z_G none 3 mX4_takeLiteral 98 [some (.ref 55), some (.int a1), some (.int q3.1)] [] q12.2 Q
          refine g_iload_n dX4_takeLiteral_98 rfl rfl ?_
          cases h
          exact g_iret dX4_takeLiteral_99 rfl rfl hq
        · replace h := z_iff c11 h
          refine g_aload_n dX4_takeLiteral_71 rfl rfl ?_
          refine g_get (a := 53) (v := .ref 7) dX4_takeLiteral_72 f_4_20 sh_53 rfl rfl ?_
          refine g_iload_n dX4_takeLiteral_75 rfl rfl ?_
          refine g_iconst (v := (-1 : Int32)) dX4_takeLiteral_76 (by decide) ?_
          refine g_ic_ne (t := 84) dX4_takeLiteral_77 (by decide) (fun c14 => ?_) (fun c14 => ?_)
          · replace h := z_iff c14 h
            refine g_iconst (v := (5 : Int32)) dX4_takeLiteral_84 (by decide) ?_
            obtain ⟨q15, e16, h⟩ := z_bd h
            refine g_callV (a := 5) (as := [.int (5 : Int32)]) (rest := []) (c := mX7_fail) (k1 := 0) dX4_takeLiteral_85 rfl rfl rfl sh_5 rfl rfl (Nat.le_of_ble_eq_true rfl) (Nat.le_of_ble_eq_true rfl) (by decide) ?_
            refine A_X7_fail e16 ?_
            show z_G none 3 mX4_takeLiteral 88 [some (.ref 55), some (.int a1), some (.int q3.1)] [.int (z_tb q15.1)] q15.2 Q
            refine g_pop dX4_takeLiteral_88 rfl ?_
            refine g_iconst (v := (-1 : Int32)) dX4_takeLiteral_89 (by decide) ?_
            cases h
            exact g_iret dX4_takeLiteral_90 rfl rfl hq
          · replace h := z_ift c14 h
            refine g_iconst (v := (3 : Int32)) dX4_takeLiteral_80 (by decide) ?_
            refine g_goto (t := 85) dX4_takeLiteral_81 (by decide) ?_
            obtain ⟨q17, e18, h⟩ := z_bd h
            refine g_callV (a := 5) (as := [.int (3 : Int32)]) (rest := []) (c := mX7_fail) (k1 := 0) dX4_takeLiteral_85 rfl rfl rfl sh_5 rfl rfl (Nat.le_of_ble_eq_true rfl) (Nat.le_of_ble_eq_true rfl) (by decide) ?_
            refine A_X7_fail e18 ?_
            show z_G none 3 mX4_takeLiteral 88 [some (.ref 55), some (.int a1), some (.int q3.1)] [.int (z_tb q17.1)] q17.2 Q
            refine g_pop dX4_takeLiteral_88 rfl ?_
            refine g_iconst (v := (-1 : Int32)) dX4_takeLiteral_89 (by decide) ?_
            cases h
            exact g_iret dX4_takeLiteral_90 rfl rfl hq
    · replace h := z_iff c2 h
      refine g_aload_n dX4_takeLiteral_46 rfl rfl ?_
      refine g_get (a := 53) (v := .ref 7) dX4_takeLiteral_47 f_4_20 sh_53 rfl rfl ?_
      refine g_iconst (v := (2 : Int32)) dX4_takeLiteral_50 (by decide) ?_
      obtain ⟨q19, e20, h⟩ := z_bd h
      refine g_callV (a := 5) (as := [.int (2 : Int32)]) (rest := []) (c := mX7_fail) (k1 := 0) dX4_takeLiteral_51 rfl rfl rfl sh_5 rfl rfl (Nat.le_of_ble_eq_true rfl) (Nat.le_of_ble_eq_true rfl) (by decide) ?_
      refine A_X7_fail e20 ?_
      show z_G none 3 mX4_takeLiteral 54 [some (.ref 55), some (.int a1), none] [.int (z_tb q19.1)] q19.2 Q
      refine g_pop dX4_takeLiteral_54 rfl ?_
      refine g_iconst (v := (-1 : Int32)) dX4_takeLiteral_55 (by decide) ?_
      cases h
      exact g_iret dX4_takeLiteral_56 rfl rfl hq
  · replace h := z_ift c1 h
    refine g_iload_n dX4_takeLiteral_12 rfl rfl ?_
    refine g_if_eq (t := 27) dX4_takeLiteral_13 (by decide) (fun c21 => ?_) (fun c21 => ?_)
    · replace h := z_ift c21 h
      refine g_aload_n dX4_takeLiteral_27 rfl rfl ?_
      refine g_get (a := 53) (v := .ref 7) dX4_takeLiteral_28 f_4_20 sh_53 rfl rfl ?_
      obtain ⟨q22, e23, h⟩ := z_bd h
      refine g_callV (a := 5) (as := []) (rest := []) (c := mX7_advance) (k1 := 2) dX4_takeLiteral_31 rfl rfl rfl sh_5 rfl rfl (Nat.le_of_ble_eq_true rfl) (Nat.le_of_ble_eq_true rfl) (by decide) ?_
      refine A_X7_advance e23 ?_
      show z_G none 3 mX4_takeLiteral 34 [some (.ref 55), some (.int a1), none] [] q22.2 Q
      refine g_aload_n dX4_takeLiteral_34 rfl rfl ?_
      refine g_get (a := 53) (v := .ref 7) dX4_takeLiteral_35 f_4_20 sh_53 rfl rfl ?_
      refine g_get (a := 5) (v := .int (q22.2.1 5 3)) dX4_takeLiteral_38 f_4_43 sh_5 rfl rfl ?_
      refine g_bipush (v := (30 : Int32)) dX4_takeLiteral_41 (by decide) ?_
      refine g_ic_eq (t := 57) dX4_takeLiteral_43 (by decide) (fun c24 => ?_) (fun c24 => ?_)
      · replace h := z_ift c24 h
        refine g_aload_n dX4_takeLiteral_57 rfl rfl ?_
        obtain ⟨q25, e26, h⟩ := z_bd h
        refine g_callV (a := 53) (as := []) (rest := []) (c := mX4_questionHere) (k1 := 1) dX4_takeLiteral_58 rfl rfl rfl sh_53 rfl rfl (Nat.le_of_ble_eq_true rfl) (Nat.le_of_ble_eq_true rfl) (by decide) ?_
        refine A_X4_questionHere e26 ?_
        show z_G none 3 mX4_takeLiteral 61 [some (.ref 55), some (.int a1), none] [.int q25.1] q25.2 Q
        refine g_istore_n (ls' := [some (.ref 55), some (.int a1), some (.int q25.1)]) dX4_takeLiteral_61 rfl (Nat.le_of_ble_eq_true rfl) rfl ?_
        refine g_iload_n dX4_takeLiteral_62 rfl rfl ?_
        refine g_iconst (v := (-1 : Int32)) dX4_takeLiteral_63 (by decide) ?_
        refine g_ic_eq (t := 71) dX4_takeLiteral_64 (by decide) (fun c27 => ?_) (fun c27 => ?_)
        · replace h := z_ift c27 h
          refine g_aload_n dX4_takeLiteral_71 rfl rfl ?_
          refine g_get (a := 53) (v := .ref 7) dX4_takeLiteral_72 f_4_20 sh_53 rfl rfl ?_
          refine g_iload_n dX4_takeLiteral_75 rfl rfl ?_
          refine g_iconst (v := (-1 : Int32)) dX4_takeLiteral_76 (by decide) ?_
          refine g_ic_ne (t := 84) dX4_takeLiteral_77 (by decide) (fun c28 => ?_) (fun c28 => ?_)
          · replace h := z_iff c28 h
            refine g_iconst (v := (5 : Int32)) dX4_takeLiteral_84 (by decide) ?_
            obtain ⟨q29, e30, h⟩ := z_bd h
            refine g_callV (a := 5) (as := [.int (5 : Int32)]) (rest := []) (c := mX7_fail) (k1 := 0) dX4_takeLiteral_85 rfl rfl rfl sh_5 rfl rfl (Nat.le_of_ble_eq_true rfl) (Nat.le_of_ble_eq_true rfl) (by decide) ?_
            refine A_X7_fail e30 ?_
            show z_G none 3 mX4_takeLiteral 88 [some (.ref 55), some (.int a1), some (.int q25.1)] [.int (z_tb q29.1)] q29.2 Q
            refine g_pop dX4_takeLiteral_88 rfl ?_
            refine g_iconst (v := (-1 : Int32)) dX4_takeLiteral_89 (by decide) ?_
            cases h
            exact g_iret dX4_takeLiteral_90 rfl rfl hq
          · replace h := z_ift c28 h
            refine g_iconst (v := (3 : Int32)) dX4_takeLiteral_80 (by decide) ?_
            refine g_goto (t := 85) dX4_takeLiteral_81 (by decide) ?_
            obtain ⟨q31, e32, h⟩ := z_bd h
            refine g_callV (a := 5) (as := [.int (3 : Int32)]) (rest := []) (c := mX7_fail) (k1 := 0) dX4_takeLiteral_85 rfl rfl rfl sh_5 rfl rfl (Nat.le_of_ble_eq_true rfl) (Nat.le_of_ble_eq_true rfl) (by decide) ?_
            refine A_X7_fail e32 ?_
            show z_G none 3 mX4_takeLiteral 88 [some (.ref 55), some (.int a1), some (.int q25.1)] [.int (z_tb q31.1)] q31.2 Q
            refine g_pop dX4_takeLiteral_88 rfl ?_
            refine g_iconst (v := (-1 : Int32)) dX4_takeLiteral_89 (by decide) ?_
            cases h
            exact g_iret dX4_takeLiteral_90 rfl rfl hq
        · replace h := z_iff c27 h
          refine g_iload_n dX4_takeLiteral_67 rfl rfl ?_
          refine g_if_eq (t := 91) dX4_takeLiteral_68 (by decide) (fun c33 => ?_) (fun c33 => ?_)
          · replace h := z_ift c33 h
            refine g_aload_n dX4_takeLiteral_91 rfl rfl ?_
            refine g_get (a := 53) (v := .ref 7) dX4_takeLiteral_92 f_4_20 sh_53 rfl rfl ?_
            obtain ⟨q34, e35, h⟩ := z_bd h
            refine g_callV (a := 5) (as := []) (rest := []) (c := mX7_advance) (k1 := 2) dX4_takeLiteral_95 rfl rfl rfl sh_5 rfl rfl (Nat.le_of_ble_eq_true rfl) (Nat.le_of_ble_eq_true rfl) (by decide) ?_
            refine A_X7_advance e35 ?_
            show z_G none 3 mX4_takeLiteral 98 [some (.ref 55), some (.int a1), some (.int q25.1)] [] q34.2 Q
            refine g_iload_n dX4_takeLiteral_98 rfl rfl ?_
            cases h
            exact g_iret dX4_takeLiteral_99 rfl rfl hq
          · replace h := z_iff c33 h
            refine g_aload_n dX4_takeLiteral_71 rfl rfl ?_
            refine g_get (a := 53) (v := .ref 7) dX4_takeLiteral_72 f_4_20 sh_53 rfl rfl ?_
            refine g_iload_n dX4_takeLiteral_75 rfl rfl ?_
            refine g_iconst (v := (-1 : Int32)) dX4_takeLiteral_76 (by decide) ?_
            refine g_ic_ne (t := 84) dX4_takeLiteral_77 (by decide) (fun c36 => ?_) (fun c36 => ?_)
            · replace h := z_iff c36 h
              refine g_iconst (v := (5 : Int32)) dX4_takeLiteral_84 (by decide) ?_
              obtain ⟨q37, e38, h⟩ := z_bd h
              refine g_callV (a := 5) (as := [.int (5 : Int32)]) (rest := []) (c := mX7_fail) (k1 := 0) dX4_takeLiteral_85 rfl rfl rfl sh_5 rfl rfl (Nat.le_of_ble_eq_true rfl) (Nat.le_of_ble_eq_true rfl) (by decide) ?_
              refine A_X7_fail e38 ?_
              show z_G none 3 mX4_takeLiteral 88 [some (.ref 55), some (.int a1), some (.int q25.1)] [.int (z_tb q37.1)] q37.2 Q
              refine g_pop dX4_takeLiteral_88 rfl ?_
              refine g_iconst (v := (-1 : Int32)) dX4_takeLiteral_89 (by decide) ?_
              cases h
              exact g_iret dX4_takeLiteral_90 rfl rfl hq
            · replace h := z_ift c36 h
              refine g_iconst (v := (3 : Int32)) dX4_takeLiteral_80 (by decide) ?_
              refine g_goto (t := 85) dX4_takeLiteral_81 (by decide) ?_
              obtain ⟨q39, e40, h⟩ := z_bd h
              refine g_callV (a := 5) (as := [.int (3 : Int32)]) (rest := []) (c := mX7_fail) (k1 := 0) dX4_takeLiteral_85 rfl rfl rfl sh_5 rfl rfl (Nat.le_of_ble_eq_true rfl) (Nat.le_of_ble_eq_true rfl) (by decide) ?_
              refine A_X7_fail e40 ?_
              show z_G none 3 mX4_takeLiteral 88 [some (.ref 55), some (.int a1), some (.int q25.1)] [.int (z_tb q39.1)] q39.2 Q
              refine g_pop dX4_takeLiteral_88 rfl ?_
              refine g_iconst (v := (-1 : Int32)) dX4_takeLiteral_89 (by decide) ?_
              cases h
              exact g_iret dX4_takeLiteral_90 rfl rfl hq
      · replace h := z_iff c24 h
        refine g_aload_n dX4_takeLiteral_46 rfl rfl ?_
        refine g_get (a := 53) (v := .ref 7) dX4_takeLiteral_47 f_4_20 sh_53 rfl rfl ?_
        refine g_iconst (v := (2 : Int32)) dX4_takeLiteral_50 (by decide) ?_
        obtain ⟨q41, e42, h⟩ := z_bd h
        refine g_callV (a := 5) (as := [.int (2 : Int32)]) (rest := []) (c := mX7_fail) (k1 := 0) dX4_takeLiteral_51 rfl rfl rfl sh_5 rfl rfl (Nat.le_of_ble_eq_true rfl) (Nat.le_of_ble_eq_true rfl) (by decide) ?_
        refine A_X7_fail e42 ?_
        show z_G none 3 mX4_takeLiteral 54 [some (.ref 55), some (.int a1), none] [.int (z_tb q41.1)] q41.2 Q
        refine g_pop dX4_takeLiteral_54 rfl ?_
        refine g_iconst (v := (-1 : Int32)) dX4_takeLiteral_55 (by decide) ?_
        cases h
        exact g_iret dX4_takeLiteral_56 rfl rfl hq
    · replace h := z_iff c21 h
      refine g_aload_n dX4_takeLiteral_16 rfl rfl ?_
      refine g_get (a := 53) (v := .ref 7) dX4_takeLiteral_17 f_4_20 sh_53 rfl rfl ?_
      refine g_iconst (v := (5 : Int32)) dX4_takeLiteral_20 (by decide) ?_
      obtain ⟨q43, e44, h⟩ := z_bd h
      refine g_callV (a := 5) (as := [.int (5 : Int32)]) (rest := []) (c := mX7_fail) (k1 := 0) dX4_takeLiteral_21 rfl rfl rfl sh_5 rfl rfl (Nat.le_of_ble_eq_true rfl) (Nat.le_of_ble_eq_true rfl) (by decide) ?_
      refine A_X7_fail e44 ?_
      show z_G none 3 mX4_takeLiteral 24 [some (.ref 55), some (.int a1), none] [.int (z_tb q43.1)] q43.2 Q
      refine g_pop dX4_takeLiteral_24 rfl ?_
      refine g_iconst (v := (-1 : Int32)) dX4_takeLiteral_25 (by decide) ?_
      cases h
      exact g_iret dX4_takeLiteral_26 rfl rfl hq
theorem dX4_readClause_0 : decode cX4_readClause 0 = .ok (.aload_n 0, 1) := by decide +kernel
theorem dX4_readClause_1 : decode cX4_readClause 1 = .ok (.aload_n 0, 1) := by decide +kernel
theorem dX4_readClause_2 : decode cX4_readClause 2 = .ok (.getfield 24, 3) := by decide +kernel
theorem dX4_readClause_5 : decode cX4_readClause 5 = .ok (.getfield 141, 3) := by decide +kernel
theorem dX4_readClause_8 : decode cX4_readClause 8 = .ok (.getfield 164, 3) := by decide +kernel
theorem dX4_readClause_11 : decode cX4_readClause 11 = .ok (.bipush 8, 2) := by decide +kernel
theorem dX4_readClause_13 : decode cX4_readClause 13 = .ok (.invokevirtual 114, 3) := by decide +kernel
theorem dX4_readClause_16 : decode cX4_readClause 16 = .ok (.ifCond .ne 5, 3) := by decide +kernel
theorem dX4_readClause_19 : decode cX4_readClause 19 = .ok (.iconst 0, 1) := by decide +kernel
theorem dX4_readClause_20 : decode cX4_readClause 20 = .ok (.ireturn, 1) := by decide +kernel
theorem dX4_readClause_21 : decode cX4_readClause 21 = .ok (.aload_n 0, 1) := by decide +kernel
theorem dX4_readClause_22 : decode cX4_readClause 22 = .ok (.getfield 20, 3) := by decide +kernel
theorem dX4_readClause_25 : decode cX4_readClause 25 = .ok (.invokevirtual 81, 3) := by decide +kernel
theorem dX4_readClause_28 : decode cX4_readClause 28 = .ok (.iconst 0, 1) := by decide +kernel
theorem dX4_readClause_29 : decode cX4_readClause 29 = .ok (.istore_n 1, 1) := by decide +kernel
theorem dX4_readClause_30 : decode cX4_readClause 30 = .ok (.iconst 0, 1) := by decide +kernel
theorem dX4_readClause_31 : decode cX4_readClause 31 = .ok (.istore_n 2, 1) := by decide +kernel
theorem dX4_readClause_32 : decode cX4_readClause 32 = .ok (.iconst 0, 1) := by decide +kernel
theorem dX4_readClause_33 : decode cX4_readClause 33 = .ok (.istore_n 3, 1) := by decide +kernel
theorem dX4_readClause_34 : decode cX4_readClause 34 = .ok (.iload_n 3, 1) := by decide +kernel
theorem dX4_readClause_35 : decode cX4_readClause 35 = .ok (.iconst 3, 1) := by decide +kernel
theorem dX4_readClause_36 : decode cX4_readClause 36 = .ok (.if_icmp .gt 93, 3) := by decide +kernel
theorem dX4_readClause_39 : decode cX4_readClause 39 = .ok (.iload_n 3, 1) := by decide +kernel
theorem dX4_readClause_40 : decode cX4_readClause 40 = .ok (.ifCond .le 18, 3) := by decide +kernel
theorem dX4_readClause_43 : decode cX4_readClause 43 = .ok (.aload_n 0, 1) := by decide +kernel
theorem dX4_readClause_44 : decode cX4_readClause 44 = .ok (.getfield 20, 3) := by decide +kernel
theorem dX4_readClause_47 : decode cX4_readClause 47 = .ok (.getfield 43, 3) := by decide +kernel
theorem dX4_readClause_50 : decode cX4_readClause 50 = .ok (.bipush 33, 2) := by decide +kernel
theorem dX4_readClause_52 : decode cX4_readClause 52 = .ok (.if_icmp .ne 6, 3) := by decide +kernel
theorem dX4_readClause_55 : decode cX4_readClause 55 = .ok (.goto 74, 3) := by decide +kernel
theorem dX4_readClause_58 : decode cX4_readClause 58 = .ok (.aload_n 0, 1) := by decide +kernel
theorem dX4_readClause_59 : decode cX4_readClause 59 = .ok (.getfield 20, 3) := by decide +kernel
theorem dX4_readClause_62 : decode cX4_readClause 62 = .ok (.getfield 43, 3) := by decide +kernel
theorem dX4_readClause_65 : decode cX4_readClause 65 = .ok (.bipush 13, 2) := by decide +kernel
theorem dX4_readClause_67 : decode cX4_readClause 67 = .ok (.if_icmp .ne 7, 3) := by decide +kernel
theorem dX4_readClause_70 : decode cX4_readClause 70 = .ok (.iconst 1, 1) := by decide +kernel
theorem dX4_readClause_71 : decode cX4_readClause 71 = .ok (.goto 4, 3) := by decide +kernel
theorem dX4_readClause_74 : decode cX4_readClause 74 = .ok (.iconst 0, 1) := by decide +kernel
theorem dX4_readClause_75 : decode cX4_readClause 75 = .ok (.istore 4, 2) := by decide +kernel
theorem dX4_readClause_77 : decode cX4_readClause 77 = .ok (.aload_n 0, 1) := by decide +kernel
theorem dX4_readClause_78 : decode cX4_readClause 78 = .ok (.iload_n 3, 1) := by decide +kernel
theorem dX4_readClause_79 : decode cX4_readClause 79 = .ok (.iconst 3, 1) := by decide +kernel
theorem dX4_readClause_80 : decode cX4_readClause 80 = .ok (.if_icmp .ne 7, 3) := by decide +kernel
theorem dX4_readClause_83 : decode cX4_readClause 83 = .ok (.iconst 1, 1) := by decide +kernel
theorem dX4_readClause_84 : decode cX4_readClause 84 = .ok (.goto 4, 3) := by decide +kernel
theorem dX4_readClause_87 : decode cX4_readClause 87 = .ok (.iconst 0, 1) := by decide +kernel
theorem dX4_readClause_88 : decode cX4_readClause 88 = .ok (.invokevirtual 167, 3) := by decide +kernel
theorem dX4_readClause_91 : decode cX4_readClause 91 = .ok (.istore 5, 2) := by decide +kernel
theorem dX4_readClause_93 : decode cX4_readClause 93 = .ok (.iload 5, 2) := by decide +kernel
theorem dX4_readClause_95 : decode cX4_readClause 95 = .ok (.iconst (-1), 1) := by decide +kernel
theorem dX4_readClause_96 : decode cX4_readClause 96 = .ok (.if_icmp .ne 5, 3) := by decide +kernel
theorem dX4_readClause_99 : decode cX4_readClause 99 = .ok (.iconst 0, 1) := by decide +kernel
theorem dX4_readClause_100 : decode cX4_readClause 100 = .ok (.ireturn, 1) := by decide +kernel
theorem dX4_readClause_101 : decode cX4_readClause 101 = .ok (.iload 4, 2) := by decide +kernel
theorem dX4_readClause_103 : decode cX4_readClause 103 = .ok (.ifCond .eq 13, 3) := by decide +kernel
theorem dX4_readClause_106 : decode cX4_readClause 106 = .ok (.iload_n 2, 1) := by decide +kernel
theorem dX4_readClause_107 : decode cX4_readClause 107 = .ok (.iconst 1, 1) := by decide +kernel
theorem dX4_readClause_108 : decode cX4_readClause 108 = .ok (.iload 5, 2) := by decide +kernel
theorem dX4_readClause_110 : decode cX4_readClause 110 = .ok (.ishl, 1) := by decide +kernel
theorem dX4_readClause_111 : decode cX4_readClause 111 = .ok (.ior, 1) := by decide +kernel
theorem dX4_readClause_112 : decode cX4_readClause 112 = .ok (.istore_n 2, 1) := by decide +kernel
theorem dX4_readClause_113 : decode cX4_readClause 113 = .ok (.goto 10, 3) := by decide +kernel
theorem dX4_readClause_116 : decode cX4_readClause 116 = .ok (.iload_n 1, 1) := by decide +kernel
theorem dX4_readClause_117 : decode cX4_readClause 117 = .ok (.iconst 1, 1) := by decide +kernel
theorem dX4_readClause_118 : decode cX4_readClause 118 = .ok (.iload 5, 2) := by decide +kernel
theorem dX4_readClause_120 : decode cX4_readClause 120 = .ok (.ishl, 1) := by decide +kernel
theorem dX4_readClause_121 : decode cX4_readClause 121 = .ok (.ior, 1) := by decide +kernel
theorem dX4_readClause_122 : decode cX4_readClause 122 = .ok (.istore_n 1, 1) := by decide +kernel
theorem dX4_readClause_123 : decode cX4_readClause 123 = .ok (.iinc 3 1, 3) := by decide +kernel
theorem dX4_readClause_126 : decode cX4_readClause 126 = .ok (.goto (-92), 3) := by decide +kernel
theorem dX4_readClause_129 : decode cX4_readClause 129 = .ok (.aload_n 0, 1) := by decide +kernel
theorem dX4_readClause_130 : decode cX4_readClause 130 = .ok (.getfield 24, 3) := by decide +kernel
theorem dX4_readClause_133 : decode cX4_readClause 133 = .ok (.getfield 141, 3) := by decide +kernel
theorem dX4_readClause_136 : decode cX4_readClause 136 = .ok (.iload_n 1, 1) := by decide +kernel
theorem dX4_readClause_137 : decode cX4_readClause 137 = .ok (.iload_n 2, 1) := by decide +kernel
theorem dX4_readClause_138 : decode cX4_readClause 138 = .ok (.invokevirtual 171, 3) := by decide +kernel
theorem dX4_readClause_141 : decode cX4_readClause 141 = .ok (.ireturn, 1) := by decide +kernel
def L_X4_readClause (w : Nat) : Nat → z_Mem → Int32 → Int32 → Int32 → Option (Bool × z_Mem)
  | 0, _, _, _, _ => none
  | c + 1, M, x1, x2, x3 =>
    if (3 : Int32) < x3 then
    (F_X0_addClause w M 30 x1 x2).bind fun q2 =>
    some (q2.1, q2.2)
    else
    if x3 ≤ (0 : Int32) then
    if (M.1 5 3) = (13 : Int32) then
    if x3 = (3 : Int32) then
    (F_X4_takeLiteral w M (1 : Int32)).bind fun q20 =>
    if q20.1 = (-1 : Int32) then
    some (false, q20.2)
    else
    L_X4_readClause w c q20.2 x1 (x2 ||| ((1 : Int32) <<< (q20.1 &&& 31))) (x3 + (1 : Int32))
    else
    (F_X4_takeLiteral w M (0 : Int32)).bind fun q16 =>
    if q16.1 = (-1 : Int32) then
    some (false, q16.2)
    else
    L_X4_readClause w c q16.2 x1 (x2 ||| ((1 : Int32) <<< (q16.1 &&& 31))) (x3 + (1 : Int32))
    else
    if x3 = (3 : Int32) then
    (F_X4_takeLiteral w M (1 : Int32)).bind fun q11 =>
    if q11.1 = (-1 : Int32) then
    some (false, q11.2)
    else
    L_X4_readClause w c q11.2 (x1 ||| ((1 : Int32) <<< (q11.1 &&& 31))) x2 (x3 + (1 : Int32))
    else
    (F_X4_takeLiteral w M (0 : Int32)).bind fun q7 =>
    if q7.1 = (-1 : Int32) then
    some (false, q7.2)
    else
    L_X4_readClause w c q7.2 (x1 ||| ((1 : Int32) <<< (q7.1 &&& 31))) x2 (x3 + (1 : Int32))
    else
    if (M.1 5 3) = (33 : Int32) then
    (F_X0_addClause w M 30 x1 x2).bind fun q44 =>
    some (q44.1, q44.2)
    else
    if (M.1 5 3) = (13 : Int32) then
    if x3 = (3 : Int32) then
    (F_X4_takeLiteral w M (1 : Int32)).bind fun q40 =>
    if q40.1 = (-1 : Int32) then
    some (false, q40.2)
    else
    L_X4_readClause w c q40.2 x1 (x2 ||| ((1 : Int32) <<< (q40.1 &&& 31))) (x3 + (1 : Int32))
    else
    (F_X4_takeLiteral w M (0 : Int32)).bind fun q36 =>
    if q36.1 = (-1 : Int32) then
    some (false, q36.2)
    else
    L_X4_readClause w c q36.2 x1 (x2 ||| ((1 : Int32) <<< (q36.1 &&& 31))) (x3 + (1 : Int32))
    else
    if x3 = (3 : Int32) then
    (F_X4_takeLiteral w M (1 : Int32)).bind fun q31 =>
    if q31.1 = (-1 : Int32) then
    some (false, q31.2)
    else
    L_X4_readClause w c q31.2 (x1 ||| ((1 : Int32) <<< (q31.1 &&& 31))) x2 (x3 + (1 : Int32))
    else
    (F_X4_takeLiteral w M (0 : Int32)).bind fun q27 =>
    if q27.1 = (-1 : Int32) then
    some (false, q27.2)
    else
    L_X4_readClause w c q27.2 (x1 ||| ((1 : Int32) <<< (q27.1 &&& 31))) x2 (x3 + (1 : Int32))
set_option maxHeartbeats 4000000 in
theorem AL_X4_readClause {w : Nat} : ∀ (c : Nat), (∀ (M : z_Mem) (x1 : Int32) (x2 : Int32) (x3 : Int32) (r : Bool) (M' : z_Mem) (Q : Option Value → z_Mem → Prop), L_X4_readClause w c M x1 x2 x3 = some (r, M') → Q (some (.int (z_tb r))) M' → z_G none 4 mX4_readClause 34 [some (.ref 55), some (.int x1), some (.int x2), some (.int x3), none, none] [] M Q) := by
  intro c
  induction c with
  | zero => exact (fun M x1 x2 x3 r M' Q h hq => by rw [L_X4_readClause] at h; cases h)
  | succ c ih =>
    intro M x1 x2 x3 r M' Q h hq
    rw [L_X4_readClause] at h
    refine g_iload_n dX4_readClause_34 rfl rfl ?_
    refine g_iconst (v := (3 : Int32)) dX4_readClause_35 (by decide) ?_
    refine g_ic_gt (t := 129) dX4_readClause_36 (by decide) (fun c1 => ?_) (fun c1 => ?_)
    · replace h := z_ift c1 h
      refine g_aload_n dX4_readClause_129 rfl rfl ?_
      refine g_get (a := 53) (v := .ref 32) dX4_readClause_130 f_4_24 sh_53 rfl rfl ?_
      refine g_get (a := 30) (v := .ref 44) dX4_readClause_133 f_4_141 sh_30 rfl rfl ?_
      refine g_iload_n dX4_readClause_136 rfl rfl ?_
      refine g_iload_n dX4_readClause_137 rfl rfl ?_
      obtain ⟨q2, e3, h⟩ := z_bd h
      refine g_callV (a := 42) (as := [.int x1, .int x2]) (rest := []) (c := mX0_addClause) (k1 := 0) dX4_readClause_138 rfl rfl rfl sh_42 rfl rfl (Nat.le_of_ble_eq_true rfl) (Nat.le_of_ble_eq_true rfl) (by decide) ?_
      refine A_X0_addClause z_par_30 e3 ?_
      show z_G none 4 mX4_readClause 141 [some (.ref 55), some (.int x1), some (.int x2), some (.int x3), none, none] [.int (z_tb q2.1)] q2.2 Q
      cases h
      exact g_iret dX4_readClause_141 rfl nb_tb hq
    · replace h := z_iff c1 h
      refine g_iload_n dX4_readClause_39 rfl rfl ?_
      refine g_if_le (t := 58) dX4_readClause_40 (by decide) (fun c4 => ?_) (fun c4 => ?_)
      · replace h := z_ift c4 h
        refine g_aload_n dX4_readClause_58 rfl rfl ?_
        refine g_get (a := 53) (v := .ref 7) dX4_readClause_59 f_4_20 sh_53 rfl rfl ?_
        refine g_get (a := 5) (v := .int (M.1 5 3)) dX4_readClause_62 f_4_43 sh_5 rfl rfl ?_
        refine g_bipush (v := (13 : Int32)) dX4_readClause_65 (by decide) ?_
        refine g_ic_ne (t := 74) dX4_readClause_67 (by decide) (fun c5 => ?_) (fun c5 => ?_)
        · replace h := z_iff c5 h
          refine g_iconst (v := (0 : Int32)) dX4_readClause_74 (by decide) ?_
          refine g_istore (ls' := [some (.ref 55), some (.int x1), some (.int x2), some (.int x3), some (.int (0 : Int32)), none]) dX4_readClause_75 (Nat.le_of_ble_eq_true rfl) rfl ?_
          refine g_aload_n dX4_readClause_77 rfl rfl ?_
          refine g_iload_n dX4_readClause_78 rfl rfl ?_
          refine g_iconst (v := (3 : Int32)) dX4_readClause_79 (by decide) ?_
          refine g_ic_ne (t := 87) dX4_readClause_80 (by decide) (fun c6 => ?_) (fun c6 => ?_)
          · replace h := z_iff c6 h
            refine g_iconst (v := (0 : Int32)) dX4_readClause_87 (by decide) ?_
            obtain ⟨q7, e8, h⟩ := z_bd h
            refine g_callV (a := 53) (as := [.int (0 : Int32)]) (rest := []) (c := mX4_takeLiteral) (k1 := 3) dX4_readClause_88 rfl rfl rfl sh_53 rfl rfl (Nat.le_of_ble_eq_true rfl) (Nat.le_of_ble_eq_true rfl) (by decide) ?_
            refine A_X4_takeLiteral e8 ?_
            show z_G none 4 mX4_readClause 91 [some (.ref 55), some (.int x1), some (.int x2), some (.int x3), some (.int (0 : Int32)), none] [.int q7.1] q7.2 Q
            refine g_istore (ls' := [some (.ref 55), some (.int x1), some (.int x2), some (.int x3), some (.int (0 : Int32)), some (.int q7.1)]) dX4_readClause_91 (Nat.le_of_ble_eq_true rfl) rfl ?_
            refine g_iload dX4_readClause_93 rfl ?_
            refine g_iconst (v := (-1 : Int32)) dX4_readClause_95 (by decide) ?_
            refine g_ic_ne (t := 101) dX4_readClause_96 (by decide) (fun c9 => ?_) (fun c9 => ?_)
            · replace h := z_iff c9 h
              refine g_iload dX4_readClause_101 rfl ?_
              refine g_if_eq (t := 116) dX4_readClause_103 (by decide) (fun c10 => ?_) (fun c10 => ?_)
              · skip
                refine g_iload_n dX4_readClause_116 rfl rfl ?_
                refine g_iconst (v := (1 : Int32)) dX4_readClause_117 (by decide) ?_
                refine g_iload dX4_readClause_118 rfl ?_
                refine g_ishl dX4_readClause_120 ?_
                refine g_ior dX4_readClause_121 ?_
                refine g_istore_n (ls' := [some (.ref 55), some (.int (x1 ||| ((1 : Int32) <<< (q7.1 &&& 31)))), some (.int x2), some (.int x3), some (.int (0 : Int32)), some (.int q7.1)]) dX4_readClause_122 rfl (Nat.le_of_ble_eq_true rfl) rfl ?_
                refine g_iinc (v := x3 + (1 : Int32)) (ls' := [some (.ref 55), some (.int (x1 ||| ((1 : Int32) <<< (q7.1 &&& 31)))), some (.int x2), some (.int (x3 + (1 : Int32))), some (.int (0 : Int32)), some (.int q7.1)]) dX4_readClause_123 rfl rfl rfl ?_
                refine g_goto (t := 34) dX4_readClause_126 (by decide) ?_
                exact g_sub (z_sub_s (z_sub_s (z_sub_s (z_sub_s (z_sub_n (z_sub_n z_sub_nil)))))) (ih _ _ _ _ _ _ _ h hq)
              · exact absurd c10 (by decide)
            · replace h := z_ift c9 h
              refine g_iconst (v := (0 : Int32)) dX4_readClause_99 (by decide) ?_
              cases h
              exact g_iret dX4_readClause_100 rfl rfl hq
          · replace h := z_ift c6 h
            refine g_iconst (v := (1 : Int32)) dX4_readClause_83 (by decide) ?_
            refine g_goto (t := 88) dX4_readClause_84 (by decide) ?_
            obtain ⟨q11, e12, h⟩ := z_bd h
            refine g_callV (a := 53) (as := [.int (1 : Int32)]) (rest := []) (c := mX4_takeLiteral) (k1 := 3) dX4_readClause_88 rfl rfl rfl sh_53 rfl rfl (Nat.le_of_ble_eq_true rfl) (Nat.le_of_ble_eq_true rfl) (by decide) ?_
            refine A_X4_takeLiteral e12 ?_
            show z_G none 4 mX4_readClause 91 [some (.ref 55), some (.int x1), some (.int x2), some (.int x3), some (.int (0 : Int32)), none] [.int q11.1] q11.2 Q
            refine g_istore (ls' := [some (.ref 55), some (.int x1), some (.int x2), some (.int x3), some (.int (0 : Int32)), some (.int q11.1)]) dX4_readClause_91 (Nat.le_of_ble_eq_true rfl) rfl ?_
            refine g_iload dX4_readClause_93 rfl ?_
            refine g_iconst (v := (-1 : Int32)) dX4_readClause_95 (by decide) ?_
            refine g_ic_ne (t := 101) dX4_readClause_96 (by decide) (fun c13 => ?_) (fun c13 => ?_)
            · replace h := z_iff c13 h
              refine g_iload dX4_readClause_101 rfl ?_
              refine g_if_eq (t := 116) dX4_readClause_103 (by decide) (fun c14 => ?_) (fun c14 => ?_)
              · skip
                refine g_iload_n dX4_readClause_116 rfl rfl ?_
                refine g_iconst (v := (1 : Int32)) dX4_readClause_117 (by decide) ?_
                refine g_iload dX4_readClause_118 rfl ?_
                refine g_ishl dX4_readClause_120 ?_
                refine g_ior dX4_readClause_121 ?_
                refine g_istore_n (ls' := [some (.ref 55), some (.int (x1 ||| ((1 : Int32) <<< (q11.1 &&& 31)))), some (.int x2), some (.int x3), some (.int (0 : Int32)), some (.int q11.1)]) dX4_readClause_122 rfl (Nat.le_of_ble_eq_true rfl) rfl ?_
                refine g_iinc (v := x3 + (1 : Int32)) (ls' := [some (.ref 55), some (.int (x1 ||| ((1 : Int32) <<< (q11.1 &&& 31)))), some (.int x2), some (.int (x3 + (1 : Int32))), some (.int (0 : Int32)), some (.int q11.1)]) dX4_readClause_123 rfl rfl rfl ?_
                refine g_goto (t := 34) dX4_readClause_126 (by decide) ?_
                exact g_sub (z_sub_s (z_sub_s (z_sub_s (z_sub_s (z_sub_n (z_sub_n z_sub_nil)))))) (ih _ _ _ _ _ _ _ h hq)
              · exact absurd c14 (by decide)
            · replace h := z_ift c13 h
              refine g_iconst (v := (0 : Int32)) dX4_readClause_99 (by decide) ?_
              cases h
              exact g_iret dX4_readClause_100 rfl rfl hq
        · replace h := z_ift c5 h
          refine g_iconst (v := (1 : Int32)) dX4_readClause_70 (by decide) ?_
          refine g_goto (t := 75) dX4_readClause_71 (by decide) ?_
          refine g_istore (ls' := [some (.ref 55), some (.int x1), some (.int x2), some (.int x3), some (.int (1 : Int32)), none]) dX4_readClause_75 (Nat.le_of_ble_eq_true rfl) rfl ?_
          refine g_aload_n dX4_readClause_77 rfl rfl ?_
          refine g_iload_n dX4_readClause_78 rfl rfl ?_
          refine g_iconst (v := (3 : Int32)) dX4_readClause_79 (by decide) ?_
          refine g_ic_ne (t := 87) dX4_readClause_80 (by decide) (fun c15 => ?_) (fun c15 => ?_)
          · replace h := z_iff c15 h
            refine g_iconst (v := (0 : Int32)) dX4_readClause_87 (by decide) ?_
            obtain ⟨q16, e17, h⟩ := z_bd h
            refine g_callV (a := 53) (as := [.int (0 : Int32)]) (rest := []) (c := mX4_takeLiteral) (k1 := 3) dX4_readClause_88 rfl rfl rfl sh_53 rfl rfl (Nat.le_of_ble_eq_true rfl) (Nat.le_of_ble_eq_true rfl) (by decide) ?_
            refine A_X4_takeLiteral e17 ?_
            show z_G none 4 mX4_readClause 91 [some (.ref 55), some (.int x1), some (.int x2), some (.int x3), some (.int (1 : Int32)), none] [.int q16.1] q16.2 Q
            refine g_istore (ls' := [some (.ref 55), some (.int x1), some (.int x2), some (.int x3), some (.int (1 : Int32)), some (.int q16.1)]) dX4_readClause_91 (Nat.le_of_ble_eq_true rfl) rfl ?_
            refine g_iload dX4_readClause_93 rfl ?_
            refine g_iconst (v := (-1 : Int32)) dX4_readClause_95 (by decide) ?_
            refine g_ic_ne (t := 101) dX4_readClause_96 (by decide) (fun c18 => ?_) (fun c18 => ?_)
            · replace h := z_iff c18 h
              refine g_iload dX4_readClause_101 rfl ?_
              refine g_if_eq (t := 116) dX4_readClause_103 (by decide) (fun c19 => ?_) (fun c19 => ?_)
              · exact absurd c19 (by decide)
              · skip
                refine g_iload_n dX4_readClause_106 rfl rfl ?_
                refine g_iconst (v := (1 : Int32)) dX4_readClause_107 (by decide) ?_
                refine g_iload dX4_readClause_108 rfl ?_
                refine g_ishl dX4_readClause_110 ?_
                refine g_ior dX4_readClause_111 ?_
                refine g_istore_n (ls' := [some (.ref 55), some (.int x1), some (.int (x2 ||| ((1 : Int32) <<< (q16.1 &&& 31)))), some (.int x3), some (.int (1 : Int32)), some (.int q16.1)]) dX4_readClause_112 rfl (Nat.le_of_ble_eq_true rfl) rfl ?_
                refine g_goto (t := 123) dX4_readClause_113 (by decide) ?_
                refine g_iinc (v := x3 + (1 : Int32)) (ls' := [some (.ref 55), some (.int x1), some (.int (x2 ||| ((1 : Int32) <<< (q16.1 &&& 31)))), some (.int (x3 + (1 : Int32))), some (.int (1 : Int32)), some (.int q16.1)]) dX4_readClause_123 rfl rfl rfl ?_
                refine g_goto (t := 34) dX4_readClause_126 (by decide) ?_
                exact g_sub (z_sub_s (z_sub_s (z_sub_s (z_sub_s (z_sub_n (z_sub_n z_sub_nil)))))) (ih _ _ _ _ _ _ _ h hq)
            · replace h := z_ift c18 h
              refine g_iconst (v := (0 : Int32)) dX4_readClause_99 (by decide) ?_
              cases h
              exact g_iret dX4_readClause_100 rfl rfl hq
          · replace h := z_ift c15 h
            refine g_iconst (v := (1 : Int32)) dX4_readClause_83 (by decide) ?_
            refine g_goto (t := 88) dX4_readClause_84 (by decide) ?_
            obtain ⟨q20, e21, h⟩ := z_bd h
            refine g_callV (a := 53) (as := [.int (1 : Int32)]) (rest := []) (c := mX4_takeLiteral) (k1 := 3) dX4_readClause_88 rfl rfl rfl sh_53 rfl rfl (Nat.le_of_ble_eq_true rfl) (Nat.le_of_ble_eq_true rfl) (by decide) ?_
            refine A_X4_takeLiteral e21 ?_
            show z_G none 4 mX4_readClause 91 [some (.ref 55), some (.int x1), some (.int x2), some (.int x3), some (.int (1 : Int32)), none] [.int q20.1] q20.2 Q
            refine g_istore (ls' := [some (.ref 55), some (.int x1), some (.int x2), some (.int x3), some (.int (1 : Int32)), some (.int q20.1)]) dX4_readClause_91 (Nat.le_of_ble_eq_true rfl) rfl ?_
            refine g_iload dX4_readClause_93 rfl ?_
            refine g_iconst (v := (-1 : Int32)) dX4_readClause_95 (by decide) ?_
            refine g_ic_ne (t := 101) dX4_readClause_96 (by decide) (fun c22 => ?_) (fun c22 => ?_)
            · replace h := z_iff c22 h
              refine g_iload dX4_readClause_101 rfl ?_
              refine g_if_eq (t := 116) dX4_readClause_103 (by decide) (fun c23 => ?_) (fun c23 => ?_)
              · exact absurd c23 (by decide)
              · skip
                refine g_iload_n dX4_readClause_106 rfl rfl ?_
                refine g_iconst (v := (1 : Int32)) dX4_readClause_107 (by decide) ?_
                refine g_iload dX4_readClause_108 rfl ?_
                refine g_ishl dX4_readClause_110 ?_
                refine g_ior dX4_readClause_111 ?_
                refine g_istore_n (ls' := [some (.ref 55), some (.int x1), some (.int (x2 ||| ((1 : Int32) <<< (q20.1 &&& 31)))), some (.int x3), some (.int (1 : Int32)), some (.int q20.1)]) dX4_readClause_112 rfl (Nat.le_of_ble_eq_true rfl) rfl ?_
                refine g_goto (t := 123) dX4_readClause_113 (by decide) ?_
                refine g_iinc (v := x3 + (1 : Int32)) (ls' := [some (.ref 55), some (.int x1), some (.int (x2 ||| ((1 : Int32) <<< (q20.1 &&& 31)))), some (.int (x3 + (1 : Int32))), some (.int (1 : Int32)), some (.int q20.1)]) dX4_readClause_123 rfl rfl rfl ?_
                refine g_goto (t := 34) dX4_readClause_126 (by decide) ?_
                exact g_sub (z_sub_s (z_sub_s (z_sub_s (z_sub_s (z_sub_n (z_sub_n z_sub_nil)))))) (ih _ _ _ _ _ _ _ h hq)
            · replace h := z_ift c22 h
              refine g_iconst (v := (0 : Int32)) dX4_readClause_99 (by decide) ?_
              cases h
              exact g_iret dX4_readClause_100 rfl rfl hq
      · replace h := z_iff c4 h
        refine g_aload_n dX4_readClause_43 rfl rfl ?_
        refine g_get (a := 53) (v := .ref 7) dX4_readClause_44 f_4_20 sh_53 rfl rfl ?_
        refine g_get (a := 5) (v := .int (M.1 5 3)) dX4_readClause_47 f_4_43 sh_5 rfl rfl ?_
        refine g_bipush (v := (33 : Int32)) dX4_readClause_50 (by decide) ?_
        refine g_ic_ne (t := 58) dX4_readClause_52 (by decide) (fun c24 => ?_) (fun c24 => ?_)
        · replace h := z_iff c24 h
          refine g_aload_n dX4_readClause_58 rfl rfl ?_
          refine g_get (a := 53) (v := .ref 7) dX4_readClause_59 f_4_20 sh_53 rfl rfl ?_
          refine g_get (a := 5) (v := .int (M.1 5 3)) dX4_readClause_62 f_4_43 sh_5 rfl rfl ?_
          refine g_bipush (v := (13 : Int32)) dX4_readClause_65 (by decide) ?_
          refine g_ic_ne (t := 74) dX4_readClause_67 (by decide) (fun c25 => ?_) (fun c25 => ?_)
          · replace h := z_iff c25 h
            refine g_iconst (v := (0 : Int32)) dX4_readClause_74 (by decide) ?_
            refine g_istore (ls' := [some (.ref 55), some (.int x1), some (.int x2), some (.int x3), some (.int (0 : Int32)), none]) dX4_readClause_75 (Nat.le_of_ble_eq_true rfl) rfl ?_
            refine g_aload_n dX4_readClause_77 rfl rfl ?_
            refine g_iload_n dX4_readClause_78 rfl rfl ?_
            refine g_iconst (v := (3 : Int32)) dX4_readClause_79 (by decide) ?_
            refine g_ic_ne (t := 87) dX4_readClause_80 (by decide) (fun c26 => ?_) (fun c26 => ?_)
            · replace h := z_iff c26 h
              refine g_iconst (v := (0 : Int32)) dX4_readClause_87 (by decide) ?_
              obtain ⟨q27, e28, h⟩ := z_bd h
              refine g_callV (a := 53) (as := [.int (0 : Int32)]) (rest := []) (c := mX4_takeLiteral) (k1 := 3) dX4_readClause_88 rfl rfl rfl sh_53 rfl rfl (Nat.le_of_ble_eq_true rfl) (Nat.le_of_ble_eq_true rfl) (by decide) ?_
              refine A_X4_takeLiteral e28 ?_
              show z_G none 4 mX4_readClause 91 [some (.ref 55), some (.int x1), some (.int x2), some (.int x3), some (.int (0 : Int32)), none] [.int q27.1] q27.2 Q
              refine g_istore (ls' := [some (.ref 55), some (.int x1), some (.int x2), some (.int x3), some (.int (0 : Int32)), some (.int q27.1)]) dX4_readClause_91 (Nat.le_of_ble_eq_true rfl) rfl ?_
              refine g_iload dX4_readClause_93 rfl ?_
              refine g_iconst (v := (-1 : Int32)) dX4_readClause_95 (by decide) ?_
              refine g_ic_ne (t := 101) dX4_readClause_96 (by decide) (fun c29 => ?_) (fun c29 => ?_)
              · replace h := z_iff c29 h
                refine g_iload dX4_readClause_101 rfl ?_
                refine g_if_eq (t := 116) dX4_readClause_103 (by decide) (fun c30 => ?_) (fun c30 => ?_)
                · skip
                  refine g_iload_n dX4_readClause_116 rfl rfl ?_
                  refine g_iconst (v := (1 : Int32)) dX4_readClause_117 (by decide) ?_
                  refine g_iload dX4_readClause_118 rfl ?_
                  refine g_ishl dX4_readClause_120 ?_
                  refine g_ior dX4_readClause_121 ?_
                  refine g_istore_n (ls' := [some (.ref 55), some (.int (x1 ||| ((1 : Int32) <<< (q27.1 &&& 31)))), some (.int x2), some (.int x3), some (.int (0 : Int32)), some (.int q27.1)]) dX4_readClause_122 rfl (Nat.le_of_ble_eq_true rfl) rfl ?_
                  refine g_iinc (v := x3 + (1 : Int32)) (ls' := [some (.ref 55), some (.int (x1 ||| ((1 : Int32) <<< (q27.1 &&& 31)))), some (.int x2), some (.int (x3 + (1 : Int32))), some (.int (0 : Int32)), some (.int q27.1)]) dX4_readClause_123 rfl rfl rfl ?_
                  refine g_goto (t := 34) dX4_readClause_126 (by decide) ?_
                  exact g_sub (z_sub_s (z_sub_s (z_sub_s (z_sub_s (z_sub_n (z_sub_n z_sub_nil)))))) (ih _ _ _ _ _ _ _ h hq)
                · exact absurd c30 (by decide)
              · replace h := z_ift c29 h
                refine g_iconst (v := (0 : Int32)) dX4_readClause_99 (by decide) ?_
                cases h
                exact g_iret dX4_readClause_100 rfl rfl hq
            · replace h := z_ift c26 h
              refine g_iconst (v := (1 : Int32)) dX4_readClause_83 (by decide) ?_
              refine g_goto (t := 88) dX4_readClause_84 (by decide) ?_
              obtain ⟨q31, e32, h⟩ := z_bd h
              refine g_callV (a := 53) (as := [.int (1 : Int32)]) (rest := []) (c := mX4_takeLiteral) (k1 := 3) dX4_readClause_88 rfl rfl rfl sh_53 rfl rfl (Nat.le_of_ble_eq_true rfl) (Nat.le_of_ble_eq_true rfl) (by decide) ?_
              refine A_X4_takeLiteral e32 ?_
              show z_G none 4 mX4_readClause 91 [some (.ref 55), some (.int x1), some (.int x2), some (.int x3), some (.int (0 : Int32)), none] [.int q31.1] q31.2 Q
              refine g_istore (ls' := [some (.ref 55), some (.int x1), some (.int x2), some (.int x3), some (.int (0 : Int32)), some (.int q31.1)]) dX4_readClause_91 (Nat.le_of_ble_eq_true rfl) rfl ?_
              refine g_iload dX4_readClause_93 rfl ?_
              refine g_iconst (v := (-1 : Int32)) dX4_readClause_95 (by decide) ?_
              refine g_ic_ne (t := 101) dX4_readClause_96 (by decide) (fun c33 => ?_) (fun c33 => ?_)
              · replace h := z_iff c33 h
                refine g_iload dX4_readClause_101 rfl ?_
                refine g_if_eq (t := 116) dX4_readClause_103 (by decide) (fun c34 => ?_) (fun c34 => ?_)
                · skip
                  refine g_iload_n dX4_readClause_116 rfl rfl ?_
                  refine g_iconst (v := (1 : Int32)) dX4_readClause_117 (by decide) ?_
                  refine g_iload dX4_readClause_118 rfl ?_
                  refine g_ishl dX4_readClause_120 ?_
                  refine g_ior dX4_readClause_121 ?_
                  refine g_istore_n (ls' := [some (.ref 55), some (.int (x1 ||| ((1 : Int32) <<< (q31.1 &&& 31)))), some (.int x2), some (.int x3), some (.int (0 : Int32)), some (.int q31.1)]) dX4_readClause_122 rfl (Nat.le_of_ble_eq_true rfl) rfl ?_
                  refine g_iinc (v := x3 + (1 : Int32)) (ls' := [some (.ref 55), some (.int (x1 ||| ((1 : Int32) <<< (q31.1 &&& 31)))), some (.int x2), some (.int (x3 + (1 : Int32))), some (.int (0 : Int32)), some (.int q31.1)]) dX4_readClause_123 rfl rfl rfl ?_
                  refine g_goto (t := 34) dX4_readClause_126 (by decide) ?_
                  exact g_sub (z_sub_s (z_sub_s (z_sub_s (z_sub_s (z_sub_n (z_sub_n z_sub_nil)))))) (ih _ _ _ _ _ _ _ h hq)
                · exact absurd c34 (by decide)
              · replace h := z_ift c33 h
                refine g_iconst (v := (0 : Int32)) dX4_readClause_99 (by decide) ?_
                cases h
                exact g_iret dX4_readClause_100 rfl rfl hq
          · replace h := z_ift c25 h
            refine g_iconst (v := (1 : Int32)) dX4_readClause_70 (by decide) ?_
            refine g_goto (t := 75) dX4_readClause_71 (by decide) ?_
            refine g_istore (ls' := [some (.ref 55), some (.int x1), some (.int x2), some (.int x3), some (.int (1 : Int32)), none]) dX4_readClause_75 (Nat.le_of_ble_eq_true rfl) rfl ?_
            refine g_aload_n dX4_readClause_77 rfl rfl ?_
            refine g_iload_n dX4_readClause_78 rfl rfl ?_
            refine g_iconst (v := (3 : Int32)) dX4_readClause_79 (by decide) ?_
            refine g_ic_ne (t := 87) dX4_readClause_80 (by decide) (fun c35 => ?_) (fun c35 => ?_)
            · replace h := z_iff c35 h
              refine g_iconst (v := (0 : Int32)) dX4_readClause_87 (by decide) ?_
              obtain ⟨q36, e37, h⟩ := z_bd h
              refine g_callV (a := 53) (as := [.int (0 : Int32)]) (rest := []) (c := mX4_takeLiteral) (k1 := 3) dX4_readClause_88 rfl rfl rfl sh_53 rfl rfl (Nat.le_of_ble_eq_true rfl) (Nat.le_of_ble_eq_true rfl) (by decide) ?_
              refine A_X4_takeLiteral e37 ?_
              show z_G none 4 mX4_readClause 91 [some (.ref 55), some (.int x1), some (.int x2), some (.int x3), some (.int (1 : Int32)), none] [.int q36.1] q36.2 Q
              refine g_istore (ls' := [some (.ref 55), some (.int x1), some (.int x2), some (.int x3), some (.int (1 : Int32)), some (.int q36.1)]) dX4_readClause_91 (Nat.le_of_ble_eq_true rfl) rfl ?_
              refine g_iload dX4_readClause_93 rfl ?_
              refine g_iconst (v := (-1 : Int32)) dX4_readClause_95 (by decide) ?_
              refine g_ic_ne (t := 101) dX4_readClause_96 (by decide) (fun c38 => ?_) (fun c38 => ?_)
              · replace h := z_iff c38 h
                refine g_iload dX4_readClause_101 rfl ?_
                refine g_if_eq (t := 116) dX4_readClause_103 (by decide) (fun c39 => ?_) (fun c39 => ?_)
                · exact absurd c39 (by decide)
                · skip
                  refine g_iload_n dX4_readClause_106 rfl rfl ?_
                  refine g_iconst (v := (1 : Int32)) dX4_readClause_107 (by decide) ?_
                  refine g_iload dX4_readClause_108 rfl ?_
                  refine g_ishl dX4_readClause_110 ?_
                  refine g_ior dX4_readClause_111 ?_
                  refine g_istore_n (ls' := [some (.ref 55), some (.int x1), some (.int (x2 ||| ((1 : Int32) <<< (q36.1 &&& 31)))), some (.int x3), some (.int (1 : Int32)), some (.int q36.1)]) dX4_readClause_112 rfl (Nat.le_of_ble_eq_true rfl) rfl ?_
                  refine g_goto (t := 123) dX4_readClause_113 (by decide) ?_
                  refine g_iinc (v := x3 + (1 : Int32)) (ls' := [some (.ref 55), some (.int x1), some (.int (x2 ||| ((1 : Int32) <<< (q36.1 &&& 31)))), some (.int (x3 + (1 : Int32))), some (.int (1 : Int32)), some (.int q36.1)]) dX4_readClause_123 rfl rfl rfl ?_
                  refine g_goto (t := 34) dX4_readClause_126 (by decide) ?_
                  exact g_sub (z_sub_s (z_sub_s (z_sub_s (z_sub_s (z_sub_n (z_sub_n z_sub_nil)))))) (ih _ _ _ _ _ _ _ h hq)
              · replace h := z_ift c38 h
                refine g_iconst (v := (0 : Int32)) dX4_readClause_99 (by decide) ?_
                cases h
                exact g_iret dX4_readClause_100 rfl rfl hq
            · replace h := z_ift c35 h
              refine g_iconst (v := (1 : Int32)) dX4_readClause_83 (by decide) ?_
              refine g_goto (t := 88) dX4_readClause_84 (by decide) ?_
              obtain ⟨q40, e41, h⟩ := z_bd h
              refine g_callV (a := 53) (as := [.int (1 : Int32)]) (rest := []) (c := mX4_takeLiteral) (k1 := 3) dX4_readClause_88 rfl rfl rfl sh_53 rfl rfl (Nat.le_of_ble_eq_true rfl) (Nat.le_of_ble_eq_true rfl) (by decide) ?_
              refine A_X4_takeLiteral e41 ?_
              show z_G none 4 mX4_readClause 91 [some (.ref 55), some (.int x1), some (.int x2), some (.int x3), some (.int (1 : Int32)), none] [.int q40.1] q40.2 Q
              refine g_istore (ls' := [some (.ref 55), some (.int x1), some (.int x2), some (.int x3), some (.int (1 : Int32)), some (.int q40.1)]) dX4_readClause_91 (Nat.le_of_ble_eq_true rfl) rfl ?_
              refine g_iload dX4_readClause_93 rfl ?_
              refine g_iconst (v := (-1 : Int32)) dX4_readClause_95 (by decide) ?_
              refine g_ic_ne (t := 101) dX4_readClause_96 (by decide) (fun c42 => ?_) (fun c42 => ?_)
              · replace h := z_iff c42 h
                refine g_iload dX4_readClause_101 rfl ?_
                refine g_if_eq (t := 116) dX4_readClause_103 (by decide) (fun c43 => ?_) (fun c43 => ?_)
                · exact absurd c43 (by decide)
                · skip
                  refine g_iload_n dX4_readClause_106 rfl rfl ?_
                  refine g_iconst (v := (1 : Int32)) dX4_readClause_107 (by decide) ?_
                  refine g_iload dX4_readClause_108 rfl ?_
                  refine g_ishl dX4_readClause_110 ?_
                  refine g_ior dX4_readClause_111 ?_
                  refine g_istore_n (ls' := [some (.ref 55), some (.int x1), some (.int (x2 ||| ((1 : Int32) <<< (q40.1 &&& 31)))), some (.int x3), some (.int (1 : Int32)), some (.int q40.1)]) dX4_readClause_112 rfl (Nat.le_of_ble_eq_true rfl) rfl ?_
                  refine g_goto (t := 123) dX4_readClause_113 (by decide) ?_
                  refine g_iinc (v := x3 + (1 : Int32)) (ls' := [some (.ref 55), some (.int x1), some (.int (x2 ||| ((1 : Int32) <<< (q40.1 &&& 31)))), some (.int (x3 + (1 : Int32))), some (.int (1 : Int32)), some (.int q40.1)]) dX4_readClause_123 rfl rfl rfl ?_
                  refine g_goto (t := 34) dX4_readClause_126 (by decide) ?_
                  exact g_sub (z_sub_s (z_sub_s (z_sub_s (z_sub_s (z_sub_n (z_sub_n z_sub_nil)))))) (ih _ _ _ _ _ _ _ h hq)
              · replace h := z_ift c42 h
                refine g_iconst (v := (0 : Int32)) dX4_readClause_99 (by decide) ?_
                cases h
                exact g_iret dX4_readClause_100 rfl rfl hq
        · replace h := z_ift c24 h
          refine g_goto (t := 129) dX4_readClause_55 (by decide) ?_
          refine g_aload_n dX4_readClause_129 rfl rfl ?_
          refine g_get (a := 53) (v := .ref 32) dX4_readClause_130 f_4_24 sh_53 rfl rfl ?_
          refine g_get (a := 30) (v := .ref 44) dX4_readClause_133 f_4_141 sh_30 rfl rfl ?_
          refine g_iload_n dX4_readClause_136 rfl rfl ?_
          refine g_iload_n dX4_readClause_137 rfl rfl ?_
          obtain ⟨q44, e45, h⟩ := z_bd h
          refine g_callV (a := 42) (as := [.int x1, .int x2]) (rest := []) (c := mX0_addClause) (k1 := 0) dX4_readClause_138 rfl rfl rfl sh_42 rfl rfl (Nat.le_of_ble_eq_true rfl) (Nat.le_of_ble_eq_true rfl) (by decide) ?_
          refine A_X0_addClause z_par_30 e45 ?_
          show z_G none 4 mX4_readClause 141 [some (.ref 55), some (.int x1), some (.int x2), some (.int x3), none, none] [.int (z_tb q44.1)] q44.2 Q
          cases h
          exact g_iret dX4_readClause_141 rfl nb_tb hq
def F_X4_readClause (w : Nat) (M : z_Mem) : Option (Bool × z_Mem) :=
  (F_X4_hasRoom w M (M.1 42 5) (8 : Int32)).bind fun q46 =>
  if q46.1 = true then
  (F_X7_advance w q46.2).bind fun q49 =>
  L_X4_readClause w w q49.2 (0 : Int32) (0 : Int32) (0 : Int32)
  else
  some (false, q46.2)
set_option maxHeartbeats 4000000 in
theorem A_X4_readClause {w : Nat} {M : z_Mem} {r : Bool} {M' : z_Mem} {Q : Option Value → z_Mem → Prop} (h : F_X4_readClause w M = some (r, M')) (hq : Q (some (.int (z_tb r))) M') : z_Cl 4 mX4_readClause [.ref 55] M Q := by
  refine g_in (ls := [some (.ref 55), none, none, none, none, none]) rfl ?_
  unfold F_X4_readClause at h
  refine g_aload_n dX4_readClause_0 rfl rfl ?_
  refine g_aload_n dX4_readClause_1 rfl rfl ?_
  refine g_get (a := 53) (v := .ref 32) dX4_readClause_2 f_4_24 sh_53 rfl rfl ?_
  refine g_get (a := 30) (v := .ref 44) dX4_readClause_5 f_4_141 sh_30 rfl rfl ?_
  refine g_get (a := 42) (v := .int (M.1 42 5)) dX4_readClause_8 f_4_164 sh_42 rfl rfl ?_
  refine g_bipush (v := (8 : Int32)) dX4_readClause_11 (by decide) ?_
  obtain ⟨q46, e47, h⟩ := z_bd h
  refine g_callV (a := 53) (as := [.int (M.1 42 5), .int (8 : Int32)]) (rest := []) (c := mX4_hasRoom) (k1 := 1) dX4_readClause_13 rfl rfl rfl sh_53 rfl rfl (Nat.le_of_ble_eq_true rfl) (Nat.le_of_ble_eq_true rfl) (by decide) ?_
  refine A_X4_hasRoom e47 ?_
  show z_G none 4 mX4_readClause 16 [some (.ref 55), none, none, none, none, none] [.int (z_tb q46.1)] q46.2 Q
  refine g_if_ne (t := 21) dX4_readClause_16 (by decide) (fun c48 => ?_) (fun c48 => ?_)
  · replace h := z_ift (z_tbn.mp c48) h
    refine g_aload_n dX4_readClause_21 rfl rfl ?_
    refine g_get (a := 53) (v := .ref 7) dX4_readClause_22 f_4_20 sh_53 rfl rfl ?_
    obtain ⟨q49, e50, h⟩ := z_bd h
    refine g_callV (a := 5) (as := []) (rest := []) (c := mX7_advance) (k1 := 2) dX4_readClause_25 rfl rfl rfl sh_5 rfl rfl (Nat.le_of_ble_eq_true rfl) (Nat.le_of_ble_eq_true rfl) (by decide) ?_
    refine A_X7_advance e50 ?_
    show z_G none 4 mX4_readClause 28 [some (.ref 55), none, none, none, none, none] [] q49.2 Q
    refine g_iconst (v := (0 : Int32)) dX4_readClause_28 (by decide) ?_
    refine g_istore_n (ls' := [some (.ref 55), some (.int (0 : Int32)), none, none, none, none]) dX4_readClause_29 rfl (Nat.le_of_ble_eq_true rfl) rfl ?_
    refine g_iconst (v := (0 : Int32)) dX4_readClause_30 (by decide) ?_
    refine g_istore_n (ls' := [some (.ref 55), some (.int (0 : Int32)), some (.int (0 : Int32)), none, none, none]) dX4_readClause_31 rfl (Nat.le_of_ble_eq_true rfl) rfl ?_
    refine g_iconst (v := (0 : Int32)) dX4_readClause_32 (by decide) ?_
    refine g_istore_n (ls' := [some (.ref 55), some (.int (0 : Int32)), some (.int (0 : Int32)), some (.int (0 : Int32)), none, none]) dX4_readClause_33 rfl (Nat.le_of_ble_eq_true rfl) rfl ?_
    exact g_sub (z_sub_s (z_sub_s (z_sub_s (z_sub_s (z_sub_n (z_sub_n z_sub_nil)))))) ((AL_X4_readClause (w := w) w) _ _ _ _ _ _ _ h hq)
  · replace h := z_iff (z_tb0.mp c48) h
    refine g_iconst (v := (0 : Int32)) dX4_readClause_19 (by decide) ?_
    cases h
    exact g_iret dX4_readClause_20 rfl rfl hq
theorem dX4_readWitness_0 : decode cX4_readWitness 0 = .ok (.aload_n 0, 1) := by decide +kernel
theorem dX4_readWitness_1 : decode cX4_readWitness 1 = .ok (.aload_n 0, 1) := by decide +kernel
theorem dX4_readWitness_2 : decode cX4_readWitness 2 = .ok (.getfield 24, 3) := by decide +kernel
theorem dX4_readWitness_5 : decode cX4_readWitness 5 = .ok (.getfield 141, 3) := by decide +kernel
theorem dX4_readWitness_8 : decode cX4_readWitness 8 = .ok (.getfield 174, 3) := by decide +kernel
theorem dX4_readWitness_11 : decode cX4_readWitness 11 = .ok (.bipush 6, 2) := by decide +kernel
theorem dX4_readWitness_13 : decode cX4_readWitness 13 = .ok (.invokevirtual 114, 3) := by decide +kernel
theorem dX4_readWitness_16 : decode cX4_readWitness 16 = .ok (.ifCond .ne 5, 3) := by decide +kernel
theorem dX4_readWitness_19 : decode cX4_readWitness 19 = .ok (.iconst 0, 1) := by decide +kernel
theorem dX4_readWitness_20 : decode cX4_readWitness 20 = .ok (.ireturn, 1) := by decide +kernel
theorem dX4_readWitness_21 : decode cX4_readWitness 21 = .ok (.aload_n 0, 1) := by decide +kernel
theorem dX4_readWitness_22 : decode cX4_readWitness 22 = .ok (.getfield 20, 3) := by decide +kernel
theorem dX4_readWitness_25 : decode cX4_readWitness 25 = .ok (.invokevirtual 81, 3) := by decide +kernel
theorem dX4_readWitness_28 : decode cX4_readWitness 28 = .ok (.aload_n 0, 1) := by decide +kernel
theorem dX4_readWitness_29 : decode cX4_readWitness 29 = .ok (.getfield 20, 3) := by decide +kernel
theorem dX4_readWitness_32 : decode cX4_readWitness 32 = .ok (.iconst 0, 1) := by decide +kernel
theorem dX4_readWitness_33 : decode cX4_readWitness 33 = .ok (.bipush 16, 2) := by decide +kernel
theorem dX4_readWitness_35 : decode cX4_readWitness 35 = .ok (.invokevirtual 84, 3) := by decide +kernel
theorem dX4_readWitness_38 : decode cX4_readWitness 38 = .ok (.istore_n 1, 1) := by decide +kernel
theorem dX4_readWitness_39 : decode cX4_readWitness 39 = .ok (.iload_n 1, 1) := by decide +kernel
theorem dX4_readWitness_40 : decode cX4_readWitness 40 = .ok (.iconst (-1), 1) := by decide +kernel
theorem dX4_readWitness_41 : decode cX4_readWitness 41 = .ok (.if_icmp .ne 5, 3) := by decide +kernel
theorem dX4_readWitness_44 : decode cX4_readWitness 44 = .ok (.iconst 0, 1) := by decide +kernel
theorem dX4_readWitness_45 : decode cX4_readWitness 45 = .ok (.ireturn, 1) := by decide +kernel
theorem dX4_readWitness_46 : decode cX4_readWitness 46 = .ok (.aload_n 0, 1) := by decide +kernel
theorem dX4_readWitness_47 : decode cX4_readWitness 47 = .ok (.getfield 20, 3) := by decide +kernel
theorem dX4_readWitness_50 : decode cX4_readWitness 50 = .ok (.iconst 0, 1) := by decide +kernel
theorem dX4_readWitness_51 : decode cX4_readWitness 51 = .ok (.bipush 16, 2) := by decide +kernel
theorem dX4_readWitness_53 : decode cX4_readWitness 53 = .ok (.invokevirtual 84, 3) := by decide +kernel
theorem dX4_readWitness_56 : decode cX4_readWitness 56 = .ok (.istore_n 2, 1) := by decide +kernel
theorem dX4_readWitness_57 : decode cX4_readWitness 57 = .ok (.iload_n 2, 1) := by decide +kernel
theorem dX4_readWitness_58 : decode cX4_readWitness 58 = .ok (.iconst (-1), 1) := by decide +kernel
theorem dX4_readWitness_59 : decode cX4_readWitness 59 = .ok (.if_icmp .eq 22, 3) := by decide +kernel
theorem dX4_readWitness_62 : decode cX4_readWitness 62 = .ok (.aload_n 0, 1) := by decide +kernel
theorem dX4_readWitness_63 : decode cX4_readWitness 63 = .ok (.getfield 24, 3) := by decide +kernel
theorem dX4_readWitness_66 : decode cX4_readWitness 66 = .ok (.getfield 141, 3) := by decide +kernel
theorem dX4_readWitness_69 : decode cX4_readWitness 69 = .ok (.iload_n 1, 1) := by decide +kernel
theorem dX4_readWitness_70 : decode cX4_readWitness 70 = .ok (.iload_n 2, 1) := by decide +kernel
theorem dX4_readWitness_71 : decode cX4_readWitness 71 = .ok (.invokevirtual 177, 3) := by decide +kernel
theorem dX4_readWitness_74 : decode cX4_readWitness 74 = .ok (.ifCond .eq 7, 3) := by decide +kernel
theorem dX4_readWitness_77 : decode cX4_readWitness 77 = .ok (.iconst 1, 1) := by decide +kernel
theorem dX4_readWitness_78 : decode cX4_readWitness 78 = .ok (.goto 4, 3) := by decide +kernel
theorem dX4_readWitness_81 : decode cX4_readWitness 81 = .ok (.iconst 0, 1) := by decide +kernel
theorem dX4_readWitness_82 : decode cX4_readWitness 82 = .ok (.ireturn, 1) := by decide +kernel
def F_X4_readWitness (w : Nat) (M : z_Mem) : Option (Bool × z_Mem) :=
  (F_X4_hasRoom w M (M.1 42 6) (6 : Int32)).bind fun q1 =>
  if q1.1 = true then
  (F_X7_advance w q1.2).bind fun q4 =>
  (F_X7_takeNumber w q4.2 (0 : Int32) (16 : Int32)).bind fun q6 =>
  if q6.1 = (-1 : Int32) then
  some (false, q6.2)
  else
  (F_X7_takeNumber w q6.2 (0 : Int32) (16 : Int32)).bind fun q9 =>
  if q9.1 = (-1 : Int32) then
  some (false, q9.2)
  else
  (F_X0_addWitness w q9.2 30 q6.1 q9.1).bind fun q12 =>
  if q12.1 = true then
  some (true, q12.2)
  else
  some (false, q12.2)
  else
  some (false, q1.2)
set_option maxHeartbeats 4000000 in
theorem A_X4_readWitness {w : Nat} {M : z_Mem} {r : Bool} {M' : z_Mem} {Q : Option Value → z_Mem → Prop} (h : F_X4_readWitness w M = some (r, M')) (hq : Q (some (.int (z_tb r))) M') : z_Cl 4 mX4_readWitness [.ref 55] M Q := by
  refine g_in (ls := [some (.ref 55), none, none]) rfl ?_
  unfold F_X4_readWitness at h
  refine g_aload_n dX4_readWitness_0 rfl rfl ?_
  refine g_aload_n dX4_readWitness_1 rfl rfl ?_
  refine g_get (a := 53) (v := .ref 32) dX4_readWitness_2 f_4_24 sh_53 rfl rfl ?_
  refine g_get (a := 30) (v := .ref 44) dX4_readWitness_5 f_4_141 sh_30 rfl rfl ?_
  refine g_get (a := 42) (v := .int (M.1 42 6)) dX4_readWitness_8 f_4_174 sh_42 rfl rfl ?_
  refine g_bipush (v := (6 : Int32)) dX4_readWitness_11 (by decide) ?_
  obtain ⟨q1, e2, h⟩ := z_bd h
  refine g_callV (a := 53) (as := [.int (M.1 42 6), .int (6 : Int32)]) (rest := []) (c := mX4_hasRoom) (k1 := 1) dX4_readWitness_13 rfl rfl rfl sh_53 rfl rfl (Nat.le_of_ble_eq_true rfl) (Nat.le_of_ble_eq_true rfl) (by decide) ?_
  refine A_X4_hasRoom e2 ?_
  show z_G none 4 mX4_readWitness 16 [some (.ref 55), none, none] [.int (z_tb q1.1)] q1.2 Q
  refine g_if_ne (t := 21) dX4_readWitness_16 (by decide) (fun c3 => ?_) (fun c3 => ?_)
  · replace h := z_ift (z_tbn.mp c3) h
    refine g_aload_n dX4_readWitness_21 rfl rfl ?_
    refine g_get (a := 53) (v := .ref 7) dX4_readWitness_22 f_4_20 sh_53 rfl rfl ?_
    obtain ⟨q4, e5, h⟩ := z_bd h
    refine g_callV (a := 5) (as := []) (rest := []) (c := mX7_advance) (k1 := 2) dX4_readWitness_25 rfl rfl rfl sh_5 rfl rfl (Nat.le_of_ble_eq_true rfl) (Nat.le_of_ble_eq_true rfl) (by decide) ?_
    refine A_X7_advance e5 ?_
    show z_G none 4 mX4_readWitness 28 [some (.ref 55), none, none] [] q4.2 Q
    refine g_aload_n dX4_readWitness_28 rfl rfl ?_
    refine g_get (a := 53) (v := .ref 7) dX4_readWitness_29 f_4_20 sh_53 rfl rfl ?_
    refine g_iconst (v := (0 : Int32)) dX4_readWitness_32 (by decide) ?_
    refine g_bipush (v := (16 : Int32)) dX4_readWitness_33 (by decide) ?_
    obtain ⟨q6, e7, h⟩ := z_bd h
    refine g_callV (a := 5) (as := [.int (0 : Int32), .int (16 : Int32)]) (rest := []) (c := mX7_takeNumber) (k1 := 3) dX4_readWitness_35 rfl rfl rfl sh_5 rfl rfl (Nat.le_of_ble_eq_true rfl) (Nat.le_of_ble_eq_true rfl) (by decide) ?_
    refine A_X7_takeNumber e7 ?_
    show z_G none 4 mX4_readWitness 38 [some (.ref 55), none, none] [.int q6.1] q6.2 Q
    refine g_istore_n (ls' := [some (.ref 55), some (.int q6.1), none]) dX4_readWitness_38 rfl (Nat.le_of_ble_eq_true rfl) rfl ?_
    refine g_iload_n dX4_readWitness_39 rfl rfl ?_
    refine g_iconst (v := (-1 : Int32)) dX4_readWitness_40 (by decide) ?_
    refine g_ic_ne (t := 46) dX4_readWitness_41 (by decide) (fun c8 => ?_) (fun c8 => ?_)
    · replace h := z_iff c8 h
      refine g_aload_n dX4_readWitness_46 rfl rfl ?_
      refine g_get (a := 53) (v := .ref 7) dX4_readWitness_47 f_4_20 sh_53 rfl rfl ?_
      refine g_iconst (v := (0 : Int32)) dX4_readWitness_50 (by decide) ?_
      refine g_bipush (v := (16 : Int32)) dX4_readWitness_51 (by decide) ?_
      obtain ⟨q9, e10, h⟩ := z_bd h
      refine g_callV (a := 5) (as := [.int (0 : Int32), .int (16 : Int32)]) (rest := []) (c := mX7_takeNumber) (k1 := 3) dX4_readWitness_53 rfl rfl rfl sh_5 rfl rfl (Nat.le_of_ble_eq_true rfl) (Nat.le_of_ble_eq_true rfl) (by decide) ?_
      refine A_X7_takeNumber e10 ?_
      show z_G none 4 mX4_readWitness 56 [some (.ref 55), some (.int q6.1), none] [.int q9.1] q9.2 Q
      refine g_istore_n (ls' := [some (.ref 55), some (.int q6.1), some (.int q9.1)]) dX4_readWitness_56 rfl (Nat.le_of_ble_eq_true rfl) rfl ?_
      refine g_iload_n dX4_readWitness_57 rfl rfl ?_
      refine g_iconst (v := (-1 : Int32)) dX4_readWitness_58 (by decide) ?_
      refine g_ic_eq (t := 81) dX4_readWitness_59 (by decide) (fun c11 => ?_) (fun c11 => ?_)
      · replace h := z_ift c11 h
        refine g_iconst (v := (0 : Int32)) dX4_readWitness_81 (by decide) ?_
        cases h
        exact g_iret dX4_readWitness_82 rfl rfl hq
      · replace h := z_iff c11 h
        refine g_aload_n dX4_readWitness_62 rfl rfl ?_
        refine g_get (a := 53) (v := .ref 32) dX4_readWitness_63 f_4_24 sh_53 rfl rfl ?_
        refine g_get (a := 30) (v := .ref 44) dX4_readWitness_66 f_4_141 sh_30 rfl rfl ?_
        refine g_iload_n dX4_readWitness_69 rfl rfl ?_
        refine g_iload_n dX4_readWitness_70 rfl rfl ?_
        obtain ⟨q12, e13, h⟩ := z_bd h
        refine g_callV (a := 42) (as := [.int q6.1, .int q9.1]) (rest := []) (c := mX0_addWitness) (k1 := 0) dX4_readWitness_71 rfl rfl rfl sh_42 rfl rfl (Nat.le_of_ble_eq_true rfl) (Nat.le_of_ble_eq_true rfl) (by decide) ?_
        refine A_X0_addWitness z_par_30 e13 ?_
        show z_G none 4 mX4_readWitness 74 [some (.ref 55), some (.int q6.1), some (.int q9.1)] [.int (z_tb q12.1)] q12.2 Q
        refine g_if_eq (t := 81) dX4_readWitness_74 (by decide) (fun c14 => ?_) (fun c14 => ?_)
        · replace h := z_iff (z_tb0.mp c14) h
          refine g_iconst (v := (0 : Int32)) dX4_readWitness_81 (by decide) ?_
          cases h
          exact g_iret dX4_readWitness_82 rfl rfl hq
        · replace h := z_ift (z_tbn.mp c14) h
          refine g_iconst (v := (1 : Int32)) dX4_readWitness_77 (by decide) ?_
          refine g_goto (t := 82) dX4_readWitness_78 (by decide) ?_
          cases h
          exact g_iret dX4_readWitness_82 rfl rfl hq
    · replace h := z_ift c8 h
      refine g_iconst (v := (0 : Int32)) dX4_readWitness_44 (by decide) ?_
      cases h
      exact g_iret dX4_readWitness_45 rfl rfl hq
  · replace h := z_iff (z_tb0.mp c3) h
    refine g_iconst (v := (0 : Int32)) dX4_readWitness_19 (by decide) ?_
    cases h
    exact g_iret dX4_readWitness_20 rfl rfl hq
theorem dX4_readText_0 : decode cX4_readText 0 = .ok (.aload_n 0, 1) := by decide +kernel
theorem dX4_readText_1 : decode cX4_readText 1 = .ok (.getfield 24, 3) := by decide +kernel
theorem dX4_readText_4 : decode cX4_readText 4 = .ok (.invokevirtual 28, 3) := by decide +kernel
theorem dX4_readText_7 : decode cX4_readText 7 = .ok (.aload_n 0, 1) := by decide +kernel
theorem dX4_readText_8 : decode cX4_readText 8 = .ok (.iconst 0, 1) := by decide +kernel
theorem dX4_readText_9 : decode cX4_readText 9 = .ok (.putfield 33, 3) := by decide +kernel
theorem dX4_readText_12 : decode cX4_readText 12 = .ok (.aload_n 0, 1) := by decide +kernel
theorem dX4_readText_13 : decode cX4_readText 13 = .ok (.getfield 20, 3) := by decide +kernel
theorem dX4_readText_16 : decode cX4_readText 16 = .ok (.iload_n 1, 1) := by decide +kernel
theorem dX4_readText_17 : decode cX4_readText 17 = .ok (.invokevirtual 37, 3) := by decide +kernel
theorem dX4_readText_20 : decode cX4_readText 20 = .ok (.iconst 0, 1) := by decide +kernel
theorem dX4_readText_21 : decode cX4_readText 21 = .ok (.istore_n 2, 1) := by decide +kernel
theorem dX4_readText_22 : decode cX4_readText 22 = .ok (.iload_n 2, 1) := by decide +kernel
theorem dX4_readText_23 : decode cX4_readText 23 = .ok (.iload_n 1, 1) := by decide +kernel
theorem dX4_readText_24 : decode cX4_readText 24 = .ok (.if_icmp .gt 215, 3) := by decide +kernel
theorem dX4_readText_27 : decode cX4_readText 27 = .ok (.aload_n 0, 1) := by decide +kernel
theorem dX4_readText_28 : decode cX4_readText 28 = .ok (.getfield 20, 3) := by decide +kernel
theorem dX4_readText_31 : decode cX4_readText 31 = .ok (.getfield 43, 3) := by decide +kernel
theorem dX4_readText_34 : decode cX4_readText 34 = .ok (.bipush 38, 2) := by decide +kernel
theorem dX4_readText_36 : decode cX4_readText 36 = .ok (.if_icmp .eq 203, 3) := by decide +kernel
theorem dX4_readText_39 : decode cX4_readText 39 = .ok (.aload_n 0, 1) := by decide +kernel
theorem dX4_readText_40 : decode cX4_readText 40 = .ok (.getfield 20, 3) := by decide +kernel
theorem dX4_readText_43 : decode cX4_readText 43 = .ok (.getfield 43, 3) := by decide +kernel
theorem dX4_readText_46 : decode cX4_readText 46 = .ok (.tableswitch 160 0 14 #[74, 84, 94, 104, 112, 120, 160, 160, 128, 160, 160, 136, 144, 160, 152], 74) := by decide +kernel
theorem dX4_readText_120 : decode cX4_readText 120 = .ok (.aload_n 0, 1) := by decide +kernel
theorem dX4_readText_121 : decode cX4_readText 121 = .ok (.bipush 16, 2) := by decide +kernel
theorem dX4_readText_123 : decode cX4_readText 123 = .ok (.invokevirtual 46, 3) := by decide +kernel
theorem dX4_readText_126 : decode cX4_readText 126 = .ok (.istore_n 3, 1) := by decide +kernel
theorem dX4_readText_127 : decode cX4_readText 127 = .ok (.goto 88, 3) := by decide +kernel
theorem dX4_readText_130 : decode cX4_readText 130 = .ok (.aload_n 0, 1) := by decide +kernel
theorem dX4_readText_131 : decode cX4_readText 131 = .ok (.bipush 99, 2) := by decide +kernel
theorem dX4_readText_133 : decode cX4_readText 133 = .ok (.invokevirtual 46, 3) := by decide +kernel
theorem dX4_readText_136 : decode cX4_readText 136 = .ok (.istore_n 3, 1) := by decide +kernel
theorem dX4_readText_137 : decode cX4_readText 137 = .ok (.goto 78, 3) := by decide +kernel
theorem dX4_readText_140 : decode cX4_readText 140 = .ok (.aload_n 0, 1) := by decide +kernel
theorem dX4_readText_141 : decode cX4_readText 141 = .ok (.bipush 99, 2) := by decide +kernel
theorem dX4_readText_143 : decode cX4_readText 143 = .ok (.invokevirtual 46, 3) := by decide +kernel
theorem dX4_readText_146 : decode cX4_readText 146 = .ok (.istore_n 3, 1) := by decide +kernel
theorem dX4_readText_147 : decode cX4_readText 147 = .ok (.goto 68, 3) := by decide +kernel
theorem dX4_readText_150 : decode cX4_readText 150 = .ok (.aload_n 0, 1) := by decide +kernel
theorem dX4_readText_151 : decode cX4_readText 151 = .ok (.invokevirtual 50, 3) := by decide +kernel
theorem dX4_readText_154 : decode cX4_readText 154 = .ok (.istore_n 3, 1) := by decide +kernel
theorem dX4_readText_155 : decode cX4_readText 155 = .ok (.goto 60, 3) := by decide +kernel
theorem dX4_readText_158 : decode cX4_readText 158 = .ok (.aload_n 0, 1) := by decide +kernel
theorem dX4_readText_159 : decode cX4_readText 159 = .ok (.invokevirtual 54, 3) := by decide +kernel
theorem dX4_readText_162 : decode cX4_readText 162 = .ok (.istore_n 3, 1) := by decide +kernel
theorem dX4_readText_163 : decode cX4_readText 163 = .ok (.goto 52, 3) := by decide +kernel
theorem dX4_readText_166 : decode cX4_readText 166 = .ok (.aload_n 0, 1) := by decide +kernel
theorem dX4_readText_167 : decode cX4_readText 167 = .ok (.invokevirtual 57, 3) := by decide +kernel
theorem dX4_readText_170 : decode cX4_readText 170 = .ok (.istore_n 3, 1) := by decide +kernel
theorem dX4_readText_171 : decode cX4_readText 171 = .ok (.goto 44, 3) := by decide +kernel
theorem dX4_readText_174 : decode cX4_readText 174 = .ok (.aload_n 0, 1) := by decide +kernel
theorem dX4_readText_175 : decode cX4_readText 175 = .ok (.invokevirtual 60, 3) := by decide +kernel
theorem dX4_readText_178 : decode cX4_readText 178 = .ok (.istore_n 3, 1) := by decide +kernel
theorem dX4_readText_179 : decode cX4_readText 179 = .ok (.goto 36, 3) := by decide +kernel
theorem dX4_readText_182 : decode cX4_readText 182 = .ok (.aload_n 0, 1) := by decide +kernel
theorem dX4_readText_183 : decode cX4_readText 183 = .ok (.invokevirtual 63, 3) := by decide +kernel
theorem dX4_readText_186 : decode cX4_readText 186 = .ok (.istore_n 3, 1) := by decide +kernel
theorem dX4_readText_187 : decode cX4_readText 187 = .ok (.goto 28, 3) := by decide +kernel
theorem dX4_readText_190 : decode cX4_readText 190 = .ok (.aload_n 0, 1) := by decide +kernel
theorem dX4_readText_191 : decode cX4_readText 191 = .ok (.invokevirtual 66, 3) := by decide +kernel
theorem dX4_readText_194 : decode cX4_readText 194 = .ok (.istore_n 3, 1) := by decide +kernel
theorem dX4_readText_195 : decode cX4_readText 195 = .ok (.goto 20, 3) := by decide +kernel
theorem dX4_readText_198 : decode cX4_readText 198 = .ok (.aload_n 0, 1) := by decide +kernel
theorem dX4_readText_199 : decode cX4_readText 199 = .ok (.invokevirtual 69, 3) := by decide +kernel
theorem dX4_readText_202 : decode cX4_readText 202 = .ok (.istore_n 3, 1) := by decide +kernel
theorem dX4_readText_203 : decode cX4_readText 203 = .ok (.goto 12, 3) := by decide +kernel
theorem dX4_readText_206 : decode cX4_readText 206 = .ok (.aload_n 0, 1) := by decide +kernel
theorem dX4_readText_207 : decode cX4_readText 207 = .ok (.getfield 20, 3) := by decide +kernel
theorem dX4_readText_210 : decode cX4_readText 210 = .ok (.iconst 2, 1) := by decide +kernel
theorem dX4_readText_211 : decode cX4_readText 211 = .ok (.invokevirtual 72, 3) := by decide +kernel
theorem dX4_readText_214 : decode cX4_readText 214 = .ok (.istore_n 3, 1) := by decide +kernel
theorem dX4_readText_215 : decode cX4_readText 215 = .ok (.iload_n 3, 1) := by decide +kernel
theorem dX4_readText_216 : decode cX4_readText 216 = .ok (.ifCond .eq 15, 3) := by decide +kernel
theorem dX4_readText_219 : decode cX4_readText 219 = .ok (.aload_n 0, 1) := by decide +kernel
theorem dX4_readText_220 : decode cX4_readText 220 = .ok (.getfield 20, 3) := by decide +kernel
theorem dX4_readText_223 : decode cX4_readText 223 = .ok (.bipush 33, 2) := by decide +kernel
theorem dX4_readText_225 : decode cX4_readText 225 = .ok (.invokevirtual 75, 3) := by decide +kernel
theorem dX4_readText_228 : decode cX4_readText 228 = .ok (.ifCond .ne 5, 3) := by decide +kernel
theorem dX4_readText_231 : decode cX4_readText 231 = .ok (.iconst 0, 1) := by decide +kernel
theorem dX4_readText_232 : decode cX4_readText 232 = .ok (.ireturn, 1) := by decide +kernel
theorem dX4_readText_233 : decode cX4_readText 233 = .ok (.iinc 2 1, 3) := by decide +kernel
theorem dX4_readText_236 : decode cX4_readText 236 = .ok (.goto (-214), 3) := by decide +kernel
theorem dX4_readText_239 : decode cX4_readText 239 = .ok (.iconst 1, 1) := by decide +kernel
theorem dX4_readText_240 : decode cX4_readText 240 = .ok (.ireturn, 1) := by decide +kernel
def L_X4_readText (w : Nat) : Nat → z_Mem → Int32 → Int32 → Option (Bool × z_Mem)
  | 0, _, _, _ => none
  | c + 1, M, x1, x2 =>
    if x1 < x2 then
    some (true, M)
    else
    if (M.1 5 3) = (38 : Int32) then
    some (true, M)
    else
    if (M.1 5 3) = (0 : Int32) then
    (F_X4_readRule w M (16 : Int32)).bind fun q4 =>
    if q4.1 = true then
    (F_X7_take w q4.2 (33 : Int32)).bind fun q7 =>
    if q7.1 = true then
    L_X4_readText w c q7.2 x1 (x2 + (1 : Int32))
    else
    some (false, q7.2)
    else
    some (false, q4.2)
    else
    if (M.1 5 3) = (1 : Int32) then
    (F_X4_readRule w M (99 : Int32)).bind fun q11 =>
    if q11.1 = true then
    (F_X7_take w q11.2 (33 : Int32)).bind fun q14 =>
    if q14.1 = true then
    L_X4_readText w c q14.2 x1 (x2 + (1 : Int32))
    else
    some (false, q14.2)
    else
    some (false, q11.2)
    else
    if (M.1 5 3) = (2 : Int32) then
    (F_X4_readRule w M (99 : Int32)).bind fun q18 =>
    if q18.1 = true then
    (F_X7_take w q18.2 (33 : Int32)).bind fun q21 =>
    if q21.1 = true then
    L_X4_readText w c q21.2 x1 (x2 + (1 : Int32))
    else
    some (false, q21.2)
    else
    some (false, q18.2)
    else
    if (M.1 5 3) = (3 : Int32) then
    (F_X4_readLies w M).bind fun q25 =>
    if q25.1 = true then
    (F_X7_take w q25.2 (33 : Int32)).bind fun q28 =>
    if q28.1 = true then
    L_X4_readText w c q28.2 x1 (x2 + (1 : Int32))
    else
    some (false, q28.2)
    else
    some (false, q25.2)
    else
    if (M.1 5 3) = (4 : Int32) then
    (F_X4_readChest w M).bind fun q32 =>
    if q32.1 = true then
    (F_X7_take w q32.2 (33 : Int32)).bind fun q35 =>
    if q35.1 = true then
    L_X4_readText w c q35.2 x1 (x2 + (1 : Int32))
    else
    some (false, q35.2)
    else
    some (false, q32.2)
    else
    if (M.1 5 3) = (5 : Int32) then
    (F_X4_readRight w M).bind fun q39 =>
    if q39.1 = true then
    (F_X7_take w q39.2 (33 : Int32)).bind fun q42 =>
    if q42.1 = true then
    L_X4_readText w c q42.2 x1 (x2 + (1 : Int32))
    else
    some (false, q42.2)
    else
    some (false, q39.2)
    else
    if (M.1 5 3) = (6 : Int32) then
    (F_X7_fail w M (2 : Int32)).bind fun q46 =>
    if q46.1 = true then
    (F_X7_take w q46.2 (33 : Int32)).bind fun q49 =>
    if q49.1 = true then
    L_X4_readText w c q49.2 x1 (x2 + (1 : Int32))
    else
    some (false, q49.2)
    else
    some (false, q46.2)
    else
    if (M.1 5 3) = (7 : Int32) then
    (F_X7_fail w M (2 : Int32)).bind fun q53 =>
    if q53.1 = true then
    (F_X7_take w q53.2 (33 : Int32)).bind fun q56 =>
    if q56.1 = true then
    L_X4_readText w c q56.2 x1 (x2 + (1 : Int32))
    else
    some (false, q56.2)
    else
    some (false, q53.2)
    else
    if (M.1 5 3) = (8 : Int32) then
    (F_X4_readDebt w M).bind fun q60 =>
    if q60.1 = true then
    (F_X7_take w q60.2 (33 : Int32)).bind fun q63 =>
    if q63.1 = true then
    L_X4_readText w c q63.2 x1 (x2 + (1 : Int32))
    else
    some (false, q63.2)
    else
    some (false, q60.2)
    else
    if (M.1 5 3) = (9 : Int32) then
    (F_X7_fail w M (2 : Int32)).bind fun q67 =>
    if q67.1 = true then
    (F_X7_take w q67.2 (33 : Int32)).bind fun q70 =>
    if q70.1 = true then
    L_X4_readText w c q70.2 x1 (x2 + (1 : Int32))
    else
    some (false, q70.2)
    else
    some (false, q67.2)
    else
    if (M.1 5 3) = (10 : Int32) then
    (F_X7_fail w M (2 : Int32)).bind fun q74 =>
    if q74.1 = true then
    (F_X7_take w q74.2 (33 : Int32)).bind fun q77 =>
    if q77.1 = true then
    L_X4_readText w c q77.2 x1 (x2 + (1 : Int32))
    else
    some (false, q77.2)
    else
    some (false, q74.2)
    else
    if (M.1 5 3) = (11 : Int32) then
    (F_X4_readAsk w M).bind fun q81 =>
    if q81.1 = true then
    (F_X7_take w q81.2 (33 : Int32)).bind fun q84 =>
    if q84.1 = true then
    L_X4_readText w c q84.2 x1 (x2 + (1 : Int32))
    else
    some (false, q84.2)
    else
    some (false, q81.2)
    else
    if (M.1 5 3) = (12 : Int32) then
    (F_X4_readClause w M).bind fun q88 =>
    if q88.1 = true then
    (F_X7_take w q88.2 (33 : Int32)).bind fun q91 =>
    if q91.1 = true then
    L_X4_readText w c q91.2 x1 (x2 + (1 : Int32))
    else
    some (false, q91.2)
    else
    some (false, q88.2)
    else
    if (M.1 5 3) = (13 : Int32) then
    (F_X7_fail w M (2 : Int32)).bind fun q95 =>
    if q95.1 = true then
    (F_X7_take w q95.2 (33 : Int32)).bind fun q98 =>
    if q98.1 = true then
    L_X4_readText w c q98.2 x1 (x2 + (1 : Int32))
    else
    some (false, q98.2)
    else
    some (false, q95.2)
    else
    if (M.1 5 3) = (14 : Int32) then
    (F_X4_readWitness w M).bind fun q102 =>
    if q102.1 = true then
    (F_X7_take w q102.2 (33 : Int32)).bind fun q105 =>
    if q105.1 = true then
    L_X4_readText w c q105.2 x1 (x2 + (1 : Int32))
    else
    some (false, q105.2)
    else
    some (false, q102.2)
    else
    (F_X7_fail w M (2 : Int32)).bind fun q108 =>
    if q108.1 = true then
    (F_X7_take w q108.2 (33 : Int32)).bind fun q111 =>
    if q111.1 = true then
    L_X4_readText w c q111.2 x1 (x2 + (1 : Int32))
    else
    some (false, q111.2)
    else
    some (false, q108.2)
set_option maxHeartbeats 4000000 in
theorem AL_X4_readText {w : Nat} : ∀ (c : Nat), (∀ (M : z_Mem) (x1 : Int32) (x2 : Int32) (r : Bool) (M' : z_Mem) (Q : Option Value → z_Mem → Prop), L_X4_readText w c M x1 x2 = some (r, M') → Q (some (.int (z_tb r))) M' → z_G none 6 mX4_readText 22 [some (.ref 55), some (.int x1), some (.int x2), none] [] M Q) := by
  intro c
  induction c with
  | zero => exact (fun M x1 x2 r M' Q h hq => by rw [L_X4_readText] at h; cases h)
  | succ c ih =>
    intro M x1 x2 r M' Q h hq
    rw [L_X4_readText] at h
    refine g_iload_n dX4_readText_22 rfl rfl ?_
    refine g_iload_n dX4_readText_23 rfl rfl ?_
    refine g_ic_gt (t := 239) dX4_readText_24 (by decide) (fun c1 => ?_) (fun c1 => ?_)
    · replace h := z_ift c1 h
      refine g_iconst (v := (1 : Int32)) dX4_readText_239 (by decide) ?_
      cases h
      exact g_iret dX4_readText_240 rfl rfl hq
    · replace h := z_iff c1 h
      refine g_aload_n dX4_readText_27 rfl rfl ?_
      refine g_get (a := 53) (v := .ref 7) dX4_readText_28 f_4_20 sh_53 rfl rfl ?_
      refine g_get (a := 5) (v := .int (M.1 5 3)) dX4_readText_31 f_4_43 sh_5 rfl rfl ?_
      refine g_bipush (v := (38 : Int32)) dX4_readText_34 (by decide) ?_
      refine g_ic_eq (t := 239) dX4_readText_36 (by decide) (fun c2 => ?_) (fun c2 => ?_)
      · replace h := z_ift c2 h
        refine g_iconst (v := (1 : Int32)) dX4_readText_239 (by decide) ?_
        cases h
        exact g_iret dX4_readText_240 rfl rfl hq
      · replace h := z_iff c2 h
        refine g_aload_n dX4_readText_39 rfl rfl ?_
        refine g_get (a := 53) (v := .ref 7) dX4_readText_40 f_4_20 sh_53 rfl rfl ?_
        refine g_get (a := 5) (v := .int (M.1 5 3)) dX4_readText_43 f_4_43 sh_5 rfl rfl ?_
        by_cases s3 : M.1 5 3 = (0 : Int32)
        · replace h := z_ift s3 h
          refine g_top (v := (0 : Int32)) s3 ?_
          refine g_tsIn (off := 74) (t := 120) dX4_readText_46 (by decide) (by decide) (by decide) ?_
          refine g_aload_n dX4_readText_120 rfl rfl ?_
          refine g_bipush (v := (16 : Int32)) dX4_readText_121 (by decide) ?_
          obtain ⟨q4, e5, h⟩ := z_bd h
          refine g_callV (a := 53) (as := [.int (16 : Int32)]) (rest := []) (c := mX4_readRule) (k1 := 4) dX4_readText_123 rfl rfl rfl sh_53 rfl rfl (Nat.le_of_ble_eq_true rfl) (Nat.le_of_ble_eq_true rfl) (by decide) ?_
          refine A_X4_readRule e5 ?_
          show z_G none 6 mX4_readText 126 [some (.ref 55), some (.int x1), some (.int x2), none] [.int (z_tb q4.1)] q4.2 Q
          refine g_istore_n (ls' := [some (.ref 55), some (.int x1), some (.int x2), some (.int (z_tb q4.1))]) dX4_readText_126 rfl (Nat.le_of_ble_eq_true rfl) rfl ?_
          refine g_goto (t := 215) dX4_readText_127 (by decide) ?_
          refine g_iload_n dX4_readText_215 rfl rfl ?_
          refine g_if_eq (t := 231) dX4_readText_216 (by decide) (fun c6 => ?_) (fun c6 => ?_)
          · replace h := z_iff (z_tb0.mp c6) h
            refine g_iconst (v := (0 : Int32)) dX4_readText_231 (by decide) ?_
            cases h
            exact g_iret dX4_readText_232 rfl rfl hq
          · replace h := z_ift (z_tbn.mp c6) h
            refine g_aload_n dX4_readText_219 rfl rfl ?_
            refine g_get (a := 53) (v := .ref 7) dX4_readText_220 f_4_20 sh_53 rfl rfl ?_
            refine g_bipush (v := (33 : Int32)) dX4_readText_223 (by decide) ?_
            obtain ⟨q7, e8, h⟩ := z_bd h
            refine g_callV (a := 5) (as := [.int (33 : Int32)]) (rest := []) (c := mX7_take) (k1 := 3) dX4_readText_225 rfl rfl rfl sh_5 rfl rfl (Nat.le_of_ble_eq_true rfl) (Nat.le_of_ble_eq_true rfl) (by decide) ?_
            refine A_X7_take e8 ?_
            show z_G none 6 mX4_readText 228 [some (.ref 55), some (.int x1), some (.int x2), some (.int (z_tb q4.1))] [.int (z_tb q7.1)] q7.2 Q
            refine g_if_ne (t := 233) dX4_readText_228 (by decide) (fun c9 => ?_) (fun c9 => ?_)
            · replace h := z_ift (z_tbn.mp c9) h
              refine g_iinc (v := x2 + (1 : Int32)) (ls' := [some (.ref 55), some (.int x1), some (.int (x2 + (1 : Int32))), some (.int (z_tb q4.1))]) dX4_readText_233 rfl rfl rfl ?_
              refine g_goto (t := 22) dX4_readText_236 (by decide) ?_
              exact g_sub (z_sub_s (z_sub_s (z_sub_s (z_sub_n z_sub_nil)))) (ih _ _ _ _ _ _ h hq)
            · replace h := z_iff (z_tb0.mp c9) h
              refine g_iconst (v := (0 : Int32)) dX4_readText_231 (by decide) ?_
              cases h
              exact g_iret dX4_readText_232 rfl rfl hq
        replace h := z_iff s3 h
        by_cases s10 : M.1 5 3 = (1 : Int32)
        · replace h := z_ift s10 h
          refine g_top (v := (1 : Int32)) s10 ?_
          refine g_tsIn (off := 84) (t := 130) dX4_readText_46 (by decide) (by decide) (by decide) ?_
          refine g_aload_n dX4_readText_130 rfl rfl ?_
          refine g_bipush (v := (99 : Int32)) dX4_readText_131 (by decide) ?_
          obtain ⟨q11, e12, h⟩ := z_bd h
          refine g_callV (a := 53) (as := [.int (99 : Int32)]) (rest := []) (c := mX4_readRule) (k1 := 4) dX4_readText_133 rfl rfl rfl sh_53 rfl rfl (Nat.le_of_ble_eq_true rfl) (Nat.le_of_ble_eq_true rfl) (by decide) ?_
          refine A_X4_readRule e12 ?_
          show z_G none 6 mX4_readText 136 [some (.ref 55), some (.int x1), some (.int x2), none] [.int (z_tb q11.1)] q11.2 Q
          refine g_istore_n (ls' := [some (.ref 55), some (.int x1), some (.int x2), some (.int (z_tb q11.1))]) dX4_readText_136 rfl (Nat.le_of_ble_eq_true rfl) rfl ?_
          refine g_goto (t := 215) dX4_readText_137 (by decide) ?_
          refine g_iload_n dX4_readText_215 rfl rfl ?_
          refine g_if_eq (t := 231) dX4_readText_216 (by decide) (fun c13 => ?_) (fun c13 => ?_)
          · replace h := z_iff (z_tb0.mp c13) h
            refine g_iconst (v := (0 : Int32)) dX4_readText_231 (by decide) ?_
            cases h
            exact g_iret dX4_readText_232 rfl rfl hq
          · replace h := z_ift (z_tbn.mp c13) h
            refine g_aload_n dX4_readText_219 rfl rfl ?_
            refine g_get (a := 53) (v := .ref 7) dX4_readText_220 f_4_20 sh_53 rfl rfl ?_
            refine g_bipush (v := (33 : Int32)) dX4_readText_223 (by decide) ?_
            obtain ⟨q14, e15, h⟩ := z_bd h
            refine g_callV (a := 5) (as := [.int (33 : Int32)]) (rest := []) (c := mX7_take) (k1 := 3) dX4_readText_225 rfl rfl rfl sh_5 rfl rfl (Nat.le_of_ble_eq_true rfl) (Nat.le_of_ble_eq_true rfl) (by decide) ?_
            refine A_X7_take e15 ?_
            show z_G none 6 mX4_readText 228 [some (.ref 55), some (.int x1), some (.int x2), some (.int (z_tb q11.1))] [.int (z_tb q14.1)] q14.2 Q
            refine g_if_ne (t := 233) dX4_readText_228 (by decide) (fun c16 => ?_) (fun c16 => ?_)
            · replace h := z_ift (z_tbn.mp c16) h
              refine g_iinc (v := x2 + (1 : Int32)) (ls' := [some (.ref 55), some (.int x1), some (.int (x2 + (1 : Int32))), some (.int (z_tb q11.1))]) dX4_readText_233 rfl rfl rfl ?_
              refine g_goto (t := 22) dX4_readText_236 (by decide) ?_
              exact g_sub (z_sub_s (z_sub_s (z_sub_s (z_sub_n z_sub_nil)))) (ih _ _ _ _ _ _ h hq)
            · replace h := z_iff (z_tb0.mp c16) h
              refine g_iconst (v := (0 : Int32)) dX4_readText_231 (by decide) ?_
              cases h
              exact g_iret dX4_readText_232 rfl rfl hq
        replace h := z_iff s10 h
        by_cases s17 : M.1 5 3 = (2 : Int32)
        · replace h := z_ift s17 h
          refine g_top (v := (2 : Int32)) s17 ?_
          refine g_tsIn (off := 94) (t := 140) dX4_readText_46 (by decide) (by decide) (by decide) ?_
          refine g_aload_n dX4_readText_140 rfl rfl ?_
          refine g_bipush (v := (99 : Int32)) dX4_readText_141 (by decide) ?_
          obtain ⟨q18, e19, h⟩ := z_bd h
          refine g_callV (a := 53) (as := [.int (99 : Int32)]) (rest := []) (c := mX4_readRule) (k1 := 4) dX4_readText_143 rfl rfl rfl sh_53 rfl rfl (Nat.le_of_ble_eq_true rfl) (Nat.le_of_ble_eq_true rfl) (by decide) ?_
          refine A_X4_readRule e19 ?_
          show z_G none 6 mX4_readText 146 [some (.ref 55), some (.int x1), some (.int x2), none] [.int (z_tb q18.1)] q18.2 Q
          refine g_istore_n (ls' := [some (.ref 55), some (.int x1), some (.int x2), some (.int (z_tb q18.1))]) dX4_readText_146 rfl (Nat.le_of_ble_eq_true rfl) rfl ?_
          refine g_goto (t := 215) dX4_readText_147 (by decide) ?_
          refine g_iload_n dX4_readText_215 rfl rfl ?_
          refine g_if_eq (t := 231) dX4_readText_216 (by decide) (fun c20 => ?_) (fun c20 => ?_)
          · replace h := z_iff (z_tb0.mp c20) h
            refine g_iconst (v := (0 : Int32)) dX4_readText_231 (by decide) ?_
            cases h
            exact g_iret dX4_readText_232 rfl rfl hq
          · replace h := z_ift (z_tbn.mp c20) h
            refine g_aload_n dX4_readText_219 rfl rfl ?_
            refine g_get (a := 53) (v := .ref 7) dX4_readText_220 f_4_20 sh_53 rfl rfl ?_
            refine g_bipush (v := (33 : Int32)) dX4_readText_223 (by decide) ?_
            obtain ⟨q21, e22, h⟩ := z_bd h
            refine g_callV (a := 5) (as := [.int (33 : Int32)]) (rest := []) (c := mX7_take) (k1 := 3) dX4_readText_225 rfl rfl rfl sh_5 rfl rfl (Nat.le_of_ble_eq_true rfl) (Nat.le_of_ble_eq_true rfl) (by decide) ?_
            refine A_X7_take e22 ?_
            show z_G none 6 mX4_readText 228 [some (.ref 55), some (.int x1), some (.int x2), some (.int (z_tb q18.1))] [.int (z_tb q21.1)] q21.2 Q
            refine g_if_ne (t := 233) dX4_readText_228 (by decide) (fun c23 => ?_) (fun c23 => ?_)
            · replace h := z_ift (z_tbn.mp c23) h
              refine g_iinc (v := x2 + (1 : Int32)) (ls' := [some (.ref 55), some (.int x1), some (.int (x2 + (1 : Int32))), some (.int (z_tb q18.1))]) dX4_readText_233 rfl rfl rfl ?_
              refine g_goto (t := 22) dX4_readText_236 (by decide) ?_
              exact g_sub (z_sub_s (z_sub_s (z_sub_s (z_sub_n z_sub_nil)))) (ih _ _ _ _ _ _ h hq)
            · replace h := z_iff (z_tb0.mp c23) h
              refine g_iconst (v := (0 : Int32)) dX4_readText_231 (by decide) ?_
              cases h
              exact g_iret dX4_readText_232 rfl rfl hq
        replace h := z_iff s17 h
        by_cases s24 : M.1 5 3 = (3 : Int32)
        · replace h := z_ift s24 h
          refine g_top (v := (3 : Int32)) s24 ?_
          refine g_tsIn (off := 104) (t := 150) dX4_readText_46 (by decide) (by decide) (by decide) ?_
          refine g_aload_n dX4_readText_150 rfl rfl ?_
          obtain ⟨q25, e26, h⟩ := z_bd h
          refine g_callV (a := 53) (as := []) (rest := []) (c := mX4_readLies) (k1 := 4) dX4_readText_151 rfl rfl rfl sh_53 rfl rfl (Nat.le_of_ble_eq_true rfl) (Nat.le_of_ble_eq_true rfl) (by decide) ?_
          refine A_X4_readLies e26 ?_
          show z_G none 6 mX4_readText 154 [some (.ref 55), some (.int x1), some (.int x2), none] [.int (z_tb q25.1)] q25.2 Q
          refine g_istore_n (ls' := [some (.ref 55), some (.int x1), some (.int x2), some (.int (z_tb q25.1))]) dX4_readText_154 rfl (Nat.le_of_ble_eq_true rfl) rfl ?_
          refine g_goto (t := 215) dX4_readText_155 (by decide) ?_
          refine g_iload_n dX4_readText_215 rfl rfl ?_
          refine g_if_eq (t := 231) dX4_readText_216 (by decide) (fun c27 => ?_) (fun c27 => ?_)
          · replace h := z_iff (z_tb0.mp c27) h
            refine g_iconst (v := (0 : Int32)) dX4_readText_231 (by decide) ?_
            cases h
            exact g_iret dX4_readText_232 rfl rfl hq
          · replace h := z_ift (z_tbn.mp c27) h
            refine g_aload_n dX4_readText_219 rfl rfl ?_
            refine g_get (a := 53) (v := .ref 7) dX4_readText_220 f_4_20 sh_53 rfl rfl ?_
            refine g_bipush (v := (33 : Int32)) dX4_readText_223 (by decide) ?_
            obtain ⟨q28, e29, h⟩ := z_bd h
            refine g_callV (a := 5) (as := [.int (33 : Int32)]) (rest := []) (c := mX7_take) (k1 := 3) dX4_readText_225 rfl rfl rfl sh_5 rfl rfl (Nat.le_of_ble_eq_true rfl) (Nat.le_of_ble_eq_true rfl) (by decide) ?_
            refine A_X7_take e29 ?_
            show z_G none 6 mX4_readText 228 [some (.ref 55), some (.int x1), some (.int x2), some (.int (z_tb q25.1))] [.int (z_tb q28.1)] q28.2 Q
            refine g_if_ne (t := 233) dX4_readText_228 (by decide) (fun c30 => ?_) (fun c30 => ?_)
            · replace h := z_ift (z_tbn.mp c30) h
              refine g_iinc (v := x2 + (1 : Int32)) (ls' := [some (.ref 55), some (.int x1), some (.int (x2 + (1 : Int32))), some (.int (z_tb q25.1))]) dX4_readText_233 rfl rfl rfl ?_
              refine g_goto (t := 22) dX4_readText_236 (by decide) ?_
              exact g_sub (z_sub_s (z_sub_s (z_sub_s (z_sub_n z_sub_nil)))) (ih _ _ _ _ _ _ h hq)
            · replace h := z_iff (z_tb0.mp c30) h
              refine g_iconst (v := (0 : Int32)) dX4_readText_231 (by decide) ?_
              cases h
              exact g_iret dX4_readText_232 rfl rfl hq
        replace h := z_iff s24 h
        by_cases s31 : M.1 5 3 = (4 : Int32)
        · replace h := z_ift s31 h
          refine g_top (v := (4 : Int32)) s31 ?_
          refine g_tsIn (off := 112) (t := 158) dX4_readText_46 (by decide) (by decide) (by decide) ?_
          refine g_aload_n dX4_readText_158 rfl rfl ?_
          obtain ⟨q32, e33, h⟩ := z_bd h
          refine g_callV (a := 53) (as := []) (rest := []) (c := mX4_readChest) (k1 := 4) dX4_readText_159 rfl rfl rfl sh_53 rfl rfl (Nat.le_of_ble_eq_true rfl) (Nat.le_of_ble_eq_true rfl) (by decide) ?_
          refine A_X4_readChest e33 ?_
          show z_G none 6 mX4_readText 162 [some (.ref 55), some (.int x1), some (.int x2), none] [.int (z_tb q32.1)] q32.2 Q
          refine g_istore_n (ls' := [some (.ref 55), some (.int x1), some (.int x2), some (.int (z_tb q32.1))]) dX4_readText_162 rfl (Nat.le_of_ble_eq_true rfl) rfl ?_
          refine g_goto (t := 215) dX4_readText_163 (by decide) ?_
          refine g_iload_n dX4_readText_215 rfl rfl ?_
          refine g_if_eq (t := 231) dX4_readText_216 (by decide) (fun c34 => ?_) (fun c34 => ?_)
          · replace h := z_iff (z_tb0.mp c34) h
            refine g_iconst (v := (0 : Int32)) dX4_readText_231 (by decide) ?_
            cases h
            exact g_iret dX4_readText_232 rfl rfl hq
          · replace h := z_ift (z_tbn.mp c34) h
            refine g_aload_n dX4_readText_219 rfl rfl ?_
            refine g_get (a := 53) (v := .ref 7) dX4_readText_220 f_4_20 sh_53 rfl rfl ?_
            refine g_bipush (v := (33 : Int32)) dX4_readText_223 (by decide) ?_
            obtain ⟨q35, e36, h⟩ := z_bd h
            refine g_callV (a := 5) (as := [.int (33 : Int32)]) (rest := []) (c := mX7_take) (k1 := 3) dX4_readText_225 rfl rfl rfl sh_5 rfl rfl (Nat.le_of_ble_eq_true rfl) (Nat.le_of_ble_eq_true rfl) (by decide) ?_
            refine A_X7_take e36 ?_
            show z_G none 6 mX4_readText 228 [some (.ref 55), some (.int x1), some (.int x2), some (.int (z_tb q32.1))] [.int (z_tb q35.1)] q35.2 Q
            refine g_if_ne (t := 233) dX4_readText_228 (by decide) (fun c37 => ?_) (fun c37 => ?_)
            · replace h := z_ift (z_tbn.mp c37) h
              refine g_iinc (v := x2 + (1 : Int32)) (ls' := [some (.ref 55), some (.int x1), some (.int (x2 + (1 : Int32))), some (.int (z_tb q32.1))]) dX4_readText_233 rfl rfl rfl ?_
              refine g_goto (t := 22) dX4_readText_236 (by decide) ?_
              exact g_sub (z_sub_s (z_sub_s (z_sub_s (z_sub_n z_sub_nil)))) (ih _ _ _ _ _ _ h hq)
            · replace h := z_iff (z_tb0.mp c37) h
              refine g_iconst (v := (0 : Int32)) dX4_readText_231 (by decide) ?_
              cases h
              exact g_iret dX4_readText_232 rfl rfl hq
        replace h := z_iff s31 h
        by_cases s38 : M.1 5 3 = (5 : Int32)
        · replace h := z_ift s38 h
          refine g_top (v := (5 : Int32)) s38 ?_
          refine g_tsIn (off := 120) (t := 166) dX4_readText_46 (by decide) (by decide) (by decide) ?_
          refine g_aload_n dX4_readText_166 rfl rfl ?_
          obtain ⟨q39, e40, h⟩ := z_bd h
          refine g_callV (a := 53) (as := []) (rest := []) (c := mX4_readRight) (k1 := 5) dX4_readText_167 rfl rfl rfl sh_53 rfl rfl (Nat.le_of_ble_eq_true rfl) (Nat.le_of_ble_eq_true rfl) (by decide) ?_
          refine A_X4_readRight e40 ?_
          show z_G none 6 mX4_readText 170 [some (.ref 55), some (.int x1), some (.int x2), none] [.int (z_tb q39.1)] q39.2 Q
          refine g_istore_n (ls' := [some (.ref 55), some (.int x1), some (.int x2), some (.int (z_tb q39.1))]) dX4_readText_170 rfl (Nat.le_of_ble_eq_true rfl) rfl ?_
          refine g_goto (t := 215) dX4_readText_171 (by decide) ?_
          refine g_iload_n dX4_readText_215 rfl rfl ?_
          refine g_if_eq (t := 231) dX4_readText_216 (by decide) (fun c41 => ?_) (fun c41 => ?_)
          · replace h := z_iff (z_tb0.mp c41) h
            refine g_iconst (v := (0 : Int32)) dX4_readText_231 (by decide) ?_
            cases h
            exact g_iret dX4_readText_232 rfl rfl hq
          · replace h := z_ift (z_tbn.mp c41) h
            refine g_aload_n dX4_readText_219 rfl rfl ?_
            refine g_get (a := 53) (v := .ref 7) dX4_readText_220 f_4_20 sh_53 rfl rfl ?_
            refine g_bipush (v := (33 : Int32)) dX4_readText_223 (by decide) ?_
            obtain ⟨q42, e43, h⟩ := z_bd h
            refine g_callV (a := 5) (as := [.int (33 : Int32)]) (rest := []) (c := mX7_take) (k1 := 3) dX4_readText_225 rfl rfl rfl sh_5 rfl rfl (Nat.le_of_ble_eq_true rfl) (Nat.le_of_ble_eq_true rfl) (by decide) ?_
            refine A_X7_take e43 ?_
            show z_G none 6 mX4_readText 228 [some (.ref 55), some (.int x1), some (.int x2), some (.int (z_tb q39.1))] [.int (z_tb q42.1)] q42.2 Q
            refine g_if_ne (t := 233) dX4_readText_228 (by decide) (fun c44 => ?_) (fun c44 => ?_)
            · replace h := z_ift (z_tbn.mp c44) h
              refine g_iinc (v := x2 + (1 : Int32)) (ls' := [some (.ref 55), some (.int x1), some (.int (x2 + (1 : Int32))), some (.int (z_tb q39.1))]) dX4_readText_233 rfl rfl rfl ?_
              refine g_goto (t := 22) dX4_readText_236 (by decide) ?_
              exact g_sub (z_sub_s (z_sub_s (z_sub_s (z_sub_n z_sub_nil)))) (ih _ _ _ _ _ _ h hq)
            · replace h := z_iff (z_tb0.mp c44) h
              refine g_iconst (v := (0 : Int32)) dX4_readText_231 (by decide) ?_
              cases h
              exact g_iret dX4_readText_232 rfl rfl hq
        replace h := z_iff s38 h
        by_cases s45 : M.1 5 3 = (6 : Int32)
        · replace h := z_ift s45 h
          refine g_top (v := (6 : Int32)) s45 ?_
          refine g_tsIn (off := 160) (t := 206) dX4_readText_46 (by decide) (by decide) (by decide) ?_
          refine g_aload_n dX4_readText_206 rfl rfl ?_
          refine g_get (a := 53) (v := .ref 7) dX4_readText_207 f_4_20 sh_53 rfl rfl ?_
          refine g_iconst (v := (2 : Int32)) dX4_readText_210 (by decide) ?_
          obtain ⟨q46, e47, h⟩ := z_bd h
          refine g_callV (a := 5) (as := [.int (2 : Int32)]) (rest := []) (c := mX7_fail) (k1 := 0) dX4_readText_211 rfl rfl rfl sh_5 rfl rfl (Nat.le_of_ble_eq_true rfl) (Nat.le_of_ble_eq_true rfl) (by decide) ?_
          refine A_X7_fail e47 ?_
          show z_G none 6 mX4_readText 214 [some (.ref 55), some (.int x1), some (.int x2), none] [.int (z_tb q46.1)] q46.2 Q
          refine g_istore_n (ls' := [some (.ref 55), some (.int x1), some (.int x2), some (.int (z_tb q46.1))]) dX4_readText_214 rfl (Nat.le_of_ble_eq_true rfl) rfl ?_
          refine g_iload_n dX4_readText_215 rfl rfl ?_
          refine g_if_eq (t := 231) dX4_readText_216 (by decide) (fun c48 => ?_) (fun c48 => ?_)
          · replace h := z_iff (z_tb0.mp c48) h
            refine g_iconst (v := (0 : Int32)) dX4_readText_231 (by decide) ?_
            cases h
            exact g_iret dX4_readText_232 rfl rfl hq
          · replace h := z_ift (z_tbn.mp c48) h
            refine g_aload_n dX4_readText_219 rfl rfl ?_
            refine g_get (a := 53) (v := .ref 7) dX4_readText_220 f_4_20 sh_53 rfl rfl ?_
            refine g_bipush (v := (33 : Int32)) dX4_readText_223 (by decide) ?_
            obtain ⟨q49, e50, h⟩ := z_bd h
            refine g_callV (a := 5) (as := [.int (33 : Int32)]) (rest := []) (c := mX7_take) (k1 := 3) dX4_readText_225 rfl rfl rfl sh_5 rfl rfl (Nat.le_of_ble_eq_true rfl) (Nat.le_of_ble_eq_true rfl) (by decide) ?_
            refine A_X7_take e50 ?_
            show z_G none 6 mX4_readText 228 [some (.ref 55), some (.int x1), some (.int x2), some (.int (z_tb q46.1))] [.int (z_tb q49.1)] q49.2 Q
            refine g_if_ne (t := 233) dX4_readText_228 (by decide) (fun c51 => ?_) (fun c51 => ?_)
            · replace h := z_ift (z_tbn.mp c51) h
              refine g_iinc (v := x2 + (1 : Int32)) (ls' := [some (.ref 55), some (.int x1), some (.int (x2 + (1 : Int32))), some (.int (z_tb q46.1))]) dX4_readText_233 rfl rfl rfl ?_
              refine g_goto (t := 22) dX4_readText_236 (by decide) ?_
              exact g_sub (z_sub_s (z_sub_s (z_sub_s (z_sub_n z_sub_nil)))) (ih _ _ _ _ _ _ h hq)
            · replace h := z_iff (z_tb0.mp c51) h
              refine g_iconst (v := (0 : Int32)) dX4_readText_231 (by decide) ?_
              cases h
              exact g_iret dX4_readText_232 rfl rfl hq
        replace h := z_iff s45 h
        by_cases s52 : M.1 5 3 = (7 : Int32)
        · replace h := z_ift s52 h
          refine g_top (v := (7 : Int32)) s52 ?_
          refine g_tsIn (off := 160) (t := 206) dX4_readText_46 (by decide) (by decide) (by decide) ?_
          refine g_aload_n dX4_readText_206 rfl rfl ?_
          refine g_get (a := 53) (v := .ref 7) dX4_readText_207 f_4_20 sh_53 rfl rfl ?_
          refine g_iconst (v := (2 : Int32)) dX4_readText_210 (by decide) ?_
          obtain ⟨q53, e54, h⟩ := z_bd h
          refine g_callV (a := 5) (as := [.int (2 : Int32)]) (rest := []) (c := mX7_fail) (k1 := 0) dX4_readText_211 rfl rfl rfl sh_5 rfl rfl (Nat.le_of_ble_eq_true rfl) (Nat.le_of_ble_eq_true rfl) (by decide) ?_
          refine A_X7_fail e54 ?_
          show z_G none 6 mX4_readText 214 [some (.ref 55), some (.int x1), some (.int x2), none] [.int (z_tb q53.1)] q53.2 Q
          refine g_istore_n (ls' := [some (.ref 55), some (.int x1), some (.int x2), some (.int (z_tb q53.1))]) dX4_readText_214 rfl (Nat.le_of_ble_eq_true rfl) rfl ?_
          refine g_iload_n dX4_readText_215 rfl rfl ?_
          refine g_if_eq (t := 231) dX4_readText_216 (by decide) (fun c55 => ?_) (fun c55 => ?_)
          · replace h := z_iff (z_tb0.mp c55) h
            refine g_iconst (v := (0 : Int32)) dX4_readText_231 (by decide) ?_
            cases h
            exact g_iret dX4_readText_232 rfl rfl hq
          · replace h := z_ift (z_tbn.mp c55) h
            refine g_aload_n dX4_readText_219 rfl rfl ?_
            refine g_get (a := 53) (v := .ref 7) dX4_readText_220 f_4_20 sh_53 rfl rfl ?_
            refine g_bipush (v := (33 : Int32)) dX4_readText_223 (by decide) ?_
            obtain ⟨q56, e57, h⟩ := z_bd h
            refine g_callV (a := 5) (as := [.int (33 : Int32)]) (rest := []) (c := mX7_take) (k1 := 3) dX4_readText_225 rfl rfl rfl sh_5 rfl rfl (Nat.le_of_ble_eq_true rfl) (Nat.le_of_ble_eq_true rfl) (by decide) ?_
            refine A_X7_take e57 ?_
            show z_G none 6 mX4_readText 228 [some (.ref 55), some (.int x1), some (.int x2), some (.int (z_tb q53.1))] [.int (z_tb q56.1)] q56.2 Q
            refine g_if_ne (t := 233) dX4_readText_228 (by decide) (fun c58 => ?_) (fun c58 => ?_)
            · replace h := z_ift (z_tbn.mp c58) h
              refine g_iinc (v := x2 + (1 : Int32)) (ls' := [some (.ref 55), some (.int x1), some (.int (x2 + (1 : Int32))), some (.int (z_tb q53.1))]) dX4_readText_233 rfl rfl rfl ?_
              refine g_goto (t := 22) dX4_readText_236 (by decide) ?_
              exact g_sub (z_sub_s (z_sub_s (z_sub_s (z_sub_n z_sub_nil)))) (ih _ _ _ _ _ _ h hq)
            · replace h := z_iff (z_tb0.mp c58) h
              refine g_iconst (v := (0 : Int32)) dX4_readText_231 (by decide) ?_
              cases h
              exact g_iret dX4_readText_232 rfl rfl hq
        replace h := z_iff s52 h
        by_cases s59 : M.1 5 3 = (8 : Int32)
        · replace h := z_ift s59 h
          refine g_top (v := (8 : Int32)) s59 ?_
          refine g_tsIn (off := 128) (t := 174) dX4_readText_46 (by decide) (by decide) (by decide) ?_
          refine g_aload_n dX4_readText_174 rfl rfl ?_
          obtain ⟨q60, e61, h⟩ := z_bd h
          refine g_callV (a := 53) (as := []) (rest := []) (c := mX4_readDebt) (k1 := 4) dX4_readText_175 rfl rfl rfl sh_53 rfl rfl (Nat.le_of_ble_eq_true rfl) (Nat.le_of_ble_eq_true rfl) (by decide) ?_
          refine A_X4_readDebt e61 ?_
          show z_G none 6 mX4_readText 178 [some (.ref 55), some (.int x1), some (.int x2), none] [.int (z_tb q60.1)] q60.2 Q
          refine g_istore_n (ls' := [some (.ref 55), some (.int x1), some (.int x2), some (.int (z_tb q60.1))]) dX4_readText_178 rfl (Nat.le_of_ble_eq_true rfl) rfl ?_
          refine g_goto (t := 215) dX4_readText_179 (by decide) ?_
          refine g_iload_n dX4_readText_215 rfl rfl ?_
          refine g_if_eq (t := 231) dX4_readText_216 (by decide) (fun c62 => ?_) (fun c62 => ?_)
          · replace h := z_iff (z_tb0.mp c62) h
            refine g_iconst (v := (0 : Int32)) dX4_readText_231 (by decide) ?_
            cases h
            exact g_iret dX4_readText_232 rfl rfl hq
          · replace h := z_ift (z_tbn.mp c62) h
            refine g_aload_n dX4_readText_219 rfl rfl ?_
            refine g_get (a := 53) (v := .ref 7) dX4_readText_220 f_4_20 sh_53 rfl rfl ?_
            refine g_bipush (v := (33 : Int32)) dX4_readText_223 (by decide) ?_
            obtain ⟨q63, e64, h⟩ := z_bd h
            refine g_callV (a := 5) (as := [.int (33 : Int32)]) (rest := []) (c := mX7_take) (k1 := 3) dX4_readText_225 rfl rfl rfl sh_5 rfl rfl (Nat.le_of_ble_eq_true rfl) (Nat.le_of_ble_eq_true rfl) (by decide) ?_
            refine A_X7_take e64 ?_
            show z_G none 6 mX4_readText 228 [some (.ref 55), some (.int x1), some (.int x2), some (.int (z_tb q60.1))] [.int (z_tb q63.1)] q63.2 Q
            refine g_if_ne (t := 233) dX4_readText_228 (by decide) (fun c65 => ?_) (fun c65 => ?_)
            · replace h := z_ift (z_tbn.mp c65) h
              refine g_iinc (v := x2 + (1 : Int32)) (ls' := [some (.ref 55), some (.int x1), some (.int (x2 + (1 : Int32))), some (.int (z_tb q60.1))]) dX4_readText_233 rfl rfl rfl ?_
              refine g_goto (t := 22) dX4_readText_236 (by decide) ?_
              exact g_sub (z_sub_s (z_sub_s (z_sub_s (z_sub_n z_sub_nil)))) (ih _ _ _ _ _ _ h hq)
            · replace h := z_iff (z_tb0.mp c65) h
              refine g_iconst (v := (0 : Int32)) dX4_readText_231 (by decide) ?_
              cases h
              exact g_iret dX4_readText_232 rfl rfl hq
        replace h := z_iff s59 h
        by_cases s66 : M.1 5 3 = (9 : Int32)
        · replace h := z_ift s66 h
          refine g_top (v := (9 : Int32)) s66 ?_
          refine g_tsIn (off := 160) (t := 206) dX4_readText_46 (by decide) (by decide) (by decide) ?_
          refine g_aload_n dX4_readText_206 rfl rfl ?_
          refine g_get (a := 53) (v := .ref 7) dX4_readText_207 f_4_20 sh_53 rfl rfl ?_
          refine g_iconst (v := (2 : Int32)) dX4_readText_210 (by decide) ?_
          obtain ⟨q67, e68, h⟩ := z_bd h
          refine g_callV (a := 5) (as := [.int (2 : Int32)]) (rest := []) (c := mX7_fail) (k1 := 0) dX4_readText_211 rfl rfl rfl sh_5 rfl rfl (Nat.le_of_ble_eq_true rfl) (Nat.le_of_ble_eq_true rfl) (by decide) ?_
          refine A_X7_fail e68 ?_
          show z_G none 6 mX4_readText 214 [some (.ref 55), some (.int x1), some (.int x2), none] [.int (z_tb q67.1)] q67.2 Q
          refine g_istore_n (ls' := [some (.ref 55), some (.int x1), some (.int x2), some (.int (z_tb q67.1))]) dX4_readText_214 rfl (Nat.le_of_ble_eq_true rfl) rfl ?_
          refine g_iload_n dX4_readText_215 rfl rfl ?_
          refine g_if_eq (t := 231) dX4_readText_216 (by decide) (fun c69 => ?_) (fun c69 => ?_)
          · replace h := z_iff (z_tb0.mp c69) h
            refine g_iconst (v := (0 : Int32)) dX4_readText_231 (by decide) ?_
            cases h
            exact g_iret dX4_readText_232 rfl rfl hq
          · replace h := z_ift (z_tbn.mp c69) h
            refine g_aload_n dX4_readText_219 rfl rfl ?_
            refine g_get (a := 53) (v := .ref 7) dX4_readText_220 f_4_20 sh_53 rfl rfl ?_
            refine g_bipush (v := (33 : Int32)) dX4_readText_223 (by decide) ?_
            obtain ⟨q70, e71, h⟩ := z_bd h
            refine g_callV (a := 5) (as := [.int (33 : Int32)]) (rest := []) (c := mX7_take) (k1 := 3) dX4_readText_225 rfl rfl rfl sh_5 rfl rfl (Nat.le_of_ble_eq_true rfl) (Nat.le_of_ble_eq_true rfl) (by decide) ?_
            refine A_X7_take e71 ?_
            show z_G none 6 mX4_readText 228 [some (.ref 55), some (.int x1), some (.int x2), some (.int (z_tb q67.1))] [.int (z_tb q70.1)] q70.2 Q
            refine g_if_ne (t := 233) dX4_readText_228 (by decide) (fun c72 => ?_) (fun c72 => ?_)
            · replace h := z_ift (z_tbn.mp c72) h
              refine g_iinc (v := x2 + (1 : Int32)) (ls' := [some (.ref 55), some (.int x1), some (.int (x2 + (1 : Int32))), some (.int (z_tb q67.1))]) dX4_readText_233 rfl rfl rfl ?_
              refine g_goto (t := 22) dX4_readText_236 (by decide) ?_
              exact g_sub (z_sub_s (z_sub_s (z_sub_s (z_sub_n z_sub_nil)))) (ih _ _ _ _ _ _ h hq)
            · replace h := z_iff (z_tb0.mp c72) h
              refine g_iconst (v := (0 : Int32)) dX4_readText_231 (by decide) ?_
              cases h
              exact g_iret dX4_readText_232 rfl rfl hq
        replace h := z_iff s66 h
        by_cases s73 : M.1 5 3 = (10 : Int32)
        · replace h := z_ift s73 h
          refine g_top (v := (10 : Int32)) s73 ?_
          refine g_tsIn (off := 160) (t := 206) dX4_readText_46 (by decide) (by decide) (by decide) ?_
          refine g_aload_n dX4_readText_206 rfl rfl ?_
          refine g_get (a := 53) (v := .ref 7) dX4_readText_207 f_4_20 sh_53 rfl rfl ?_
          refine g_iconst (v := (2 : Int32)) dX4_readText_210 (by decide) ?_
          obtain ⟨q74, e75, h⟩ := z_bd h
          refine g_callV (a := 5) (as := [.int (2 : Int32)]) (rest := []) (c := mX7_fail) (k1 := 0) dX4_readText_211 rfl rfl rfl sh_5 rfl rfl (Nat.le_of_ble_eq_true rfl) (Nat.le_of_ble_eq_true rfl) (by decide) ?_
          refine A_X7_fail e75 ?_
          show z_G none 6 mX4_readText 214 [some (.ref 55), some (.int x1), some (.int x2), none] [.int (z_tb q74.1)] q74.2 Q
          refine g_istore_n (ls' := [some (.ref 55), some (.int x1), some (.int x2), some (.int (z_tb q74.1))]) dX4_readText_214 rfl (Nat.le_of_ble_eq_true rfl) rfl ?_
          refine g_iload_n dX4_readText_215 rfl rfl ?_
          refine g_if_eq (t := 231) dX4_readText_216 (by decide) (fun c76 => ?_) (fun c76 => ?_)
          · replace h := z_iff (z_tb0.mp c76) h
            refine g_iconst (v := (0 : Int32)) dX4_readText_231 (by decide) ?_
            cases h
            exact g_iret dX4_readText_232 rfl rfl hq
          · replace h := z_ift (z_tbn.mp c76) h
            refine g_aload_n dX4_readText_219 rfl rfl ?_
            refine g_get (a := 53) (v := .ref 7) dX4_readText_220 f_4_20 sh_53 rfl rfl ?_
            refine g_bipush (v := (33 : Int32)) dX4_readText_223 (by decide) ?_
            obtain ⟨q77, e78, h⟩ := z_bd h
            refine g_callV (a := 5) (as := [.int (33 : Int32)]) (rest := []) (c := mX7_take) (k1 := 3) dX4_readText_225 rfl rfl rfl sh_5 rfl rfl (Nat.le_of_ble_eq_true rfl) (Nat.le_of_ble_eq_true rfl) (by decide) ?_
            refine A_X7_take e78 ?_
            show z_G none 6 mX4_readText 228 [some (.ref 55), some (.int x1), some (.int x2), some (.int (z_tb q74.1))] [.int (z_tb q77.1)] q77.2 Q
            refine g_if_ne (t := 233) dX4_readText_228 (by decide) (fun c79 => ?_) (fun c79 => ?_)
            · replace h := z_ift (z_tbn.mp c79) h
              refine g_iinc (v := x2 + (1 : Int32)) (ls' := [some (.ref 55), some (.int x1), some (.int (x2 + (1 : Int32))), some (.int (z_tb q74.1))]) dX4_readText_233 rfl rfl rfl ?_
              refine g_goto (t := 22) dX4_readText_236 (by decide) ?_
              exact g_sub (z_sub_s (z_sub_s (z_sub_s (z_sub_n z_sub_nil)))) (ih _ _ _ _ _ _ h hq)
            · replace h := z_iff (z_tb0.mp c79) h
              refine g_iconst (v := (0 : Int32)) dX4_readText_231 (by decide) ?_
              cases h
              exact g_iret dX4_readText_232 rfl rfl hq
        replace h := z_iff s73 h
        by_cases s80 : M.1 5 3 = (11 : Int32)
        · replace h := z_ift s80 h
          refine g_top (v := (11 : Int32)) s80 ?_
          refine g_tsIn (off := 136) (t := 182) dX4_readText_46 (by decide) (by decide) (by decide) ?_
          refine g_aload_n dX4_readText_182 rfl rfl ?_
          obtain ⟨q81, e82, h⟩ := z_bd h
          refine g_callV (a := 53) (as := []) (rest := []) (c := mX4_readAsk) (k1 := 3) dX4_readText_183 rfl rfl rfl sh_53 rfl rfl (Nat.le_of_ble_eq_true rfl) (Nat.le_of_ble_eq_true rfl) (by decide) ?_
          refine A_X4_readAsk e82 ?_
          show z_G none 6 mX4_readText 186 [some (.ref 55), some (.int x1), some (.int x2), none] [.int (z_tb q81.1)] q81.2 Q
          refine g_istore_n (ls' := [some (.ref 55), some (.int x1), some (.int x2), some (.int (z_tb q81.1))]) dX4_readText_186 rfl (Nat.le_of_ble_eq_true rfl) rfl ?_
          refine g_goto (t := 215) dX4_readText_187 (by decide) ?_
          refine g_iload_n dX4_readText_215 rfl rfl ?_
          refine g_if_eq (t := 231) dX4_readText_216 (by decide) (fun c83 => ?_) (fun c83 => ?_)
          · replace h := z_iff (z_tb0.mp c83) h
            refine g_iconst (v := (0 : Int32)) dX4_readText_231 (by decide) ?_
            cases h
            exact g_iret dX4_readText_232 rfl rfl hq
          · replace h := z_ift (z_tbn.mp c83) h
            refine g_aload_n dX4_readText_219 rfl rfl ?_
            refine g_get (a := 53) (v := .ref 7) dX4_readText_220 f_4_20 sh_53 rfl rfl ?_
            refine g_bipush (v := (33 : Int32)) dX4_readText_223 (by decide) ?_
            obtain ⟨q84, e85, h⟩ := z_bd h
            refine g_callV (a := 5) (as := [.int (33 : Int32)]) (rest := []) (c := mX7_take) (k1 := 3) dX4_readText_225 rfl rfl rfl sh_5 rfl rfl (Nat.le_of_ble_eq_true rfl) (Nat.le_of_ble_eq_true rfl) (by decide) ?_
            refine A_X7_take e85 ?_
            show z_G none 6 mX4_readText 228 [some (.ref 55), some (.int x1), some (.int x2), some (.int (z_tb q81.1))] [.int (z_tb q84.1)] q84.2 Q
            refine g_if_ne (t := 233) dX4_readText_228 (by decide) (fun c86 => ?_) (fun c86 => ?_)
            · replace h := z_ift (z_tbn.mp c86) h
              refine g_iinc (v := x2 + (1 : Int32)) (ls' := [some (.ref 55), some (.int x1), some (.int (x2 + (1 : Int32))), some (.int (z_tb q81.1))]) dX4_readText_233 rfl rfl rfl ?_
              refine g_goto (t := 22) dX4_readText_236 (by decide) ?_
              exact g_sub (z_sub_s (z_sub_s (z_sub_s (z_sub_n z_sub_nil)))) (ih _ _ _ _ _ _ h hq)
            · replace h := z_iff (z_tb0.mp c86) h
              refine g_iconst (v := (0 : Int32)) dX4_readText_231 (by decide) ?_
              cases h
              exact g_iret dX4_readText_232 rfl rfl hq
        replace h := z_iff s80 h
        by_cases s87 : M.1 5 3 = (12 : Int32)
        · replace h := z_ift s87 h
          refine g_top (v := (12 : Int32)) s87 ?_
          refine g_tsIn (off := 144) (t := 190) dX4_readText_46 (by decide) (by decide) (by decide) ?_
          refine g_aload_n dX4_readText_190 rfl rfl ?_
          obtain ⟨q88, e89, h⟩ := z_bd h
          refine g_callV (a := 53) (as := []) (rest := []) (c := mX4_readClause) (k1 := 4) dX4_readText_191 rfl rfl rfl sh_53 rfl rfl (Nat.le_of_ble_eq_true rfl) (Nat.le_of_ble_eq_true rfl) (by decide) ?_
          refine A_X4_readClause e89 ?_
          show z_G none 6 mX4_readText 194 [some (.ref 55), some (.int x1), some (.int x2), none] [.int (z_tb q88.1)] q88.2 Q
          refine g_istore_n (ls' := [some (.ref 55), some (.int x1), some (.int x2), some (.int (z_tb q88.1))]) dX4_readText_194 rfl (Nat.le_of_ble_eq_true rfl) rfl ?_
          refine g_goto (t := 215) dX4_readText_195 (by decide) ?_
          refine g_iload_n dX4_readText_215 rfl rfl ?_
          refine g_if_eq (t := 231) dX4_readText_216 (by decide) (fun c90 => ?_) (fun c90 => ?_)
          · replace h := z_iff (z_tb0.mp c90) h
            refine g_iconst (v := (0 : Int32)) dX4_readText_231 (by decide) ?_
            cases h
            exact g_iret dX4_readText_232 rfl rfl hq
          · replace h := z_ift (z_tbn.mp c90) h
            refine g_aload_n dX4_readText_219 rfl rfl ?_
            refine g_get (a := 53) (v := .ref 7) dX4_readText_220 f_4_20 sh_53 rfl rfl ?_
            refine g_bipush (v := (33 : Int32)) dX4_readText_223 (by decide) ?_
            obtain ⟨q91, e92, h⟩ := z_bd h
            refine g_callV (a := 5) (as := [.int (33 : Int32)]) (rest := []) (c := mX7_take) (k1 := 3) dX4_readText_225 rfl rfl rfl sh_5 rfl rfl (Nat.le_of_ble_eq_true rfl) (Nat.le_of_ble_eq_true rfl) (by decide) ?_
            refine A_X7_take e92 ?_
            show z_G none 6 mX4_readText 228 [some (.ref 55), some (.int x1), some (.int x2), some (.int (z_tb q88.1))] [.int (z_tb q91.1)] q91.2 Q
            refine g_if_ne (t := 233) dX4_readText_228 (by decide) (fun c93 => ?_) (fun c93 => ?_)
            · replace h := z_ift (z_tbn.mp c93) h
              refine g_iinc (v := x2 + (1 : Int32)) (ls' := [some (.ref 55), some (.int x1), some (.int (x2 + (1 : Int32))), some (.int (z_tb q88.1))]) dX4_readText_233 rfl rfl rfl ?_
              refine g_goto (t := 22) dX4_readText_236 (by decide) ?_
              exact g_sub (z_sub_s (z_sub_s (z_sub_s (z_sub_n z_sub_nil)))) (ih _ _ _ _ _ _ h hq)
            · replace h := z_iff (z_tb0.mp c93) h
              refine g_iconst (v := (0 : Int32)) dX4_readText_231 (by decide) ?_
              cases h
              exact g_iret dX4_readText_232 rfl rfl hq
        replace h := z_iff s87 h
        by_cases s94 : M.1 5 3 = (13 : Int32)
        · replace h := z_ift s94 h
          refine g_top (v := (13 : Int32)) s94 ?_
          refine g_tsIn (off := 160) (t := 206) dX4_readText_46 (by decide) (by decide) (by decide) ?_
          refine g_aload_n dX4_readText_206 rfl rfl ?_
          refine g_get (a := 53) (v := .ref 7) dX4_readText_207 f_4_20 sh_53 rfl rfl ?_
          refine g_iconst (v := (2 : Int32)) dX4_readText_210 (by decide) ?_
          obtain ⟨q95, e96, h⟩ := z_bd h
          refine g_callV (a := 5) (as := [.int (2 : Int32)]) (rest := []) (c := mX7_fail) (k1 := 0) dX4_readText_211 rfl rfl rfl sh_5 rfl rfl (Nat.le_of_ble_eq_true rfl) (Nat.le_of_ble_eq_true rfl) (by decide) ?_
          refine A_X7_fail e96 ?_
          show z_G none 6 mX4_readText 214 [some (.ref 55), some (.int x1), some (.int x2), none] [.int (z_tb q95.1)] q95.2 Q
          refine g_istore_n (ls' := [some (.ref 55), some (.int x1), some (.int x2), some (.int (z_tb q95.1))]) dX4_readText_214 rfl (Nat.le_of_ble_eq_true rfl) rfl ?_
          refine g_iload_n dX4_readText_215 rfl rfl ?_
          refine g_if_eq (t := 231) dX4_readText_216 (by decide) (fun c97 => ?_) (fun c97 => ?_)
          · replace h := z_iff (z_tb0.mp c97) h
            refine g_iconst (v := (0 : Int32)) dX4_readText_231 (by decide) ?_
            cases h
            exact g_iret dX4_readText_232 rfl rfl hq
          · replace h := z_ift (z_tbn.mp c97) h
            refine g_aload_n dX4_readText_219 rfl rfl ?_
            refine g_get (a := 53) (v := .ref 7) dX4_readText_220 f_4_20 sh_53 rfl rfl ?_
            refine g_bipush (v := (33 : Int32)) dX4_readText_223 (by decide) ?_
            obtain ⟨q98, e99, h⟩ := z_bd h
            refine g_callV (a := 5) (as := [.int (33 : Int32)]) (rest := []) (c := mX7_take) (k1 := 3) dX4_readText_225 rfl rfl rfl sh_5 rfl rfl (Nat.le_of_ble_eq_true rfl) (Nat.le_of_ble_eq_true rfl) (by decide) ?_
            refine A_X7_take e99 ?_
            show z_G none 6 mX4_readText 228 [some (.ref 55), some (.int x1), some (.int x2), some (.int (z_tb q95.1))] [.int (z_tb q98.1)] q98.2 Q
            refine g_if_ne (t := 233) dX4_readText_228 (by decide) (fun c100 => ?_) (fun c100 => ?_)
            · replace h := z_ift (z_tbn.mp c100) h
              refine g_iinc (v := x2 + (1 : Int32)) (ls' := [some (.ref 55), some (.int x1), some (.int (x2 + (1 : Int32))), some (.int (z_tb q95.1))]) dX4_readText_233 rfl rfl rfl ?_
              refine g_goto (t := 22) dX4_readText_236 (by decide) ?_
              exact g_sub (z_sub_s (z_sub_s (z_sub_s (z_sub_n z_sub_nil)))) (ih _ _ _ _ _ _ h hq)
            · replace h := z_iff (z_tb0.mp c100) h
              refine g_iconst (v := (0 : Int32)) dX4_readText_231 (by decide) ?_
              cases h
              exact g_iret dX4_readText_232 rfl rfl hq
        replace h := z_iff s94 h
        by_cases s101 : M.1 5 3 = (14 : Int32)
        · replace h := z_ift s101 h
          refine g_top (v := (14 : Int32)) s101 ?_
          refine g_tsIn (off := 152) (t := 198) dX4_readText_46 (by decide) (by decide) (by decide) ?_
          refine g_aload_n dX4_readText_198 rfl rfl ?_
          obtain ⟨q102, e103, h⟩ := z_bd h
          refine g_callV (a := 53) (as := []) (rest := []) (c := mX4_readWitness) (k1 := 4) dX4_readText_199 rfl rfl rfl sh_53 rfl rfl (Nat.le_of_ble_eq_true rfl) (Nat.le_of_ble_eq_true rfl) (by decide) ?_
          refine A_X4_readWitness e103 ?_
          show z_G none 6 mX4_readText 202 [some (.ref 55), some (.int x1), some (.int x2), none] [.int (z_tb q102.1)] q102.2 Q
          refine g_istore_n (ls' := [some (.ref 55), some (.int x1), some (.int x2), some (.int (z_tb q102.1))]) dX4_readText_202 rfl (Nat.le_of_ble_eq_true rfl) rfl ?_
          refine g_goto (t := 215) dX4_readText_203 (by decide) ?_
          refine g_iload_n dX4_readText_215 rfl rfl ?_
          refine g_if_eq (t := 231) dX4_readText_216 (by decide) (fun c104 => ?_) (fun c104 => ?_)
          · replace h := z_iff (z_tb0.mp c104) h
            refine g_iconst (v := (0 : Int32)) dX4_readText_231 (by decide) ?_
            cases h
            exact g_iret dX4_readText_232 rfl rfl hq
          · replace h := z_ift (z_tbn.mp c104) h
            refine g_aload_n dX4_readText_219 rfl rfl ?_
            refine g_get (a := 53) (v := .ref 7) dX4_readText_220 f_4_20 sh_53 rfl rfl ?_
            refine g_bipush (v := (33 : Int32)) dX4_readText_223 (by decide) ?_
            obtain ⟨q105, e106, h⟩ := z_bd h
            refine g_callV (a := 5) (as := [.int (33 : Int32)]) (rest := []) (c := mX7_take) (k1 := 3) dX4_readText_225 rfl rfl rfl sh_5 rfl rfl (Nat.le_of_ble_eq_true rfl) (Nat.le_of_ble_eq_true rfl) (by decide) ?_
            refine A_X7_take e106 ?_
            show z_G none 6 mX4_readText 228 [some (.ref 55), some (.int x1), some (.int x2), some (.int (z_tb q102.1))] [.int (z_tb q105.1)] q105.2 Q
            refine g_if_ne (t := 233) dX4_readText_228 (by decide) (fun c107 => ?_) (fun c107 => ?_)
            · replace h := z_ift (z_tbn.mp c107) h
              refine g_iinc (v := x2 + (1 : Int32)) (ls' := [some (.ref 55), some (.int x1), some (.int (x2 + (1 : Int32))), some (.int (z_tb q102.1))]) dX4_readText_233 rfl rfl rfl ?_
              refine g_goto (t := 22) dX4_readText_236 (by decide) ?_
              exact g_sub (z_sub_s (z_sub_s (z_sub_s (z_sub_n z_sub_nil)))) (ih _ _ _ _ _ _ h hq)
            · replace h := z_iff (z_tb0.mp c107) h
              refine g_iconst (v := (0 : Int32)) dX4_readText_231 (by decide) ?_
              cases h
              exact g_iret dX4_readText_232 rfl rfl hq
        replace h := z_iff s101 h
        refine g_tsOut (t := 206) dX4_readText_46 (by have t0 := z_neL (n := 0) (by decide) s3; have t1 := z_neL (n := 1) (by decide) s10; have t2 := z_neL (n := 2) (by decide) s17; have t3 := z_neL (n := 3) (by decide) s24; have t4 := z_neL (n := 4) (by decide) s31; have t5 := z_neL (n := 5) (by decide) s38; have t6 := z_neL (n := 6) (by decide) s45; have t7 := z_neL (n := 7) (by decide) s52; have t8 := z_neL (n := 8) (by decide) s59; have t9 := z_neL (n := 9) (by decide) s66; have t10 := z_neL (n := 10) (by decide) s73; have t11 := z_neL (n := 11) (by decide) s80; have t12 := z_neL (n := 12) (by decide) s87; have t13 := z_neL (n := 13) (by decide) s94; have t14 := z_neL (n := 14) (by decide) s101; omega) (by decide) ?_
        refine g_aload_n dX4_readText_206 rfl rfl ?_
        refine g_get (a := 53) (v := .ref 7) dX4_readText_207 f_4_20 sh_53 rfl rfl ?_
        refine g_iconst (v := (2 : Int32)) dX4_readText_210 (by decide) ?_
        obtain ⟨q108, e109, h⟩ := z_bd h
        refine g_callV (a := 5) (as := [.int (2 : Int32)]) (rest := []) (c := mX7_fail) (k1 := 0) dX4_readText_211 rfl rfl rfl sh_5 rfl rfl (Nat.le_of_ble_eq_true rfl) (Nat.le_of_ble_eq_true rfl) (by decide) ?_
        refine A_X7_fail e109 ?_
        show z_G none 6 mX4_readText 214 [some (.ref 55), some (.int x1), some (.int x2), none] [.int (z_tb q108.1)] q108.2 Q
        refine g_istore_n (ls' := [some (.ref 55), some (.int x1), some (.int x2), some (.int (z_tb q108.1))]) dX4_readText_214 rfl (Nat.le_of_ble_eq_true rfl) rfl ?_
        refine g_iload_n dX4_readText_215 rfl rfl ?_
        refine g_if_eq (t := 231) dX4_readText_216 (by decide) (fun c110 => ?_) (fun c110 => ?_)
        · replace h := z_iff (z_tb0.mp c110) h
          refine g_iconst (v := (0 : Int32)) dX4_readText_231 (by decide) ?_
          cases h
          exact g_iret dX4_readText_232 rfl rfl hq
        · replace h := z_ift (z_tbn.mp c110) h
          refine g_aload_n dX4_readText_219 rfl rfl ?_
          refine g_get (a := 53) (v := .ref 7) dX4_readText_220 f_4_20 sh_53 rfl rfl ?_
          refine g_bipush (v := (33 : Int32)) dX4_readText_223 (by decide) ?_
          obtain ⟨q111, e112, h⟩ := z_bd h
          refine g_callV (a := 5) (as := [.int (33 : Int32)]) (rest := []) (c := mX7_take) (k1 := 3) dX4_readText_225 rfl rfl rfl sh_5 rfl rfl (Nat.le_of_ble_eq_true rfl) (Nat.le_of_ble_eq_true rfl) (by decide) ?_
          refine A_X7_take e112 ?_
          show z_G none 6 mX4_readText 228 [some (.ref 55), some (.int x1), some (.int x2), some (.int (z_tb q108.1))] [.int (z_tb q111.1)] q111.2 Q
          refine g_if_ne (t := 233) dX4_readText_228 (by decide) (fun c113 => ?_) (fun c113 => ?_)
          · replace h := z_ift (z_tbn.mp c113) h
            refine g_iinc (v := x2 + (1 : Int32)) (ls' := [some (.ref 55), some (.int x1), some (.int (x2 + (1 : Int32))), some (.int (z_tb q108.1))]) dX4_readText_233 rfl rfl rfl ?_
            refine g_goto (t := 22) dX4_readText_236 (by decide) ?_
            exact g_sub (z_sub_s (z_sub_s (z_sub_s (z_sub_n z_sub_nil)))) (ih _ _ _ _ _ _ h hq)
          · replace h := z_iff (z_tb0.mp c113) h
            refine g_iconst (v := (0 : Int32)) dX4_readText_231 (by decide) ?_
            cases h
            exact g_iret dX4_readText_232 rfl rfl hq
def F_X4_readText (w : Nat) (M : z_Mem) (a1 : Int32) : Option (Bool × z_Mem) :=
  (F_X3_beginAnew w M 30).bind fun q114 =>
  (F_X7_open w (z_wI q114.2 53 4 (0 : Int32)) a1).bind fun q116 =>
  L_X4_readText w w q116.2 a1 (0 : Int32)
set_option maxHeartbeats 4000000 in
theorem A_X4_readText {w : Nat} {M : z_Mem} {a1 : Int32} {r : Bool} {M' : z_Mem} {Q : Option Value → z_Mem → Prop} (h : F_X4_readText w M a1 = some (r, M')) (hq : Q (some (.int (z_tb r))) M') : z_Cl 6 mX4_readText [.ref 55, .int a1] M Q := by
  refine g_in (ls := [some (.ref 55), some (.int a1), none, none]) rfl ?_
  unfold F_X4_readText at h
  refine g_aload_n dX4_readText_0 rfl rfl ?_
  refine g_get (a := 53) (v := .ref 32) dX4_readText_1 f_4_24 sh_53 rfl rfl ?_
  obtain ⟨q114, e115, h⟩ := z_bd h
  refine g_callV (a := 30) (as := []) (rest := []) (c := mX3_beginAnew) (k1 := 1) dX4_readText_4 rfl rfl rfl sh_30 rfl rfl (Nat.le_of_ble_eq_true rfl) (Nat.le_of_ble_eq_true rfl) (by decide) ?_
  refine A_X3_beginAnew z_par_30 e115 ?_
  show z_G none 6 mX4_readText 7 [some (.ref 55), some (.int a1), none, none] [] q114.2 Q
  refine g_aload_n dX4_readText_7 rfl rfl ?_
  refine g_iconst (v := (0 : Int32)) dX4_readText_8 (by decide) ?_
  refine g_putI (a := 53) dX4_readText_9 f_4_33 sh_53 rfl rfl rfl ?_
  refine g_aload_n dX4_readText_12 rfl rfl ?_
  refine g_get (a := 53) (v := .ref 7) dX4_readText_13 f_4_20 sh_53 rfl rfl ?_
  refine g_iload_n dX4_readText_16 rfl rfl ?_
  obtain ⟨q116, e117, h⟩ := z_bd h
  refine g_callV (a := 5) (as := [.int a1]) (rest := []) (c := mX7_open) (k1 := 3) dX4_readText_17 rfl rfl rfl sh_5 rfl rfl (Nat.le_of_ble_eq_true rfl) (Nat.le_of_ble_eq_true rfl) (by decide) ?_
  refine A_X7_open e117 ?_
  show z_G none 6 mX4_readText 20 [some (.ref 55), some (.int a1), none, none] [] q116.2 Q
  refine g_iconst (v := (0 : Int32)) dX4_readText_20 (by decide) ?_
  refine g_istore_n (ls' := [some (.ref 55), some (.int a1), some (.int (0 : Int32)), none]) dX4_readText_21 rfl (Nat.le_of_ble_eq_true rfl) rfl ?_
  exact g_sub (z_sub_s (z_sub_s (z_sub_s (z_sub_n z_sub_nil)))) ((AL_X4_readText (w := w) w) _ _ _ _ _ _ h hq)
theorem dX5_bearingAt_0 : decode cX5_bearingAt 0 = .ok (.iload_n 0, 1) := by decide +kernel
theorem dX5_bearingAt_1 : decode cX5_bearingAt 1 = .ok (.bipush 12, 2) := by decide +kernel
theorem dX5_bearingAt_3 : decode cX5_bearingAt 3 = .ok (.imul, 1) := by decide +kernel
theorem dX5_bearingAt_4 : decode cX5_bearingAt 4 = .ok (.iload_n 1, 1) := by decide +kernel
theorem dX5_bearingAt_5 : decode cX5_bearingAt 5 = .ok (.iadd, 1) := by decide +kernel
theorem dX5_bearingAt_6 : decode cX5_bearingAt 6 = .ok (.iconst 2, 1) := by decide +kernel
theorem dX5_bearingAt_7 : decode cX5_bearingAt 7 = .ok (.imul, 1) := by decide +kernel
theorem dX5_bearingAt_8 : decode cX5_bearingAt 8 = .ok (.iload_n 2, 1) := by decide +kernel
theorem dX5_bearingAt_9 : decode cX5_bearingAt 9 = .ok (.iadd, 1) := by decide +kernel
theorem dX5_bearingAt_10 : decode cX5_bearingAt 10 = .ok (.ireturn, 1) := by decide +kernel
def F_X5_bearingAt (w : Nat) (M : z_Mem) (a0 : Int32) (a1 : Int32) (a2 : Int32) : Option (Int32 × z_Mem) :=
  some ((((a0 * (12 : Int32)) + a1) * (2 : Int32)) + a2, M)
set_option maxHeartbeats 4000000 in
theorem A_X5_bearingAt {w : Nat} {M : z_Mem} {a0 : Int32} {a1 : Int32} {a2 : Int32} {r : Int32} {M' : z_Mem} {Q : Option Value → z_Mem → Prop} (h : F_X5_bearingAt w M a0 a1 a2 = some (r, M')) (hq : Q (some (.int r)) M') : z_Cl 0 mX5_bearingAt [.int a0, .int a1, .int a2] M Q := by
  refine g_in (ls := [some (.int a0), some (.int a1), some (.int a2)]) rfl ?_
  unfold F_X5_bearingAt at h
  refine g_iload_n dX5_bearingAt_0 rfl rfl ?_
  refine g_bipush (v := (12 : Int32)) dX5_bearingAt_1 (by decide) ?_
  refine g_imul dX5_bearingAt_3 ?_
  refine g_iload_n dX5_bearingAt_4 rfl rfl ?_
  refine g_iadd dX5_bearingAt_5 ?_
  refine g_iconst (v := (2 : Int32)) dX5_bearingAt_6 (by decide) ?_
  refine g_imul dX5_bearingAt_7 ?_
  refine g_iload_n dX5_bearingAt_8 rfl rfl ?_
  refine g_iadd dX5_bearingAt_9 ?_
  cases h
  exact g_iret dX5_bearingAt_10 rfl rfl hq
theorem dX5_weighRight_0 : decode cX5_weighRight 0 = .ok (.aload_n 1, 1) := by decide +kernel
theorem dX5_weighRight_1 : decode cX5_weighRight 1 = .ok (.getfield 63, 3) := by decide +kernel
theorem dX5_weighRight_4 : decode cX5_weighRight 4 = .ok (.iload_n 2, 1) := by decide +kernel
theorem dX5_weighRight_5 : decode cX5_weighRight 5 = .ok (.iaload, 1) := by decide +kernel
theorem dX5_weighRight_6 : decode cX5_weighRight 6 = .ok (.istore_n 3, 1) := by decide +kernel
theorem dX5_weighRight_7 : decode cX5_weighRight 7 = .ok (.aload_n 1, 1) := by decide +kernel
theorem dX5_weighRight_8 : decode cX5_weighRight 8 = .ok (.getfield 66, 3) := by decide +kernel
theorem dX5_weighRight_11 : decode cX5_weighRight 11 = .ok (.iload_n 2, 1) := by decide +kernel
theorem dX5_weighRight_12 : decode cX5_weighRight 12 = .ok (.iaload, 1) := by decide +kernel
theorem dX5_weighRight_13 : decode cX5_weighRight 13 = .ok (.iconst 1, 1) := by decide +kernel
theorem dX5_weighRight_14 : decode cX5_weighRight 14 = .ok (.if_icmp .ne 9, 3) := by decide +kernel
theorem dX5_weighRight_17 : decode cX5_weighRight 17 = .ok (.iconst 1, 1) := by decide +kernel
theorem dX5_weighRight_18 : decode cX5_weighRight 18 = .ok (.iload_n 3, 1) := by decide +kernel
theorem dX5_weighRight_19 : decode cX5_weighRight 19 = .ok (.isub, 1) := by decide +kernel
theorem dX5_weighRight_20 : decode cX5_weighRight 20 = .ok (.goto 4, 3) := by decide +kernel
theorem dX5_weighRight_23 : decode cX5_weighRight 23 = .ok (.iload_n 3, 1) := by decide +kernel
theorem dX5_weighRight_24 : decode cX5_weighRight 24 = .ok (.istore 4, 2) := by decide +kernel
theorem dX5_weighRight_26 : decode cX5_weighRight 26 = .ok (.iconst 0, 1) := by decide +kernel
theorem dX5_weighRight_27 : decode cX5_weighRight 27 = .ok (.istore 5, 2) := by decide +kernel
theorem dX5_weighRight_29 : decode cX5_weighRight 29 = .ok (.iload 5, 2) := by decide +kernel
theorem dX5_weighRight_31 : decode cX5_weighRight 31 = .ok (.bipush 12, 2) := by decide +kernel
theorem dX5_weighRight_33 : decode cX5_weighRight 33 = .ok (.if_icmp .ge 58, 3) := by decide +kernel
theorem dX5_weighRight_36 : decode cX5_weighRight 36 = .ok (.aload_n 1, 1) := by decide +kernel
theorem dX5_weighRight_37 : decode cX5_weighRight 37 = .ok (.iload_n 2, 1) := by decide +kernel
theorem dX5_weighRight_38 : decode cX5_weighRight 38 = .ok (.iload 5, 2) := by decide +kernel
theorem dX5_weighRight_40 : decode cX5_weighRight 40 = .ok (.invokevirtual 69, 3) := by decide +kernel
theorem dX5_weighRight_43 : decode cX5_weighRight 43 = .ok (.ifCond .eq 42, 3) := by decide +kernel
theorem dX5_weighRight_46 : decode cX5_weighRight 46 = .ok (.iload 5, 2) := by decide +kernel
theorem dX5_weighRight_48 : decode cX5_weighRight 48 = .ok (.bipush 12, 2) := by decide +kernel
theorem dX5_weighRight_50 : decode cX5_weighRight 50 = .ok (.iadd, 1) := by decide +kernel
theorem dX5_weighRight_51 : decode cX5_weighRight 51 = .ok (.aload_n 1, 1) := by decide +kernel
theorem dX5_weighRight_52 : decode cX5_weighRight 52 = .ok (.getfield 73, 3) := by decide +kernel
theorem dX5_weighRight_55 : decode cX5_weighRight 55 = .ok (.iload_n 2, 1) := by decide +kernel
theorem dX5_weighRight_56 : decode cX5_weighRight 56 = .ok (.iaload, 1) := by decide +kernel
theorem dX5_weighRight_57 : decode cX5_weighRight 57 = .ok (.isub, 1) := by decide +kernel
theorem dX5_weighRight_58 : decode cX5_weighRight 58 = .ok (.bipush 12, 2) := by decide +kernel
theorem dX5_weighRight_60 : decode cX5_weighRight 60 = .ok (.irem, 1) := by decide +kernel
theorem dX5_weighRight_61 : decode cX5_weighRight 61 = .ok (.istore 6, 2) := by decide +kernel
theorem dX5_weighRight_63 : decode cX5_weighRight 63 = .ok (.aload_n 0, 1) := by decide +kernel
theorem dX5_weighRight_64 : decode cX5_weighRight 64 = .ok (.getfield 9, 3) := by decide +kernel
theorem dX5_weighRight_67 : decode cX5_weighRight 67 = .ok (.iload_n 3, 1) := by decide +kernel
theorem dX5_weighRight_68 : decode cX5_weighRight 68 = .ok (.iload 6, 2) := by decide +kernel
theorem dX5_weighRight_70 : decode cX5_weighRight 70 = .ok (.iload 4, 2) := by decide +kernel
theorem dX5_weighRight_72 : decode cX5_weighRight 72 = .ok (.invokestatic 59, 3) := by decide +kernel
theorem dX5_weighRight_75 : decode cX5_weighRight 75 = .ok (.dup2, 1) := by decide +kernel
theorem dX5_weighRight_76 : decode cX5_weighRight 76 = .ok (.iaload, 1) := by decide +kernel
theorem dX5_weighRight_77 : decode cX5_weighRight 77 = .ok (.aload_n 1, 1) := by decide +kernel
theorem dX5_weighRight_78 : decode cX5_weighRight 78 = .ok (.getfield 76, 3) := by decide +kernel
theorem dX5_weighRight_81 : decode cX5_weighRight 81 = .ok (.iload_n 2, 1) := by decide +kernel
theorem dX5_weighRight_82 : decode cX5_weighRight 82 = .ok (.iaload, 1) := by decide +kernel
theorem dX5_weighRight_83 : decode cX5_weighRight 83 = .ok (.iadd, 1) := by decide +kernel
theorem dX5_weighRight_84 : decode cX5_weighRight 84 = .ok (.iastore, 1) := by decide +kernel
theorem dX5_weighRight_85 : decode cX5_weighRight 85 = .ok (.iinc 5 1, 3) := by decide +kernel
theorem dX5_weighRight_88 : decode cX5_weighRight 88 = .ok (.goto (-59), 3) := by decide +kernel
theorem dX5_weighRight_91 : decode cX5_weighRight 91 = .ok (.return_, 1) := by decide +kernel
def L_X5_weighRight (w : Nat) (p : Nat) : Nat → z_Mem → Int32 → Int32 → Int32 → Int32 → Option (Unit × z_Mem)
  | 0, _, _, _, _, _ => none
  | c + 1, M, x2, x3, x4, x5 =>
    if (12 : Int32) ≤ x5 then
    some ((), M)
    else
    (F_X6_isIn w M p x2 x5).bind fun q2 =>
    if q2.1 = true then
    if x2 < 0 ∨ 8 ≤ x2.toNatClampNeg then none else
    (F_X5_bearingAt w q2.2 x3 (((x5 + (12 : Int32)) - (q2.2.1 (p + 5) x2.toNatClampNeg)) - ((x5 + (12 : Int32)) - (q2.2.1 (p + 5) x2.toNatClampNeg)) / (12 : Int32) * (12 : Int32)) x4).bind fun q6 =>
    if q6.1 < 0 ∨ 48 ≤ q6.1.toNatClampNeg then none else
    if x2 < 0 ∨ 8 ≤ x2.toNatClampNeg then none else
    if q6.1 < 0 ∨ 48 ≤ q6.1.toNatClampNeg then none else
    L_X5_weighRight w p c (z_wI q6.2 60 q6.1.toNatClampNeg ((q6.2.1 60 q6.1.toNatClampNeg) + (q6.2.1 (p + 6) x2.toNatClampNeg))) x2 x3 x4 (x5 + (1 : Int32))
    else
    L_X5_weighRight w p c q2.2 x2 x3 x4 (x5 + (1 : Int32))
set_option maxHeartbeats 4000000 in
theorem AL_X5_weighRight {w : Nat} {p : Nat} (hp : z_par p) : ∀ (c : Nat), (∀ (M : z_Mem) (x2 : Int32) (x3 : Int32) (x4 : Int32) (x5 : Int32) (r : Unit) (M' : z_Mem) (Q : Option Value → z_Mem → Prop), L_X5_weighRight w p c M x2 x3 x4 x5 = some (r, M') → Q none M' → z_G none 1 mX5_weighRight 29 [some (.ref 61), some (.ref (p + 4)), some (.int x2), some (.int x3), some (.int x4), some (.int x5), none] [] M Q) := by
  intro c
  induction c with
  | zero => exact (fun M x2 x3 x4 x5 r M' Q h hq => by rw [L_X5_weighRight] at h; cases h)
  | succ c ih =>
    intro M x2 x3 x4 x5 r M' Q h hq
    rw [L_X5_weighRight] at h
    refine g_iload dX5_weighRight_29 rfl ?_
    refine g_bipush (v := (12 : Int32)) dX5_weighRight_31 (by decide) ?_
    refine g_ic_ge (t := 91) dX5_weighRight_33 (by decide) (fun c1 => ?_) (fun c1 => ?_)
    · replace h := z_ift c1 h
      cases h
      exact g_vret dX5_weighRight_91 rfl hq
    · replace h := z_iff c1 h
      refine g_aload_n dX5_weighRight_36 rfl rfl ?_
      refine g_iload_n dX5_weighRight_37 rfl rfl ?_
      refine g_iload dX5_weighRight_38 rfl ?_
      obtain ⟨q2, e3, h⟩ := z_bd h
      refine g_callV (a := p + 2) (as := [.int x2, .int x5]) (rest := []) (c := mX6_isIn) (k1 := 0) dX5_weighRight_40 rfl rfl rfl (shp_2 hp) rfl rfl (Nat.le_of_ble_eq_true rfl) (Nat.le_of_ble_eq_true rfl) (by decide) ?_
      refine A_X6_isIn hp e3 ?_
      show z_G none 1 mX5_weighRight 43 [some (.ref 61), some (.ref (p + 4)), some (.int x2), some (.int x3), some (.int x4), some (.int x5), none] [.int (z_tb q2.1)] q2.2 Q
      refine g_if_eq (t := 85) dX5_weighRight_43 (by decide) (fun c4 => ?_) (fun c4 => ?_)
      · replace h := z_iff (z_tb0.mp c4) h
        refine g_iinc (v := x5 + (1 : Int32)) (ls' := [some (.ref 61), some (.ref (p + 4)), some (.int x2), some (.int x3), some (.int x4), some (.int (x5 + (1 : Int32))), none]) dX5_weighRight_85 rfl rfl rfl ?_
        refine g_goto (t := 29) dX5_weighRight_88 (by decide) ?_
        exact g_sub (z_sub_s (z_sub_s (z_sub_s (z_sub_s (z_sub_s (z_sub_s (z_sub_n z_sub_nil))))))) (ih _ _ _ _ _ _ _ _ h hq)
      · replace h := z_ift (z_tbn.mp c4) h
        refine g_iload dX5_weighRight_46 rfl ?_
        refine g_bipush (v := (12 : Int32)) dX5_weighRight_48 (by decide) ?_
        refine g_iadd dX5_weighRight_50 ?_
        refine g_aload_n dX5_weighRight_51 rfl rfl ?_
        refine g_get (a := p + 2) (v := .ref (p + 7)) dX5_weighRight_52 f_5_73 (shp_2 hp) rfl rfl ?_
        refine g_iload_n dX5_weighRight_55 rfl rfl ?_
        by_cases g5 : x2 < 0 ∨ 8 ≤ x2.toNatClampNeg
        · rw [if_pos g5] at h; cases h
        replace h := z_iff g5 h
        refine g_iald (a := p + 5) dX5_weighRight_56 (shp_5 hp) g5 ?_
        refine g_isub dX5_weighRight_57 ?_
        refine g_bipush (v := (12 : Int32)) dX5_weighRight_58 (by decide) ?_
        refine g_irem dX5_weighRight_60 (by decide) ?_
        refine g_istore (ls' := [some (.ref 61), some (.ref (p + 4)), some (.int x2), some (.int x3), some (.int x4), some (.int x5), some (.int (((x5 + (12 : Int32)) - (q2.2.1 (p + 5) x2.toNatClampNeg)) - ((x5 + (12 : Int32)) - (q2.2.1 (p + 5) x2.toNatClampNeg)) / (12 : Int32) * (12 : Int32)))]) dX5_weighRight_61 (Nat.le_of_ble_eq_true rfl) rfl ?_
        refine g_aload_n dX5_weighRight_63 rfl rfl ?_
        refine g_get (a := 59) (v := .ref 62) dX5_weighRight_64 f_5_9 sh_59 rfl rfl ?_
        refine g_iload_n dX5_weighRight_67 rfl rfl ?_
        refine g_iload dX5_weighRight_68 rfl ?_
        refine g_iload dX5_weighRight_70 rfl ?_
        obtain ⟨q6, e7, h⟩ := z_bd h
        refine g_callS (as := [.int x3, .int (((x5 + (12 : Int32)) - (q2.2.1 (p + 5) x2.toNatClampNeg)) - ((x5 + (12 : Int32)) - (q2.2.1 (p + 5) x2.toNatClampNeg)) / (12 : Int32) * (12 : Int32)), .int x4]) (rest := [.ref 62]) (c := mX5_bearingAt) (k1 := 0) dX5_weighRight_72 rfl rfl rfl rfl rfl (Nat.le_of_ble_eq_true rfl) (Nat.le_of_ble_eq_true rfl) (by decide) ?_
        refine A_X5_bearingAt e7 ?_
        show z_G none 1 mX5_weighRight 75 [some (.ref 61), some (.ref (p + 4)), some (.int x2), some (.int x3), some (.int x4), some (.int x5), some (.int (((x5 + (12 : Int32)) - (q2.2.1 (p + 5) x2.toNatClampNeg)) - ((x5 + (12 : Int32)) - (q2.2.1 (p + 5) x2.toNatClampNeg)) / (12 : Int32) * (12 : Int32)))] [.int q6.1, .ref 62] q6.2 Q
        refine g_dup2 dX5_weighRight_75 rfl rfl ?_
        by_cases g8 : q6.1 < 0 ∨ 48 ≤ q6.1.toNatClampNeg
        · rw [if_pos g8] at h; cases h
        replace h := z_iff g8 h
        refine g_iald (a := 60) dX5_weighRight_76 sh_60 g8 ?_
        refine g_aload_n dX5_weighRight_77 rfl rfl ?_
        refine g_get (a := p + 2) (v := .ref (p + 8)) dX5_weighRight_78 f_5_76 (shp_2 hp) rfl rfl ?_
        refine g_iload_n dX5_weighRight_81 rfl rfl ?_
        by_cases g9 : x2 < 0 ∨ 8 ≤ x2.toNatClampNeg
        · rw [if_pos g9] at h; cases h
        replace h := z_iff g9 h
        refine g_iald (a := p + 6) dX5_weighRight_82 (shp_6 hp) g9 ?_
        refine g_iadd dX5_weighRight_83 ?_
        by_cases g10 : q6.1 < 0 ∨ 48 ≤ q6.1.toNatClampNeg
        · rw [if_pos g10] at h; cases h
        replace h := z_iff g10 h
        refine g_iast (a := 60) dX5_weighRight_84 sh_60 g10 ?_
        refine g_iinc (v := x5 + (1 : Int32)) (ls' := [some (.ref 61), some (.ref (p + 4)), some (.int x2), some (.int x3), some (.int x4), some (.int (x5 + (1 : Int32))), some (.int (((x5 + (12 : Int32)) - (q2.2.1 (p + 5) x2.toNatClampNeg)) - ((x5 + (12 : Int32)) - (q2.2.1 (p + 5) x2.toNatClampNeg)) / (12 : Int32) * (12 : Int32)))]) dX5_weighRight_85 rfl rfl rfl ?_
        refine g_goto (t := 29) dX5_weighRight_88 (by decide) ?_
        exact g_sub (z_sub_s (z_sub_s (z_sub_s (z_sub_s (z_sub_s (z_sub_s (z_sub_n z_sub_nil))))))) (ih _ _ _ _ _ _ _ _ h hq)
def F_X5_weighRight (w : Nat) (M : z_Mem) (p : Nat) (a2 : Int32) : Option (Unit × z_Mem) :=
  if a2 < 0 ∨ 8 ≤ a2.toNatClampNeg then none else
  if a2 < 0 ∨ 8 ≤ a2.toNatClampNeg then none else
  if (M.1 (p + 4) a2.toNatClampNeg) = (1 : Int32) then
  L_X5_weighRight w p w M a2 (M.1 (p + 3) a2.toNatClampNeg) ((1 : Int32) - (M.1 (p + 3) a2.toNatClampNeg)) (0 : Int32)
  else
  L_X5_weighRight w p w M a2 (M.1 (p + 3) a2.toNatClampNeg) (M.1 (p + 3) a2.toNatClampNeg) (0 : Int32)
set_option maxHeartbeats 4000000 in
theorem A_X5_weighRight {w : Nat} {M : z_Mem} {p : Nat} (hp : z_par p) {a2 : Int32} {r : Unit} {M' : z_Mem} {Q : Option Value → z_Mem → Prop} (h : F_X5_weighRight w M p a2 = some (r, M')) (hq : Q none M') : z_Cl 1 mX5_weighRight [.ref 61, .ref (p + 4), .int a2] M Q := by
  refine g_in (ls := [some (.ref 61), some (.ref (p + 4)), some (.int a2), none, none, none, none]) rfl ?_
  unfold F_X5_weighRight at h
  refine g_aload_n dX5_weighRight_0 rfl rfl ?_
  refine g_get (a := p + 2) (v := .ref (p + 5)) dX5_weighRight_1 f_5_63 (shp_2 hp) rfl rfl ?_
  refine g_iload_n dX5_weighRight_4 rfl rfl ?_
  by_cases g11 : a2 < 0 ∨ 8 ≤ a2.toNatClampNeg
  · rw [if_pos g11] at h; cases h
  replace h := z_iff g11 h
  refine g_iald (a := p + 3) dX5_weighRight_5 (shp_3 hp) g11 ?_
  refine g_istore_n (ls' := [some (.ref 61), some (.ref (p + 4)), some (.int a2), some (.int (M.1 (p + 3) a2.toNatClampNeg)), none, none, none]) dX5_weighRight_6 rfl (Nat.le_of_ble_eq_true rfl) rfl ?_
  refine g_aload_n dX5_weighRight_7 rfl rfl ?_
  refine g_get (a := p + 2) (v := .ref (p + 6)) dX5_weighRight_8 f_5_66 (shp_2 hp) rfl rfl ?_
  refine g_iload_n dX5_weighRight_11 rfl rfl ?_
  by_cases g12 : a2 < 0 ∨ 8 ≤ a2.toNatClampNeg
  · rw [if_pos g12] at h; cases h
  replace h := z_iff g12 h
  refine g_iald (a := p + 4) dX5_weighRight_12 (shp_4 hp) g12 ?_
  refine g_iconst (v := (1 : Int32)) dX5_weighRight_13 (by decide) ?_
  refine g_ic_ne (t := 23) dX5_weighRight_14 (by decide) (fun c13 => ?_) (fun c13 => ?_)
  · replace h := z_iff c13 h
    refine g_iload_n dX5_weighRight_23 rfl rfl ?_
    refine g_istore (ls' := [some (.ref 61), some (.ref (p + 4)), some (.int a2), some (.int (M.1 (p + 3) a2.toNatClampNeg)), some (.int (M.1 (p + 3) a2.toNatClampNeg)), none, none]) dX5_weighRight_24 (Nat.le_of_ble_eq_true rfl) rfl ?_
    refine g_iconst (v := (0 : Int32)) dX5_weighRight_26 (by decide) ?_
    refine g_istore (ls' := [some (.ref 61), some (.ref (p + 4)), some (.int a2), some (.int (M.1 (p + 3) a2.toNatClampNeg)), some (.int (M.1 (p + 3) a2.toNatClampNeg)), some (.int (0 : Int32)), none]) dX5_weighRight_27 (Nat.le_of_ble_eq_true rfl) rfl ?_
    exact g_sub (z_sub_s (z_sub_s (z_sub_s (z_sub_s (z_sub_s (z_sub_s (z_sub_n z_sub_nil))))))) ((AL_X5_weighRight (w := w) hp w) _ _ _ _ _ _ _ _ h hq)
  · replace h := z_ift c13 h
    refine g_iconst (v := (1 : Int32)) dX5_weighRight_17 (by decide) ?_
    refine g_iload_n dX5_weighRight_18 rfl rfl ?_
    refine g_isub dX5_weighRight_19 ?_
    refine g_goto (t := 24) dX5_weighRight_20 (by decide) ?_
    refine g_istore (ls' := [some (.ref 61), some (.ref (p + 4)), some (.int a2), some (.int (M.1 (p + 3) a2.toNatClampNeg)), some (.int ((1 : Int32) - (M.1 (p + 3) a2.toNatClampNeg))), none, none]) dX5_weighRight_24 (Nat.le_of_ble_eq_true rfl) rfl ?_
    refine g_iconst (v := (0 : Int32)) dX5_weighRight_26 (by decide) ?_
    refine g_istore (ls' := [some (.ref 61), some (.ref (p + 4)), some (.int a2), some (.int (M.1 (p + 3) a2.toNatClampNeg)), some (.int ((1 : Int32) - (M.1 (p + 3) a2.toNatClampNeg))), some (.int (0 : Int32)), none]) dX5_weighRight_27 (Nat.le_of_ble_eq_true rfl) rfl ?_
    exact g_sub (z_sub_s (z_sub_s (z_sub_s (z_sub_s (z_sub_s (z_sub_s (z_sub_n z_sub_nil))))))) ((AL_X5_weighRight (w := w) hp w) _ _ _ _ _ _ _ _ h hq)
theorem dX5_sumHalf_0 : decode cX5_sumHalf 0 = .ok (.iload_n 2, 1) := by decide +kernel
theorem dX5_sumHalf_1 : decode cX5_sumHalf 1 = .ok (.bipush 64, 2) := by decide +kernel
theorem dX5_sumHalf_3 : decode cX5_sumHalf 3 = .ok (.imul, 1) := by decide +kernel
theorem dX5_sumHalf_4 : decode cX5_sumHalf 4 = .ok (.istore 4, 2) := by decide +kernel
theorem dX5_sumHalf_6 : decode cX5_sumHalf 6 = .ok (.aload_n 1, 1) := by decide +kernel
theorem dX5_sumHalf_7 : decode cX5_sumHalf 7 = .ok (.iload 4, 2) := by decide +kernel
theorem dX5_sumHalf_9 : decode cX5_sumHalf 9 = .ok (.iconst 0, 1) := by decide +kernel
theorem dX5_sumHalf_10 : decode cX5_sumHalf 10 = .ok (.iastore, 1) := by decide +kernel
theorem dX5_sumHalf_11 : decode cX5_sumHalf 11 = .ok (.iload_n 3, 1) := by decide +kernel
theorem dX5_sumHalf_12 : decode cX5_sumHalf 12 = .ok (.istore 5, 2) := by decide +kernel
theorem dX5_sumHalf_14 : decode cX5_sumHalf 14 = .ok (.iload 5, 2) := by decide +kernel
theorem dX5_sumHalf_16 : decode cX5_sumHalf 16 = .ok (.iload_n 3, 1) := by decide +kernel
theorem dX5_sumHalf_17 : decode cX5_sumHalf 17 = .ok (.bipush 6, 2) := by decide +kernel
theorem dX5_sumHalf_19 : decode cX5_sumHalf 19 = .ok (.iadd, 1) := by decide +kernel
theorem dX5_sumHalf_20 : decode cX5_sumHalf 20 = .ok (.if_icmp .ge 28, 3) := by decide +kernel
theorem dX5_sumHalf_23 : decode cX5_sumHalf 23 = .ok (.aload_n 1, 1) := by decide +kernel
theorem dX5_sumHalf_24 : decode cX5_sumHalf 24 = .ok (.iload 4, 2) := by decide +kernel
theorem dX5_sumHalf_26 : decode cX5_sumHalf 26 = .ok (.dup2, 1) := by decide +kernel
theorem dX5_sumHalf_27 : decode cX5_sumHalf 27 = .ok (.iaload, 1) := by decide +kernel
theorem dX5_sumHalf_28 : decode cX5_sumHalf 28 = .ok (.aload_n 0, 1) := by decide +kernel
theorem dX5_sumHalf_29 : decode cX5_sumHalf 29 = .ok (.getfield 9, 3) := by decide +kernel
theorem dX5_sumHalf_32 : decode cX5_sumHalf 32 = .ok (.iload_n 2, 1) := by decide +kernel
theorem dX5_sumHalf_33 : decode cX5_sumHalf 33 = .ok (.iload 5, 2) := by decide +kernel
theorem dX5_sumHalf_35 : decode cX5_sumHalf 35 = .ok (.iconst 1, 1) := by decide +kernel
theorem dX5_sumHalf_36 : decode cX5_sumHalf 36 = .ok (.invokestatic 59, 3) := by decide +kernel
theorem dX5_sumHalf_39 : decode cX5_sumHalf 39 = .ok (.iaload, 1) := by decide +kernel
theorem dX5_sumHalf_40 : decode cX5_sumHalf 40 = .ok (.iadd, 1) := by decide +kernel
theorem dX5_sumHalf_41 : decode cX5_sumHalf 41 = .ok (.iastore, 1) := by decide +kernel
theorem dX5_sumHalf_42 : decode cX5_sumHalf 42 = .ok (.iinc 5 1, 3) := by decide +kernel
theorem dX5_sumHalf_45 : decode cX5_sumHalf 45 = .ok (.goto (-31), 3) := by decide +kernel
theorem dX5_sumHalf_48 : decode cX5_sumHalf 48 = .ok (.iconst 0, 1) := by decide +kernel
theorem dX5_sumHalf_49 : decode cX5_sumHalf 49 = .ok (.istore 5, 2) := by decide +kernel
theorem dX5_sumHalf_51 : decode cX5_sumHalf 51 = .ok (.iload 5, 2) := by decide +kernel
theorem dX5_sumHalf_53 : decode cX5_sumHalf 53 = .ok (.bipush 6, 2) := by decide +kernel
theorem dX5_sumHalf_55 : decode cX5_sumHalf 55 = .ok (.if_icmp .ge 82, 3) := by decide +kernel
theorem dX5_sumHalf_58 : decode cX5_sumHalf 58 = .ok (.iload_n 3, 1) := by decide +kernel
theorem dX5_sumHalf_59 : decode cX5_sumHalf 59 = .ok (.iload 5, 2) := by decide +kernel
theorem dX5_sumHalf_61 : decode cX5_sumHalf 61 = .ok (.iadd, 1) := by decide +kernel
theorem dX5_sumHalf_62 : decode cX5_sumHalf 62 = .ok (.istore 6, 2) := by decide +kernel
theorem dX5_sumHalf_64 : decode cX5_sumHalf 64 = .ok (.aload_n 0, 1) := by decide +kernel
theorem dX5_sumHalf_65 : decode cX5_sumHalf 65 = .ok (.getfield 9, 3) := by decide +kernel
theorem dX5_sumHalf_68 : decode cX5_sumHalf 68 = .ok (.iload_n 2, 1) := by decide +kernel
theorem dX5_sumHalf_69 : decode cX5_sumHalf 69 = .ok (.iload 6, 2) := by decide +kernel
theorem dX5_sumHalf_71 : decode cX5_sumHalf 71 = .ok (.iconst 0, 1) := by decide +kernel
theorem dX5_sumHalf_72 : decode cX5_sumHalf 72 = .ok (.invokestatic 59, 3) := by decide +kernel
theorem dX5_sumHalf_75 : decode cX5_sumHalf 75 = .ok (.iaload, 1) := by decide +kernel
theorem dX5_sumHalf_76 : decode cX5_sumHalf 76 = .ok (.aload_n 0, 1) := by decide +kernel
theorem dX5_sumHalf_77 : decode cX5_sumHalf 77 = .ok (.getfield 9, 3) := by decide +kernel
theorem dX5_sumHalf_80 : decode cX5_sumHalf 80 = .ok (.iload_n 2, 1) := by decide +kernel
theorem dX5_sumHalf_81 : decode cX5_sumHalf 81 = .ok (.iload 6, 2) := by decide +kernel
theorem dX5_sumHalf_83 : decode cX5_sumHalf 83 = .ok (.iconst 1, 1) := by decide +kernel
theorem dX5_sumHalf_84 : decode cX5_sumHalf 84 = .ok (.invokestatic 59, 3) := by decide +kernel
theorem dX5_sumHalf_87 : decode cX5_sumHalf 87 = .ok (.iaload, 1) := by decide +kernel
theorem dX5_sumHalf_88 : decode cX5_sumHalf 88 = .ok (.isub, 1) := by decide +kernel
theorem dX5_sumHalf_89 : decode cX5_sumHalf 89 = .ok (.istore 7, 2) := by decide +kernel
theorem dX5_sumHalf_91 : decode cX5_sumHalf 91 = .ok (.iconst 0, 1) := by decide +kernel
theorem dX5_sumHalf_92 : decode cX5_sumHalf 92 = .ok (.istore 8, 2) := by decide +kernel
theorem dX5_sumHalf_94 : decode cX5_sumHalf 94 = .ok (.iload 8, 2) := by decide +kernel
theorem dX5_sumHalf_96 : decode cX5_sumHalf 96 = .ok (.iconst 1, 1) := by decide +kernel
theorem dX5_sumHalf_97 : decode cX5_sumHalf 97 = .ok (.iload 5, 2) := by decide +kernel
theorem dX5_sumHalf_99 : decode cX5_sumHalf 99 = .ok (.ishl, 1) := by decide +kernel
theorem dX5_sumHalf_100 : decode cX5_sumHalf 100 = .ok (.if_icmp .ge 31, 3) := by decide +kernel
theorem dX5_sumHalf_103 : decode cX5_sumHalf 103 = .ok (.aload_n 1, 1) := by decide +kernel
theorem dX5_sumHalf_104 : decode cX5_sumHalf 104 = .ok (.iload 4, 2) := by decide +kernel
theorem dX5_sumHalf_106 : decode cX5_sumHalf 106 = .ok (.iload 8, 2) := by decide +kernel
theorem dX5_sumHalf_108 : decode cX5_sumHalf 108 = .ok (.iadd, 1) := by decide +kernel
theorem dX5_sumHalf_109 : decode cX5_sumHalf 109 = .ok (.iconst 1, 1) := by decide +kernel
theorem dX5_sumHalf_110 : decode cX5_sumHalf 110 = .ok (.iload 5, 2) := by decide +kernel
theorem dX5_sumHalf_112 : decode cX5_sumHalf 112 = .ok (.ishl, 1) := by decide +kernel
theorem dX5_sumHalf_113 : decode cX5_sumHalf 113 = .ok (.iadd, 1) := by decide +kernel
theorem dX5_sumHalf_114 : decode cX5_sumHalf 114 = .ok (.aload_n 1, 1) := by decide +kernel
theorem dX5_sumHalf_115 : decode cX5_sumHalf 115 = .ok (.iload 4, 2) := by decide +kernel
theorem dX5_sumHalf_117 : decode cX5_sumHalf 117 = .ok (.iload 8, 2) := by decide +kernel
theorem dX5_sumHalf_119 : decode cX5_sumHalf 119 = .ok (.iadd, 1) := by decide +kernel
theorem dX5_sumHalf_120 : decode cX5_sumHalf 120 = .ok (.iaload, 1) := by decide +kernel
theorem dX5_sumHalf_121 : decode cX5_sumHalf 121 = .ok (.iload 7, 2) := by decide +kernel
theorem dX5_sumHalf_123 : decode cX5_sumHalf 123 = .ok (.iadd, 1) := by decide +kernel
theorem dX5_sumHalf_124 : decode cX5_sumHalf 124 = .ok (.iastore, 1) := by decide +kernel
theorem dX5_sumHalf_125 : decode cX5_sumHalf 125 = .ok (.iinc 8 1, 3) := by decide +kernel
theorem dX5_sumHalf_128 : decode cX5_sumHalf 128 = .ok (.goto (-34), 3) := by decide +kernel
theorem dX5_sumHalf_131 : decode cX5_sumHalf 131 = .ok (.iinc 5 1, 3) := by decide +kernel
theorem dX5_sumHalf_134 : decode cX5_sumHalf 134 = .ok (.goto (-83), 3) := by decide +kernel
theorem dX5_sumHalf_137 : decode cX5_sumHalf 137 = .ok (.return_, 1) := by decide +kernel
def L_X5_sumHalf (w : Nat) (s : Nat) : Nat → Nat → z_Mem → Int32 → Int32 → Int32 → Int32 → Int32 → Int32 → Option (Unit × z_Mem)
  | 0, _, _, _, _, _, _, _, _ => none
  | c + 1, hd, M, x2, x3, x4, x5, x7, x8 =>
    if hd = 0 then
      if (x3 + (6 : Int32)) ≤ x5 then
      L_X5_sumHalf w s c 1 M x2 x3 x4 (0 : Int32) 0 0
      else
      if x4 < 0 ∨ 128 ≤ x4.toNatClampNeg then none else
      (F_X5_bearingAt w M x2 x5 (1 : Int32)).bind fun q3 =>
      if q3.1 < 0 ∨ 48 ≤ q3.1.toNatClampNeg then none else
      if x4 < 0 ∨ 128 ≤ x4.toNatClampNeg then none else
      L_X5_sumHalf w s c 0 (z_wI q3.2 s x4.toNatClampNeg ((M.1 s x4.toNatClampNeg) + (q3.2.1 60 q3.1.toNatClampNeg))) x2 x3 x4 (x5 + (1 : Int32)) 0 0
    else
    if hd = 1 then
      if (6 : Int32) ≤ x5 then
      some ((), M)
      else
      (F_X5_bearingAt w M x2 (x3 + x5) (0 : Int32)).bind fun q8 =>
      if q8.1 < 0 ∨ 48 ≤ q8.1.toNatClampNeg then none else
      (F_X5_bearingAt w q8.2 x2 (x3 + x5) (1 : Int32)).bind fun q11 =>
      if q11.1 < 0 ∨ 48 ≤ q11.1.toNatClampNeg then none else
      L_X5_sumHalf w s c 2 q11.2 x2 x3 x4 x5 ((q8.2.1 60 q8.1.toNatClampNeg) - (q11.2.1 60 q11.1.toNatClampNeg)) (0 : Int32)
    else
    if hd = 2 then
      if ((1 : Int32) <<< (x5 &&& 31)) ≤ x8 then
      L_X5_sumHalf w s c 1 M x2 x3 x4 (x5 + (1 : Int32)) 0 0
      else
      if (x4 + x8) < 0 ∨ 128 ≤ (x4 + x8).toNatClampNeg then none else
      if ((x4 + x8) + ((1 : Int32) <<< (x5 &&& 31))) < 0 ∨ 128 ≤ ((x4 + x8) + ((1 : Int32) <<< (x5 &&& 31))).toNatClampNeg then none else
      L_X5_sumHalf w s c 2 (z_wI M s (((x4 + x8) + ((1 : Int32) <<< (x5 &&& 31))).toNatClampNeg) ((M.1 s (x4 + x8).toNatClampNeg) + x7)) x2 x3 x4 x5 x7 (x8 + (1 : Int32))
    else
    none
set_option maxHeartbeats 4000000 in
theorem AL_X5_sumHalf {w : Nat} {s : Nat} (hs : z_ars s) : ∀ (c : Nat), (∀ (M : z_Mem) (x2 : Int32) (x3 : Int32) (x4 : Int32) (x5 : Int32) (x7 : Int32) (x8 : Int32) (r : Unit) (M' : z_Mem) (Q : Option Value → z_Mem → Prop), L_X5_sumHalf w s c 0 M x2 x3 x4 x5 x7 x8 = some (r, M') → Q none M' → z_G none 1 mX5_sumHalf 14 [some (.ref 61), some (.ref (s + 2)), some (.int x2), some (.int x3), some (.int x4), some (.int x5), none, none, none] [] M Q) ∧ (∀ (M : z_Mem) (x2 : Int32) (x3 : Int32) (x4 : Int32) (x5 : Int32) (x7 : Int32) (x8 : Int32) (r : Unit) (M' : z_Mem) (Q : Option Value → z_Mem → Prop), L_X5_sumHalf w s c 1 M x2 x3 x4 x5 x7 x8 = some (r, M') → Q none M' → z_G none 1 mX5_sumHalf 51 [some (.ref 61), some (.ref (s + 2)), some (.int x2), some (.int x3), some (.int x4), some (.int x5), none, none, none] [] M Q) ∧ (∀ (M : z_Mem) (x2 : Int32) (x3 : Int32) (x4 : Int32) (x5 : Int32) (x7 : Int32) (x8 : Int32) (r : Unit) (M' : z_Mem) (Q : Option Value → z_Mem → Prop), L_X5_sumHalf w s c 2 M x2 x3 x4 x5 x7 x8 = some (r, M') → Q none M' → z_G none 1 mX5_sumHalf 94 [some (.ref 61), some (.ref (s + 2)), some (.int x2), some (.int x3), some (.int x4), some (.int x5), none, some (.int x7), some (.int x8)] [] M Q) := by
  intro c
  induction c with
  | zero => exact ⟨(fun M x2 x3 x4 x5 x7 x8 r M' Q h hq => by rw [L_X5_sumHalf] at h; cases h), (fun M x2 x3 x4 x5 x7 x8 r M' Q h hq => by rw [L_X5_sumHalf] at h; cases h), (fun M x2 x3 x4 x5 x7 x8 r M' Q h hq => by rw [L_X5_sumHalf] at h; cases h)⟩
  | succ c ih =>
    refine ⟨fun M x2 x3 x4 x5 x7 x8 r M' Q h hq => ?_, fun M x2 x3 x4 x5 x7 x8 r M' Q h hq => ?_, fun M x2 x3 x4 x5 x7 x8 r M' Q h hq => ?_⟩
    · rw [L_X5_sumHalf] at h
      replace h := z_ift rfl h
      refine g_iload dX5_sumHalf_14 rfl ?_
      refine g_iload_n dX5_sumHalf_16 rfl rfl ?_
      refine g_bipush (v := (6 : Int32)) dX5_sumHalf_17 (by decide) ?_
      refine g_iadd dX5_sumHalf_19 ?_
      refine g_ic_ge (t := 48) dX5_sumHalf_20 (by decide) (fun c1 => ?_) (fun c1 => ?_)
      · replace h := z_ift c1 h
        refine g_iconst (v := (0 : Int32)) dX5_sumHalf_48 (by decide) ?_
        refine g_istore (ls' := [some (.ref 61), some (.ref (s + 2)), some (.int x2), some (.int x3), some (.int x4), some (.int (0 : Int32)), none, none, none]) dX5_sumHalf_49 (Nat.le_of_ble_eq_true rfl) rfl ?_
        exact g_sub (z_sub_s (z_sub_s (z_sub_s (z_sub_s (z_sub_s (z_sub_s (z_sub_n (z_sub_n (z_sub_n z_sub_nil))))))))) (ih.2.1 _ _ _ _ _ _ _ _ _ _ h hq)
      · replace h := z_iff c1 h
        refine g_aload_n dX5_sumHalf_23 rfl rfl ?_
        refine g_iload dX5_sumHalf_24 rfl ?_
        refine g_dup2 dX5_sumHalf_26 rfl rfl ?_
        by_cases g2 : x4 < 0 ∨ 128 ≤ x4.toNatClampNeg
        · rw [if_pos g2] at h; cases h
        replace h := z_iff g2 h
        refine g_iald (a := s) dX5_sumHalf_27 (shs_0 hs) g2 ?_
        refine g_aload_n dX5_sumHalf_28 rfl rfl ?_
        refine g_get (a := 59) (v := .ref 62) dX5_sumHalf_29 f_5_9 sh_59 rfl rfl ?_
        refine g_iload_n dX5_sumHalf_32 rfl rfl ?_
        refine g_iload dX5_sumHalf_33 rfl ?_
        refine g_iconst (v := (1 : Int32)) dX5_sumHalf_35 (by decide) ?_
        obtain ⟨q3, e4, h⟩ := z_bd h
        refine g_callS (as := [.int x2, .int x5, .int (1 : Int32)]) (rest := [.ref 62, .int (M.1 s x4.toNatClampNeg), .int x4, .ref (s + 2)]) (c := mX5_bearingAt) (k1 := 0) dX5_sumHalf_36 rfl rfl rfl rfl rfl (Nat.le_of_ble_eq_true rfl) (Nat.le_of_ble_eq_true rfl) (by decide) ?_
        refine A_X5_bearingAt e4 ?_
        show z_G none 1 mX5_sumHalf 39 [some (.ref 61), some (.ref (s + 2)), some (.int x2), some (.int x3), some (.int x4), some (.int x5), none, none, none] [.int q3.1, .ref 62, .int (M.1 s x4.toNatClampNeg), .int x4, .ref (s + 2)] q3.2 Q
        by_cases g5 : q3.1 < 0 ∨ 48 ≤ q3.1.toNatClampNeg
        · rw [if_pos g5] at h; cases h
        replace h := z_iff g5 h
        refine g_iald (a := 60) dX5_sumHalf_39 sh_60 g5 ?_
        refine g_iadd dX5_sumHalf_40 ?_
        by_cases g6 : x4 < 0 ∨ 128 ≤ x4.toNatClampNeg
        · rw [if_pos g6] at h; cases h
        replace h := z_iff g6 h
        refine g_iast (a := s) dX5_sumHalf_41 (shs_0 hs) g6 ?_
        refine g_iinc (v := x5 + (1 : Int32)) (ls' := [some (.ref 61), some (.ref (s + 2)), some (.int x2), some (.int x3), some (.int x4), some (.int (x5 + (1 : Int32))), none, none, none]) dX5_sumHalf_42 rfl rfl rfl ?_
        refine g_goto (t := 14) dX5_sumHalf_45 (by decide) ?_
        exact g_sub (z_sub_s (z_sub_s (z_sub_s (z_sub_s (z_sub_s (z_sub_s (z_sub_n (z_sub_n (z_sub_n z_sub_nil))))))))) (ih.1 _ _ _ _ _ _ _ _ _ _ h hq)
    · rw [L_X5_sumHalf] at h
      replace h := z_iff (by decide) h
      replace h := z_ift rfl h
      refine g_iload dX5_sumHalf_51 rfl ?_
      refine g_bipush (v := (6 : Int32)) dX5_sumHalf_53 (by decide) ?_
      refine g_ic_ge (t := 137) dX5_sumHalf_55 (by decide) (fun c7 => ?_) (fun c7 => ?_)
      · replace h := z_ift c7 h
        cases h
        exact g_vret dX5_sumHalf_137 rfl hq
      · replace h := z_iff c7 h
        refine g_iload_n dX5_sumHalf_58 rfl rfl ?_
        refine g_iload dX5_sumHalf_59 rfl ?_
        refine g_iadd dX5_sumHalf_61 ?_
        refine g_istore (ls' := [some (.ref 61), some (.ref (s + 2)), some (.int x2), some (.int x3), some (.int x4), some (.int x5), some (.int (x3 + x5)), none, none]) dX5_sumHalf_62 (Nat.le_of_ble_eq_true rfl) rfl ?_
        refine g_aload_n dX5_sumHalf_64 rfl rfl ?_
        refine g_get (a := 59) (v := .ref 62) dX5_sumHalf_65 f_5_9 sh_59 rfl rfl ?_
        refine g_iload_n dX5_sumHalf_68 rfl rfl ?_
        refine g_iload dX5_sumHalf_69 rfl ?_
        refine g_iconst (v := (0 : Int32)) dX5_sumHalf_71 (by decide) ?_
        obtain ⟨q8, e9, h⟩ := z_bd h
        refine g_callS (as := [.int x2, .int (x3 + x5), .int (0 : Int32)]) (rest := [.ref 62]) (c := mX5_bearingAt) (k1 := 0) dX5_sumHalf_72 rfl rfl rfl rfl rfl (Nat.le_of_ble_eq_true rfl) (Nat.le_of_ble_eq_true rfl) (by decide) ?_
        refine A_X5_bearingAt e9 ?_
        show z_G none 1 mX5_sumHalf 75 [some (.ref 61), some (.ref (s + 2)), some (.int x2), some (.int x3), some (.int x4), some (.int x5), some (.int (x3 + x5)), none, none] [.int q8.1, .ref 62] q8.2 Q
        by_cases g10 : q8.1 < 0 ∨ 48 ≤ q8.1.toNatClampNeg
        · rw [if_pos g10] at h; cases h
        replace h := z_iff g10 h
        refine g_iald (a := 60) dX5_sumHalf_75 sh_60 g10 ?_
        refine g_aload_n dX5_sumHalf_76 rfl rfl ?_
        refine g_get (a := 59) (v := .ref 62) dX5_sumHalf_77 f_5_9 sh_59 rfl rfl ?_
        refine g_iload_n dX5_sumHalf_80 rfl rfl ?_
        refine g_iload dX5_sumHalf_81 rfl ?_
        refine g_iconst (v := (1 : Int32)) dX5_sumHalf_83 (by decide) ?_
        obtain ⟨q11, e12, h⟩ := z_bd h
        refine g_callS (as := [.int x2, .int (x3 + x5), .int (1 : Int32)]) (rest := [.ref 62, .int (q8.2.1 60 q8.1.toNatClampNeg)]) (c := mX5_bearingAt) (k1 := 0) dX5_sumHalf_84 rfl rfl rfl rfl rfl (Nat.le_of_ble_eq_true rfl) (Nat.le_of_ble_eq_true rfl) (by decide) ?_
        refine A_X5_bearingAt e12 ?_
        show z_G none 1 mX5_sumHalf 87 [some (.ref 61), some (.ref (s + 2)), some (.int x2), some (.int x3), some (.int x4), some (.int x5), some (.int (x3 + x5)), none, none] [.int q11.1, .ref 62, .int (q8.2.1 60 q8.1.toNatClampNeg)] q11.2 Q
        by_cases g13 : q11.1 < 0 ∨ 48 ≤ q11.1.toNatClampNeg
        · rw [if_pos g13] at h; cases h
        replace h := z_iff g13 h
        refine g_iald (a := 60) dX5_sumHalf_87 sh_60 g13 ?_
        refine g_isub dX5_sumHalf_88 ?_
        refine g_istore (ls' := [some (.ref 61), some (.ref (s + 2)), some (.int x2), some (.int x3), some (.int x4), some (.int x5), some (.int (x3 + x5)), some (.int ((q8.2.1 60 q8.1.toNatClampNeg) - (q11.2.1 60 q11.1.toNatClampNeg))), none]) dX5_sumHalf_89 (Nat.le_of_ble_eq_true rfl) rfl ?_
        refine g_iconst (v := (0 : Int32)) dX5_sumHalf_91 (by decide) ?_
        refine g_istore (ls' := [some (.ref 61), some (.ref (s + 2)), some (.int x2), some (.int x3), some (.int x4), some (.int x5), some (.int (x3 + x5)), some (.int ((q8.2.1 60 q8.1.toNatClampNeg) - (q11.2.1 60 q11.1.toNatClampNeg))), some (.int (0 : Int32))]) dX5_sumHalf_92 (Nat.le_of_ble_eq_true rfl) rfl ?_
        exact g_sub (z_sub_s (z_sub_s (z_sub_s (z_sub_s (z_sub_s (z_sub_s (z_sub_n (z_sub_s (z_sub_s z_sub_nil))))))))) (ih.2.2 _ _ _ _ _ _ _ _ _ _ h hq)
    · rw [L_X5_sumHalf] at h
      replace h := z_iff (by decide) h
      replace h := z_iff (by decide) h
      replace h := z_ift rfl h
      refine g_iload dX5_sumHalf_94 rfl ?_
      refine g_iconst (v := (1 : Int32)) dX5_sumHalf_96 (by decide) ?_
      refine g_iload dX5_sumHalf_97 rfl ?_
      refine g_ishl dX5_sumHalf_99 ?_
      refine g_ic_ge (t := 131) dX5_sumHalf_100 (by decide) (fun c14 => ?_) (fun c14 => ?_)
      · replace h := z_ift c14 h
        refine g_iinc (v := x5 + (1 : Int32)) (ls' := [some (.ref 61), some (.ref (s + 2)), some (.int x2), some (.int x3), some (.int x4), some (.int (x5 + (1 : Int32))), none, some (.int x7), some (.int x8)]) dX5_sumHalf_131 rfl rfl rfl ?_
        refine g_goto (t := 51) dX5_sumHalf_134 (by decide) ?_
        exact g_sub (z_sub_s (z_sub_s (z_sub_s (z_sub_s (z_sub_s (z_sub_s (z_sub_n (z_sub_n (z_sub_n z_sub_nil))))))))) (ih.2.1 _ _ _ _ _ _ _ _ _ _ h hq)
      · replace h := z_iff c14 h
        refine g_aload_n dX5_sumHalf_103 rfl rfl ?_
        refine g_iload dX5_sumHalf_104 rfl ?_
        refine g_iload dX5_sumHalf_106 rfl ?_
        refine g_iadd dX5_sumHalf_108 ?_
        refine g_iconst (v := (1 : Int32)) dX5_sumHalf_109 (by decide) ?_
        refine g_iload dX5_sumHalf_110 rfl ?_
        refine g_ishl dX5_sumHalf_112 ?_
        refine g_iadd dX5_sumHalf_113 ?_
        refine g_aload_n dX5_sumHalf_114 rfl rfl ?_
        refine g_iload dX5_sumHalf_115 rfl ?_
        refine g_iload dX5_sumHalf_117 rfl ?_
        refine g_iadd dX5_sumHalf_119 ?_
        by_cases g15 : (x4 + x8) < 0 ∨ 128 ≤ (x4 + x8).toNatClampNeg
        · rw [if_pos g15] at h; cases h
        replace h := z_iff g15 h
        refine g_iald (a := s) dX5_sumHalf_120 (shs_0 hs) g15 ?_
        refine g_iload dX5_sumHalf_121 rfl ?_
        refine g_iadd dX5_sumHalf_123 ?_
        by_cases g16 : ((x4 + x8) + ((1 : Int32) <<< (x5 &&& 31))) < 0 ∨ 128 ≤ ((x4 + x8) + ((1 : Int32) <<< (x5 &&& 31))).toNatClampNeg
        · rw [if_pos g16] at h; cases h
        replace h := z_iff g16 h
        refine g_iast (a := s) dX5_sumHalf_124 (shs_0 hs) g16 ?_
        refine g_iinc (v := x8 + (1 : Int32)) (ls' := [some (.ref 61), some (.ref (s + 2)), some (.int x2), some (.int x3), some (.int x4), some (.int x5), none, some (.int x7), some (.int (x8 + (1 : Int32)))]) dX5_sumHalf_125 rfl rfl rfl ?_
        refine g_goto (t := 94) dX5_sumHalf_128 (by decide) ?_
        exact g_sub (z_sub_s (z_sub_s (z_sub_s (z_sub_s (z_sub_s (z_sub_s (z_sub_n (z_sub_s (z_sub_s z_sub_nil))))))))) (ih.2.2 _ _ _ _ _ _ _ _ _ _ h hq)
def F_X5_sumHalf (w : Nat) (M : z_Mem) (s : Nat) (a2 : Int32) (a3 : Int32) : Option (Unit × z_Mem) :=
  if (a2 * (64 : Int32)) < 0 ∨ 128 ≤ (a2 * (64 : Int32)).toNatClampNeg then none else
  L_X5_sumHalf w s w 0 (z_wI M s ((a2 * (64 : Int32)).toNatClampNeg) (0 : Int32)) a2 a3 (a2 * (64 : Int32)) a3 0 0
set_option maxHeartbeats 4000000 in
theorem A_X5_sumHalf {w : Nat} {M : z_Mem} {s : Nat} (hs : z_ars s) {a2 : Int32} {a3 : Int32} {r : Unit} {M' : z_Mem} {Q : Option Value → z_Mem → Prop} (h : F_X5_sumHalf w M s a2 a3 = some (r, M')) (hq : Q none M') : z_Cl 1 mX5_sumHalf [.ref 61, .ref (s + 2), .int a2, .int a3] M Q := by
  refine g_in (ls := [some (.ref 61), some (.ref (s + 2)), some (.int a2), some (.int a3), none, none, none, none, none]) rfl ?_
  unfold F_X5_sumHalf at h
  refine g_iload_n dX5_sumHalf_0 rfl rfl ?_
  refine g_bipush (v := (64 : Int32)) dX5_sumHalf_1 (by decide) ?_
  refine g_imul dX5_sumHalf_3 ?_
  refine g_istore (ls' := [some (.ref 61), some (.ref (s + 2)), some (.int a2), some (.int a3), some (.int (a2 * (64 : Int32))), none, none, none, none]) dX5_sumHalf_4 (Nat.le_of_ble_eq_true rfl) rfl ?_
  refine g_aload_n dX5_sumHalf_6 rfl rfl ?_
  refine g_iload dX5_sumHalf_7 rfl ?_
  refine g_iconst (v := (0 : Int32)) dX5_sumHalf_9 (by decide) ?_
  by_cases g17 : (a2 * (64 : Int32)) < 0 ∨ 128 ≤ (a2 * (64 : Int32)).toNatClampNeg
  · rw [if_pos g17] at h; cases h
  replace h := z_iff g17 h
  refine g_iast (a := s) dX5_sumHalf_10 (shs_0 hs) g17 ?_
  refine g_iload_n dX5_sumHalf_11 rfl rfl ?_
  refine g_istore (ls' := [some (.ref 61), some (.ref (s + 2)), some (.int a2), some (.int a3), some (.int (a2 * (64 : Int32))), some (.int a3), none, none, none]) dX5_sumHalf_12 (Nat.le_of_ble_eq_true rfl) rfl ?_
  exact g_sub (z_sub_s (z_sub_s (z_sub_s (z_sub_s (z_sub_s (z_sub_s (z_sub_n (z_sub_n (z_sub_n z_sub_nil))))))))) ((AL_X5_sumHalf (w := w) hs w).1 _ _ _ _ _ _ _ _ _ _ h hq)
theorem dX5_foughtBy_0 : decode cX5_foughtBy 0 = .ok (.iconst 0, 1) := by decide +kernel
theorem dX5_foughtBy_1 : decode cX5_foughtBy 1 = .ok (.istore_n 3, 1) := by decide +kernel
theorem dX5_foughtBy_2 : decode cX5_foughtBy 2 = .ok (.iconst 0, 1) := by decide +kernel
theorem dX5_foughtBy_3 : decode cX5_foughtBy 3 = .ok (.istore 4, 2) := by decide +kernel
theorem dX5_foughtBy_5 : decode cX5_foughtBy 5 = .ok (.iload 4, 2) := by decide +kernel
theorem dX5_foughtBy_7 : decode cX5_foughtBy 7 = .ok (.bipush 12, 2) := by decide +kernel
theorem dX5_foughtBy_9 : decode cX5_foughtBy 9 = .ok (.if_icmp .ge 51, 3) := by decide +kernel
theorem dX5_foughtBy_12 : decode cX5_foughtBy 12 = .ok (.aload_n 0, 1) := by decide +kernel
theorem dX5_foughtBy_13 : decode cX5_foughtBy 13 = .ok (.getfield 9, 3) := by decide +kernel
theorem dX5_foughtBy_16 : decode cX5_foughtBy 16 = .ok (.iload_n 1, 1) := by decide +kernel
theorem dX5_foughtBy_17 : decode cX5_foughtBy 17 = .ok (.iload 4, 2) := by decide +kernel
theorem dX5_foughtBy_19 : decode cX5_foughtBy 19 = .ok (.iload_n 1, 1) := by decide +kernel
theorem dX5_foughtBy_20 : decode cX5_foughtBy 20 = .ok (.invokestatic 59, 3) := by decide +kernel
theorem dX5_foughtBy_23 : decode cX5_foughtBy 23 = .ok (.iaload, 1) := by decide +kernel
theorem dX5_foughtBy_24 : decode cX5_foughtBy 24 = .ok (.aload_n 0, 1) := by decide +kernel
theorem dX5_foughtBy_25 : decode cX5_foughtBy 25 = .ok (.getfield 9, 3) := by decide +kernel
theorem dX5_foughtBy_28 : decode cX5_foughtBy 28 = .ok (.iload_n 1, 1) := by decide +kernel
theorem dX5_foughtBy_29 : decode cX5_foughtBy 29 = .ok (.iload 4, 2) := by decide +kernel
theorem dX5_foughtBy_31 : decode cX5_foughtBy 31 = .ok (.iconst 1, 1) := by decide +kernel
theorem dX5_foughtBy_32 : decode cX5_foughtBy 32 = .ok (.iload_n 1, 1) := by decide +kernel
theorem dX5_foughtBy_33 : decode cX5_foughtBy 33 = .ok (.isub, 1) := by decide +kernel
theorem dX5_foughtBy_34 : decode cX5_foughtBy 34 = .ok (.invokestatic 59, 3) := by decide +kernel
theorem dX5_foughtBy_37 : decode cX5_foughtBy 37 = .ok (.iaload, 1) := by decide +kernel
theorem dX5_foughtBy_38 : decode cX5_foughtBy 38 = .ok (.isub, 1) := by decide +kernel
theorem dX5_foughtBy_39 : decode cX5_foughtBy 39 = .ok (.istore 5, 2) := by decide +kernel
theorem dX5_foughtBy_41 : decode cX5_foughtBy 41 = .ok (.iload 5, 2) := by decide +kernel
theorem dX5_foughtBy_43 : decode cX5_foughtBy 43 = .ok (.iload_n 2, 1) := by decide +kernel
theorem dX5_foughtBy_44 : decode cX5_foughtBy 44 = .ok (.if_icmp .le 10, 3) := by decide +kernel
theorem dX5_foughtBy_47 : decode cX5_foughtBy 47 = .ok (.iload_n 3, 1) := by decide +kernel
theorem dX5_foughtBy_48 : decode cX5_foughtBy 48 = .ok (.iconst 1, 1) := by decide +kernel
theorem dX5_foughtBy_49 : decode cX5_foughtBy 49 = .ok (.iload 4, 2) := by decide +kernel
theorem dX5_foughtBy_51 : decode cX5_foughtBy 51 = .ok (.ishl, 1) := by decide +kernel
theorem dX5_foughtBy_52 : decode cX5_foughtBy 52 = .ok (.ior, 1) := by decide +kernel
theorem dX5_foughtBy_53 : decode cX5_foughtBy 53 = .ok (.istore_n 3, 1) := by decide +kernel
theorem dX5_foughtBy_54 : decode cX5_foughtBy 54 = .ok (.iinc 4 1, 3) := by decide +kernel
theorem dX5_foughtBy_57 : decode cX5_foughtBy 57 = .ok (.goto (-52), 3) := by decide +kernel
theorem dX5_foughtBy_60 : decode cX5_foughtBy 60 = .ok (.iload_n 3, 1) := by decide +kernel
theorem dX5_foughtBy_61 : decode cX5_foughtBy 61 = .ok (.ireturn, 1) := by decide +kernel
def L_X5_foughtBy (w : Nat) : Nat → z_Mem → Int32 → Int32 → Int32 → Int32 → Option (Int32 × z_Mem)
  | 0, _, _, _, _, _ => none
  | c + 1, M, x1, x2, x3, x4 =>
    if (12 : Int32) ≤ x4 then
    some (x3, M)
    else
    (F_X5_bearingAt w M x1 x4 x1).bind fun q2 =>
    if q2.1 < 0 ∨ 48 ≤ q2.1.toNatClampNeg then none else
    (F_X5_bearingAt w q2.2 x1 x4 ((1 : Int32) - x1)).bind fun q5 =>
    if q5.1 < 0 ∨ 48 ≤ q5.1.toNatClampNeg then none else
    if ((q2.2.1 60 q2.1.toNatClampNeg) - (q5.2.1 60 q5.1.toNatClampNeg)) ≤ x2 then
    L_X5_foughtBy w c q5.2 x1 x2 x3 (x4 + (1 : Int32))
    else
    L_X5_foughtBy w c q5.2 x1 x2 (x3 ||| ((1 : Int32) <<< (x4 &&& 31))) (x4 + (1 : Int32))
set_option maxHeartbeats 4000000 in
theorem AL_X5_foughtBy {w : Nat} : ∀ (c : Nat), (∀ (M : z_Mem) (x1 : Int32) (x2 : Int32) (x3 : Int32) (x4 : Int32) (r : Int32) (M' : z_Mem) (Q : Option Value → z_Mem → Prop), L_X5_foughtBy w c M x1 x2 x3 x4 = some (r, M') → Q (some (.int r)) M' → z_G none 1 mX5_foughtBy 5 [some (.ref 61), some (.int x1), some (.int x2), some (.int x3), some (.int x4), none] [] M Q) := by
  intro c
  induction c with
  | zero => exact (fun M x1 x2 x3 x4 r M' Q h hq => by rw [L_X5_foughtBy] at h; cases h)
  | succ c ih =>
    intro M x1 x2 x3 x4 r M' Q h hq
    rw [L_X5_foughtBy] at h
    refine g_iload dX5_foughtBy_5 rfl ?_
    refine g_bipush (v := (12 : Int32)) dX5_foughtBy_7 (by decide) ?_
    refine g_ic_ge (t := 60) dX5_foughtBy_9 (by decide) (fun c1 => ?_) (fun c1 => ?_)
    · replace h := z_ift c1 h
      refine g_iload_n dX5_foughtBy_60 rfl rfl ?_
      cases h
      exact g_iret dX5_foughtBy_61 rfl rfl hq
    · replace h := z_iff c1 h
      refine g_aload_n dX5_foughtBy_12 rfl rfl ?_
      refine g_get (a := 59) (v := .ref 62) dX5_foughtBy_13 f_5_9 sh_59 rfl rfl ?_
      refine g_iload_n dX5_foughtBy_16 rfl rfl ?_
      refine g_iload dX5_foughtBy_17 rfl ?_
      refine g_iload_n dX5_foughtBy_19 rfl rfl ?_
      obtain ⟨q2, e3, h⟩ := z_bd h
      refine g_callS (as := [.int x1, .int x4, .int x1]) (rest := [.ref 62]) (c := mX5_bearingAt) (k1 := 0) dX5_foughtBy_20 rfl rfl rfl rfl rfl (Nat.le_of_ble_eq_true rfl) (Nat.le_of_ble_eq_true rfl) (by decide) ?_
      refine A_X5_bearingAt e3 ?_
      show z_G none 1 mX5_foughtBy 23 [some (.ref 61), some (.int x1), some (.int x2), some (.int x3), some (.int x4), none] [.int q2.1, .ref 62] q2.2 Q
      by_cases g4 : q2.1 < 0 ∨ 48 ≤ q2.1.toNatClampNeg
      · rw [if_pos g4] at h; cases h
      replace h := z_iff g4 h
      refine g_iald (a := 60) dX5_foughtBy_23 sh_60 g4 ?_
      refine g_aload_n dX5_foughtBy_24 rfl rfl ?_
      refine g_get (a := 59) (v := .ref 62) dX5_foughtBy_25 f_5_9 sh_59 rfl rfl ?_
      refine g_iload_n dX5_foughtBy_28 rfl rfl ?_
      refine g_iload dX5_foughtBy_29 rfl ?_
      refine g_iconst (v := (1 : Int32)) dX5_foughtBy_31 (by decide) ?_
      refine g_iload_n dX5_foughtBy_32 rfl rfl ?_
      refine g_isub dX5_foughtBy_33 ?_
      obtain ⟨q5, e6, h⟩ := z_bd h
      refine g_callS (as := [.int x1, .int x4, .int ((1 : Int32) - x1)]) (rest := [.ref 62, .int (q2.2.1 60 q2.1.toNatClampNeg)]) (c := mX5_bearingAt) (k1 := 0) dX5_foughtBy_34 rfl rfl rfl rfl rfl (Nat.le_of_ble_eq_true rfl) (Nat.le_of_ble_eq_true rfl) (by decide) ?_
      refine A_X5_bearingAt e6 ?_
      show z_G none 1 mX5_foughtBy 37 [some (.ref 61), some (.int x1), some (.int x2), some (.int x3), some (.int x4), none] [.int q5.1, .ref 62, .int (q2.2.1 60 q2.1.toNatClampNeg)] q5.2 Q
      by_cases g7 : q5.1 < 0 ∨ 48 ≤ q5.1.toNatClampNeg
      · rw [if_pos g7] at h; cases h
      replace h := z_iff g7 h
      refine g_iald (a := 60) dX5_foughtBy_37 sh_60 g7 ?_
      refine g_isub dX5_foughtBy_38 ?_
      refine g_istore (ls' := [some (.ref 61), some (.int x1), some (.int x2), some (.int x3), some (.int x4), some (.int ((q2.2.1 60 q2.1.toNatClampNeg) - (q5.2.1 60 q5.1.toNatClampNeg)))]) dX5_foughtBy_39 (Nat.le_of_ble_eq_true rfl) rfl ?_
      refine g_iload dX5_foughtBy_41 rfl ?_
      refine g_iload_n dX5_foughtBy_43 rfl rfl ?_
      refine g_ic_le (t := 54) dX5_foughtBy_44 (by decide) (fun c8 => ?_) (fun c8 => ?_)
      · replace h := z_ift c8 h
        refine g_iinc (v := x4 + (1 : Int32)) (ls' := [some (.ref 61), some (.int x1), some (.int x2), some (.int x3), some (.int (x4 + (1 : Int32))), some (.int ((q2.2.1 60 q2.1.toNatClampNeg) - (q5.2.1 60 q5.1.toNatClampNeg)))]) dX5_foughtBy_54 rfl rfl rfl ?_
        refine g_goto (t := 5) dX5_foughtBy_57 (by decide) ?_
        exact g_sub (z_sub_s (z_sub_s (z_sub_s (z_sub_s (z_sub_s (z_sub_n z_sub_nil)))))) (ih _ _ _ _ _ _ _ _ h hq)
      · replace h := z_iff c8 h
        refine g_iload_n dX5_foughtBy_47 rfl rfl ?_
        refine g_iconst (v := (1 : Int32)) dX5_foughtBy_48 (by decide) ?_
        refine g_iload dX5_foughtBy_49 rfl ?_
        refine g_ishl dX5_foughtBy_51 ?_
        refine g_ior dX5_foughtBy_52 ?_
        refine g_istore_n (ls' := [some (.ref 61), some (.int x1), some (.int x2), some (.int (x3 ||| ((1 : Int32) <<< (x4 &&& 31)))), some (.int x4), some (.int ((q2.2.1 60 q2.1.toNatClampNeg) - (q5.2.1 60 q5.1.toNatClampNeg)))]) dX5_foughtBy_53 rfl (Nat.le_of_ble_eq_true rfl) rfl ?_
        refine g_iinc (v := x4 + (1 : Int32)) (ls' := [some (.ref 61), some (.int x1), some (.int x2), some (.int (x3 ||| ((1 : Int32) <<< (x4 &&& 31)))), some (.int (x4 + (1 : Int32))), some (.int ((q2.2.1 60 q2.1.toNatClampNeg) - (q5.2.1 60 q5.1.toNatClampNeg)))]) dX5_foughtBy_54 rfl rfl rfl ?_
        refine g_goto (t := 5) dX5_foughtBy_57 (by decide) ?_
        exact g_sub (z_sub_s (z_sub_s (z_sub_s (z_sub_s (z_sub_s (z_sub_n z_sub_nil)))))) (ih _ _ _ _ _ _ _ _ h hq)
def F_X5_foughtBy (w : Nat) (M : z_Mem) (a1 : Int32) (a2 : Int32) : Option (Int32 × z_Mem) :=
  L_X5_foughtBy w w M a1 a2 (0 : Int32) (0 : Int32)
set_option maxHeartbeats 4000000 in
theorem A_X5_foughtBy {w : Nat} {M : z_Mem} {a1 : Int32} {a2 : Int32} {r : Int32} {M' : z_Mem} {Q : Option Value → z_Mem → Prop} (h : F_X5_foughtBy w M a1 a2 = some (r, M')) (hq : Q (some (.int r)) M') : z_Cl 1 mX5_foughtBy [.ref 61, .int a1, .int a2] M Q := by
  refine g_in (ls := [some (.ref 61), some (.int a1), some (.int a2), none, none, none]) rfl ?_
  unfold F_X5_foughtBy at h
  refine g_iconst (v := (0 : Int32)) dX5_foughtBy_0 (by decide) ?_
  refine g_istore_n (ls' := [some (.ref 61), some (.int a1), some (.int a2), some (.int (0 : Int32)), none, none]) dX5_foughtBy_1 rfl (Nat.le_of_ble_eq_true rfl) rfl ?_
  refine g_iconst (v := (0 : Int32)) dX5_foughtBy_2 (by decide) ?_
  refine g_istore (ls' := [some (.ref 61), some (.int a1), some (.int a2), some (.int (0 : Int32)), some (.int (0 : Int32)), none]) dX5_foughtBy_3 (Nat.le_of_ble_eq_true rfl) rfl ?_
  exact g_sub (z_sub_s (z_sub_s (z_sub_s (z_sub_s (z_sub_s (z_sub_n z_sub_nil)))))) ((AL_X5_foughtBy (w := w) w) _ _ _ _ _ _ _ _ h hq)
theorem dX5_weigh_0 : decode cX5_weigh 0 = .ok (.aload_n 0, 1) := by decide +kernel
theorem dX5_weigh_1 : decode cX5_weigh 1 = .ok (.aload_n 1, 1) := by decide +kernel
theorem dX5_weigh_2 : decode cX5_weigh 2 = .ok (.getfield 24, 3) := by decide +kernel
theorem dX5_weigh_5 : decode cX5_weigh 5 = .ok (.putfield 30, 3) := by decide +kernel
theorem dX5_weigh_8 : decode cX5_weigh 8 = .ok (.aload_n 0, 1) := by decide +kernel
theorem dX5_weigh_9 : decode cX5_weigh 9 = .ok (.aload_n 1, 1) := by decide +kernel
theorem dX5_weigh_10 : decode cX5_weigh 10 = .ok (.getfield 31, 3) := by decide +kernel
theorem dX5_weigh_13 : decode cX5_weigh 13 = .ok (.putfield 34, 3) := by decide +kernel
theorem dX5_weigh_16 : decode cX5_weigh 16 = .ok (.iconst 0, 1) := by decide +kernel
theorem dX5_weigh_17 : decode cX5_weigh 17 = .ok (.istore_n 2, 1) := by decide +kernel
theorem dX5_weigh_18 : decode cX5_weigh 18 = .ok (.iload_n 2, 1) := by decide +kernel
theorem dX5_weigh_19 : decode cX5_weigh 19 = .ok (.aload_n 0, 1) := by decide +kernel
theorem dX5_weigh_20 : decode cX5_weigh 20 = .ok (.getfield 9, 3) := by decide +kernel
theorem dX5_weigh_23 : decode cX5_weigh 23 = .ok (.arraylength, 1) := by decide +kernel
theorem dX5_weigh_24 : decode cX5_weigh 24 = .ok (.if_icmp .ge 16, 3) := by decide +kernel
theorem dX5_weigh_27 : decode cX5_weigh 27 = .ok (.aload_n 0, 1) := by decide +kernel
theorem dX5_weigh_28 : decode cX5_weigh 28 = .ok (.getfield 9, 3) := by decide +kernel
theorem dX5_weigh_31 : decode cX5_weigh 31 = .ok (.iload_n 2, 1) := by decide +kernel
theorem dX5_weigh_32 : decode cX5_weigh 32 = .ok (.iconst 0, 1) := by decide +kernel
theorem dX5_weigh_33 : decode cX5_weigh 33 = .ok (.iastore, 1) := by decide +kernel
theorem dX5_weigh_34 : decode cX5_weigh 34 = .ok (.iinc 2 1, 3) := by decide +kernel
theorem dX5_weigh_37 : decode cX5_weigh 37 = .ok (.goto (-19), 3) := by decide +kernel
theorem dX5_weigh_40 : decode cX5_weigh 40 = .ok (.iconst 0, 1) := by decide +kernel
theorem dX5_weigh_41 : decode cX5_weigh 41 = .ok (.istore_n 2, 1) := by decide +kernel
theorem dX5_weigh_42 : decode cX5_weigh 42 = .ok (.iload_n 2, 1) := by decide +kernel
theorem dX5_weigh_43 : decode cX5_weigh 43 = .ok (.aload_n 1, 1) := by decide +kernel
theorem dX5_weigh_44 : decode cX5_weigh 44 = .ok (.getfield 35, 3) := by decide +kernel
theorem dX5_weigh_47 : decode cX5_weigh 47 = .ok (.getfield 39, 3) := by decide +kernel
theorem dX5_weigh_50 : decode cX5_weigh 50 = .ok (.if_icmp .ge 18, 3) := by decide +kernel
theorem dX5_weigh_53 : decode cX5_weigh 53 = .ok (.aload_n 0, 1) := by decide +kernel
theorem dX5_weigh_54 : decode cX5_weigh 54 = .ok (.aload_n 1, 1) := by decide +kernel
theorem dX5_weigh_55 : decode cX5_weigh 55 = .ok (.getfield 35, 3) := by decide +kernel
theorem dX5_weigh_58 : decode cX5_weigh 58 = .ok (.iload_n 2, 1) := by decide +kernel
theorem dX5_weigh_59 : decode cX5_weigh 59 = .ok (.invokevirtual 44, 3) := by decide +kernel
theorem dX5_weigh_62 : decode cX5_weigh 62 = .ok (.iinc 2 1, 3) := by decide +kernel
theorem dX5_weigh_65 : decode cX5_weigh 65 = .ok (.goto (-23), 3) := by decide +kernel
theorem dX5_weigh_68 : decode cX5_weigh 68 = .ok (.iconst 0, 1) := by decide +kernel
theorem dX5_weigh_69 : decode cX5_weigh 69 = .ok (.istore_n 2, 1) := by decide +kernel
theorem dX5_weigh_70 : decode cX5_weigh 70 = .ok (.iload_n 2, 1) := by decide +kernel
theorem dX5_weigh_71 : decode cX5_weigh 71 = .ok (.iconst 1, 1) := by decide +kernel
theorem dX5_weigh_72 : decode cX5_weigh 72 = .ok (.if_icmp .gt 45, 3) := by decide +kernel
theorem dX5_weigh_75 : decode cX5_weigh 75 = .ok (.aload_n 0, 1) := by decide +kernel
theorem dX5_weigh_76 : decode cX5_weigh 76 = .ok (.aload_n 0, 1) := by decide +kernel
theorem dX5_weigh_77 : decode cX5_weigh 77 = .ok (.getfield 15, 3) := by decide +kernel
theorem dX5_weigh_80 : decode cX5_weigh 80 = .ok (.iload_n 2, 1) := by decide +kernel
theorem dX5_weigh_81 : decode cX5_weigh 81 = .ok (.iconst 0, 1) := by decide +kernel
theorem dX5_weigh_82 : decode cX5_weigh 82 = .ok (.invokevirtual 48, 3) := by decide +kernel
theorem dX5_weigh_85 : decode cX5_weigh 85 = .ok (.aload_n 0, 1) := by decide +kernel
theorem dX5_weigh_86 : decode cX5_weigh 86 = .ok (.aload_n 0, 1) := by decide +kernel
theorem dX5_weigh_87 : decode cX5_weigh 87 = .ok (.getfield 18, 3) := by decide +kernel
theorem dX5_weigh_90 : decode cX5_weigh 90 = .ok (.iload_n 2, 1) := by decide +kernel
theorem dX5_weigh_91 : decode cX5_weigh 91 = .ok (.bipush 6, 2) := by decide +kernel
theorem dX5_weigh_93 : decode cX5_weigh 93 = .ok (.invokevirtual 48, 3) := by decide +kernel
theorem dX5_weigh_96 : decode cX5_weigh 96 = .ok (.aload_n 0, 1) := by decide +kernel
theorem dX5_weigh_97 : decode cX5_weigh 97 = .ok (.getfield 21, 3) := by decide +kernel
theorem dX5_weigh_100 : decode cX5_weigh 100 = .ok (.iload_n 2, 1) := by decide +kernel
theorem dX5_weigh_101 : decode cX5_weigh 101 = .ok (.aload_n 0, 1) := by decide +kernel
theorem dX5_weigh_102 : decode cX5_weigh 102 = .ok (.iload_n 2, 1) := by decide +kernel
theorem dX5_weigh_103 : decode cX5_weigh 103 = .ok (.aload_n 1, 1) := by decide +kernel
theorem dX5_weigh_104 : decode cX5_weigh 104 = .ok (.getfield 52, 3) := by decide +kernel
theorem dX5_weigh_107 : decode cX5_weigh 107 = .ok (.invokevirtual 55, 3) := by decide +kernel
theorem dX5_weigh_110 : decode cX5_weigh 110 = .ok (.iastore, 1) := by decide +kernel
theorem dX5_weigh_111 : decode cX5_weigh 111 = .ok (.iinc 2 1, 3) := by decide +kernel
theorem dX5_weigh_114 : decode cX5_weigh 114 = .ok (.goto (-44), 3) := by decide +kernel
theorem dX5_weigh_117 : decode cX5_weigh 117 = .ok (.return_, 1) := by decide +kernel
def L_X5_weigh (w : Nat) (p : Nat) : Nat → Nat → z_Mem → Int32 → Option (Unit × z_Mem)
  | 0, _, _, _ => none
  | c + 1, hd, M, x2 =>
    if hd = 0 then
      if (48 : Int32) ≤ x2 then
      L_X5_weigh w p c 1 M (0 : Int32)
      else
      if x2 < 0 ∨ 48 ≤ x2.toNatClampNeg then none else
      L_X5_weigh w p c 0 (z_wI M 60 x2.toNatClampNeg (0 : Int32)) (x2 + (1 : Int32))
    else
    if hd = 1 then
      if (M.1 (p + 2) 5) ≤ x2 then
      L_X5_weigh w p c 2 M (0 : Int32)
      else
      (F_X5_weighRight w M p x2).bind fun q4 =>
      L_X5_weigh w p c 1 q4.2 (x2 + (1 : Int32))
    else
    if hd = 2 then
      if (1 : Int32) < x2 then
      some ((), M)
      else
      (F_X5_sumHalf w M 61 x2 (0 : Int32)).bind fun q7 =>
      (F_X5_sumHalf w q7.2 62 x2 (6 : Int32)).bind fun q9 =>
      (F_X5_foughtBy w q9.2 x2 (q9.2.1 p 7)).bind fun q11 =>
      if x2 < 0 ∨ 2 ≤ x2.toNatClampNeg then none else
      L_X5_weigh w p c 2 (z_wI q11.2 63 x2.toNatClampNeg q11.1) (x2 + (1 : Int32))
    else
    none
set_option maxHeartbeats 4000000 in
theorem AL_X5_weigh {w : Nat} {p : Nat} (hp : z_par p) : ∀ (c : Nat), (∀ (M : z_Mem) (x2 : Int32) (r : Unit) (M' : z_Mem) (Q : Option Value → z_Mem → Prop), L_X5_weigh w p c 0 M x2 = some (r, M') → Q none M' → z_G none 2 mX5_weigh 18 [some (.ref 61), some (.ref (p + 2)), some (.int x2)] [] M Q) ∧ (∀ (M : z_Mem) (x2 : Int32) (r : Unit) (M' : z_Mem) (Q : Option Value → z_Mem → Prop), L_X5_weigh w p c 1 M x2 = some (r, M') → Q none M' → z_G none 2 mX5_weigh 42 [some (.ref 61), some (.ref (p + 2)), some (.int x2)] [] M Q) ∧ (∀ (M : z_Mem) (x2 : Int32) (r : Unit) (M' : z_Mem) (Q : Option Value → z_Mem → Prop), L_X5_weigh w p c 2 M x2 = some (r, M') → Q none M' → z_G none 2 mX5_weigh 70 [some (.ref 61), some (.ref (p + 2)), some (.int x2)] [] M Q) := by
  intro c
  induction c with
  | zero => exact ⟨(fun M x2 r M' Q h hq => by rw [L_X5_weigh] at h; cases h), (fun M x2 r M' Q h hq => by rw [L_X5_weigh] at h; cases h), (fun M x2 r M' Q h hq => by rw [L_X5_weigh] at h; cases h)⟩
  | succ c ih =>
    refine ⟨fun M x2 r M' Q h hq => ?_, fun M x2 r M' Q h hq => ?_, fun M x2 r M' Q h hq => ?_⟩
    · rw [L_X5_weigh] at h
      replace h := z_ift rfl h
      refine g_iload_n dX5_weigh_18 rfl rfl ?_
      refine g_aload_n dX5_weigh_19 rfl rfl ?_
      refine g_get (a := 59) (v := .ref 62) dX5_weigh_20 f_5_9 sh_59 rfl rfl ?_
      refine g_alen (v := (48 : Int32)) dX5_weigh_23 sh_60 (by decide) ?_
      refine g_ic_ge (t := 40) dX5_weigh_24 (by decide) (fun c1 => ?_) (fun c1 => ?_)
      · replace h := z_ift c1 h
        refine g_iconst (v := (0 : Int32)) dX5_weigh_40 (by decide) ?_
        refine g_istore_n (ls' := [some (.ref 61), some (.ref (p + 2)), some (.int (0 : Int32))]) dX5_weigh_41 rfl (Nat.le_of_ble_eq_true rfl) rfl ?_
        exact g_sub (z_sub_s (z_sub_s (z_sub_s z_sub_nil))) (ih.2.1 _ _ _ _ _ h hq)
      · replace h := z_iff c1 h
        refine g_aload_n dX5_weigh_27 rfl rfl ?_
        refine g_get (a := 59) (v := .ref 62) dX5_weigh_28 f_5_9 sh_59 rfl rfl ?_
        refine g_iload_n dX5_weigh_31 rfl rfl ?_
        refine g_iconst (v := (0 : Int32)) dX5_weigh_32 (by decide) ?_
        by_cases g2 : x2 < 0 ∨ 48 ≤ x2.toNatClampNeg
        · rw [if_pos g2] at h; cases h
        replace h := z_iff g2 h
        refine g_iast (a := 60) dX5_weigh_33 sh_60 g2 ?_
        refine g_iinc (v := x2 + (1 : Int32)) (ls' := [some (.ref 61), some (.ref (p + 2)), some (.int (x2 + (1 : Int32)))]) dX5_weigh_34 rfl rfl rfl ?_
        refine g_goto (t := 18) dX5_weigh_37 (by decide) ?_
        exact g_sub (z_sub_s (z_sub_s (z_sub_s z_sub_nil))) (ih.1 _ _ _ _ _ h hq)
    · rw [L_X5_weigh] at h
      replace h := z_iff (by decide) h
      replace h := z_ift rfl h
      refine g_iload_n dX5_weigh_42 rfl rfl ?_
      refine g_aload_n dX5_weigh_43 rfl rfl ?_
      refine g_get (a := p) (v := .ref (p + 4)) dX5_weigh_44 f_5_35 (shp_0 hp) rfl rfl ?_
      refine g_get (a := p + 2) (v := .int (M.1 (p + 2) 5)) dX5_weigh_47 f_5_39 (shp_2 hp) rfl rfl ?_
      refine g_ic_ge (t := 68) dX5_weigh_50 (by decide) (fun c3 => ?_) (fun c3 => ?_)
      · replace h := z_ift c3 h
        refine g_iconst (v := (0 : Int32)) dX5_weigh_68 (by decide) ?_
        refine g_istore_n (ls' := [some (.ref 61), some (.ref (p + 2)), some (.int (0 : Int32))]) dX5_weigh_69 rfl (Nat.le_of_ble_eq_true rfl) rfl ?_
        exact g_sub (z_sub_s (z_sub_s (z_sub_s z_sub_nil))) (ih.2.2 _ _ _ _ _ h hq)
      · replace h := z_iff c3 h
        refine g_aload_n dX5_weigh_53 rfl rfl ?_
        refine g_aload_n dX5_weigh_54 rfl rfl ?_
        refine g_get (a := p) (v := .ref (p + 4)) dX5_weigh_55 f_5_35 (shp_0 hp) rfl rfl ?_
        refine g_iload_n dX5_weigh_58 rfl rfl ?_
        obtain ⟨q4, e5, h⟩ := z_bd h
        refine g_callV (a := 59) (as := [.ref (p + 4), .int x2]) (rest := []) (c := mX5_weighRight) (k1 := 1) dX5_weigh_59 rfl rfl rfl sh_59 rfl rfl (Nat.le_of_ble_eq_true rfl) (Nat.le_of_ble_eq_true rfl) (by decide) ?_
        refine A_X5_weighRight hp e5 ?_
        show z_G none 2 mX5_weigh 62 [some (.ref 61), some (.ref (p + 2)), some (.int x2)] [] q4.2 Q
        refine g_iinc (v := x2 + (1 : Int32)) (ls' := [some (.ref 61), some (.ref (p + 2)), some (.int (x2 + (1 : Int32)))]) dX5_weigh_62 rfl rfl rfl ?_
        refine g_goto (t := 42) dX5_weigh_65 (by decide) ?_
        exact g_sub (z_sub_s (z_sub_s (z_sub_s z_sub_nil))) (ih.2.1 _ _ _ _ _ h hq)
    · rw [L_X5_weigh] at h
      replace h := z_iff (by decide) h
      replace h := z_iff (by decide) h
      replace h := z_ift rfl h
      refine g_iload_n dX5_weigh_70 rfl rfl ?_
      refine g_iconst (v := (1 : Int32)) dX5_weigh_71 (by decide) ?_
      refine g_ic_gt (t := 117) dX5_weigh_72 (by decide) (fun c6 => ?_) (fun c6 => ?_)
      · replace h := z_ift c6 h
        cases h
        exact g_vret dX5_weigh_117 rfl hq
      · replace h := z_iff c6 h
        refine g_aload_n dX5_weigh_75 rfl rfl ?_
        refine g_aload_n dX5_weigh_76 rfl rfl ?_
        refine g_get (a := 59) (v := .ref 63) dX5_weigh_77 f_5_15 sh_59 rfl rfl ?_
        refine g_iload_n dX5_weigh_80 rfl rfl ?_
        refine g_iconst (v := (0 : Int32)) dX5_weigh_81 (by decide) ?_
        obtain ⟨q7, e8, h⟩ := z_bd h
        refine g_callV (a := 59) (as := [.ref 63, .int x2, .int (0 : Int32)]) (rest := []) (c := mX5_sumHalf) (k1 := 1) dX5_weigh_82 rfl rfl rfl sh_59 rfl rfl (Nat.le_of_ble_eq_true rfl) (Nat.le_of_ble_eq_true rfl) (by decide) ?_
        refine A_X5_sumHalf z_ars_61 e8 ?_
        show z_G none 2 mX5_weigh 85 [some (.ref 61), some (.ref (p + 2)), some (.int x2)] [] q7.2 Q
        refine g_aload_n dX5_weigh_85 rfl rfl ?_
        refine g_aload_n dX5_weigh_86 rfl rfl ?_
        refine g_get (a := 59) (v := .ref 64) dX5_weigh_87 f_5_18 sh_59 rfl rfl ?_
        refine g_iload_n dX5_weigh_90 rfl rfl ?_
        refine g_bipush (v := (6 : Int32)) dX5_weigh_91 (by decide) ?_
        obtain ⟨q9, e10, h⟩ := z_bd h
        refine g_callV (a := 59) (as := [.ref 64, .int x2, .int (6 : Int32)]) (rest := []) (c := mX5_sumHalf) (k1 := 1) dX5_weigh_93 rfl rfl rfl sh_59 rfl rfl (Nat.le_of_ble_eq_true rfl) (Nat.le_of_ble_eq_true rfl) (by decide) ?_
        refine A_X5_sumHalf z_ars_62 e10 ?_
        show z_G none 2 mX5_weigh 96 [some (.ref 61), some (.ref (p + 2)), some (.int x2)] [] q9.2 Q
        refine g_aload_n dX5_weigh_96 rfl rfl ?_
        refine g_get (a := 59) (v := .ref 65) dX5_weigh_97 f_5_21 sh_59 rfl rfl ?_
        refine g_iload_n dX5_weigh_100 rfl rfl ?_
        refine g_aload_n dX5_weigh_101 rfl rfl ?_
        refine g_iload_n dX5_weigh_102 rfl rfl ?_
        refine g_aload_n dX5_weigh_103 rfl rfl ?_
        refine g_get (a := p) (v := .int (q9.2.1 p 7)) dX5_weigh_104 f_5_52 (shp_0 hp) rfl rfl ?_
        obtain ⟨q11, e12, h⟩ := z_bd h
        refine g_callV (a := 59) (as := [.int x2, .int (q9.2.1 p 7)]) (rest := [.int x2, .ref 65]) (c := mX5_foughtBy) (k1 := 1) dX5_weigh_107 rfl rfl rfl sh_59 rfl rfl (Nat.le_of_ble_eq_true rfl) (Nat.le_of_ble_eq_true rfl) (by decide) ?_
        refine A_X5_foughtBy e12 ?_
        show z_G none 2 mX5_weigh 110 [some (.ref 61), some (.ref (p + 2)), some (.int x2)] [.int q11.1, .int x2, .ref 65] q11.2 Q
        by_cases g13 : x2 < 0 ∨ 2 ≤ x2.toNatClampNeg
        · rw [if_pos g13] at h; cases h
        replace h := z_iff g13 h
        refine g_iast (a := 63) dX5_weigh_110 sh_63 g13 ?_
        refine g_iinc (v := x2 + (1 : Int32)) (ls' := [some (.ref 61), some (.ref (p + 2)), some (.int (x2 + (1 : Int32)))]) dX5_weigh_111 rfl rfl rfl ?_
        refine g_goto (t := 70) dX5_weigh_114 (by decide) ?_
        exact g_sub (z_sub_s (z_sub_s (z_sub_s z_sub_nil))) (ih.2.2 _ _ _ _ _ h hq)
def F_X5_weigh (w : Nat) (M : z_Mem) (p : Nat) : Option (Unit × z_Mem) :=
  L_X5_weigh w p w 0 (z_wI (z_wI M 59 4 (M.1 p 6)) 59 5 ((z_wI M 59 4 (M.1 p 6)).1 p 8)) (0 : Int32)
set_option maxHeartbeats 4000000 in
theorem A_X5_weigh {w : Nat} {M : z_Mem} {p : Nat} (hp : z_par p) {r : Unit} {M' : z_Mem} {Q : Option Value → z_Mem → Prop} (h : F_X5_weigh w M p = some (r, M')) (hq : Q none M') : z_Cl 2 mX5_weigh [.ref 61, .ref (p + 2)] M Q := by
  refine g_in (ls := [some (.ref 61), some (.ref (p + 2)), none]) rfl ?_
  unfold F_X5_weigh at h
  refine g_aload_n dX5_weigh_0 rfl rfl ?_
  refine g_aload_n dX5_weigh_1 rfl rfl ?_
  refine g_get (a := p) (v := .int (M.1 p 6)) dX5_weigh_2 f_5_24 (shp_0 hp) rfl rfl ?_
  refine g_putI (a := 59) dX5_weigh_5 f_5_30 sh_59 rfl rfl rfl ?_
  refine g_aload_n dX5_weigh_8 rfl rfl ?_
  refine g_aload_n dX5_weigh_9 rfl rfl ?_
  refine g_get (a := p) (v := .int ((z_wI M 59 4 (M.1 p 6)).1 p 8)) dX5_weigh_10 f_5_31 (shp_0 hp) rfl (by simp [z_fv, z_wI, z_wL, z_wLs, upd, vp_updL]) ?_
  refine g_putI (a := 59) dX5_weigh_13 f_5_34 sh_59 rfl rfl rfl ?_
  refine g_iconst (v := (0 : Int32)) dX5_weigh_16 (by decide) ?_
  refine g_istore_n (ls' := [some (.ref 61), some (.ref (p + 2)), some (.int (0 : Int32))]) dX5_weigh_17 rfl (Nat.le_of_ble_eq_true rfl) rfl ?_
  exact g_sub (z_sub_s (z_sub_s (z_sub_s z_sub_nil))) ((AL_X5_weigh (w := w) hp w).1 _ _ _ _ _ h hq)
