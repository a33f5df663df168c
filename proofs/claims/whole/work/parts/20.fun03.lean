/-! ===== the methods as functions, 3 ===== -/
theorem dX5_gainOf_0 : decode cX5_gainOf 0 = .ok (.aload_n 0, 1) := by decide +kernel
theorem dX5_gainOf_1 : decode cX5_gainOf 1 = .ok (.getfield 15, 3) := by decide +kernel
theorem dX5_gainOf_4 : decode cX5_gainOf 4 = .ok (.iload_n 1, 1) := by decide +kernel
theorem dX5_gainOf_5 : decode cX5_gainOf 5 = .ok (.bipush 64, 2) := by decide +kernel
theorem dX5_gainOf_7 : decode cX5_gainOf 7 = .ok (.imul, 1) := by decide +kernel
theorem dX5_gainOf_8 : decode cX5_gainOf 8 = .ok (.iload_n 2, 1) := by decide +kernel
theorem dX5_gainOf_9 : decode cX5_gainOf 9 = .ok (.bipush 63, 2) := by decide +kernel
theorem dX5_gainOf_11 : decode cX5_gainOf 11 = .ok (.iand, 1) := by decide +kernel
theorem dX5_gainOf_12 : decode cX5_gainOf 12 = .ok (.iadd, 1) := by decide +kernel
theorem dX5_gainOf_13 : decode cX5_gainOf 13 = .ok (.iaload, 1) := by decide +kernel
theorem dX5_gainOf_14 : decode cX5_gainOf 14 = .ok (.aload_n 0, 1) := by decide +kernel
theorem dX5_gainOf_15 : decode cX5_gainOf 15 = .ok (.getfield 18, 3) := by decide +kernel
theorem dX5_gainOf_18 : decode cX5_gainOf 18 = .ok (.iload_n 1, 1) := by decide +kernel
theorem dX5_gainOf_19 : decode cX5_gainOf 19 = .ok (.bipush 64, 2) := by decide +kernel
theorem dX5_gainOf_21 : decode cX5_gainOf 21 = .ok (.imul, 1) := by decide +kernel
theorem dX5_gainOf_22 : decode cX5_gainOf 22 = .ok (.iload_n 2, 1) := by decide +kernel
theorem dX5_gainOf_23 : decode cX5_gainOf 23 = .ok (.bipush 6, 2) := by decide +kernel
theorem dX5_gainOf_25 : decode cX5_gainOf 25 = .ok (.ishr, 1) := by decide +kernel
theorem dX5_gainOf_26 : decode cX5_gainOf 26 = .ok (.bipush 63, 2) := by decide +kernel
theorem dX5_gainOf_28 : decode cX5_gainOf 28 = .ok (.iand, 1) := by decide +kernel
theorem dX5_gainOf_29 : decode cX5_gainOf 29 = .ok (.iadd, 1) := by decide +kernel
theorem dX5_gainOf_30 : decode cX5_gainOf 30 = .ok (.iaload, 1) := by decide +kernel
theorem dX5_gainOf_31 : decode cX5_gainOf 31 = .ok (.iadd, 1) := by decide +kernel
theorem dX5_gainOf_32 : decode cX5_gainOf 32 = .ok (.ireturn, 1) := by decide +kernel
def F_X5_gainOf (w : Nat) (M : z_Mem) (a1 : Int32) (a2 : Int32) : Option (Int32 × z_Mem) :=
  if ((a1 * (64 : Int32)) + (a2 &&& (63 : Int32))) < 0 ∨ 128 ≤ ((a1 * (64 : Int32)) + (a2 &&& (63 : Int32))).toNatClampNeg then none else
  if ((a1 * (64 : Int32)) + ((a2 >>> ((6 : Int32) &&& 31)) &&& (63 : Int32))) < 0 ∨ 128 ≤ ((a1 * (64 : Int32)) + ((a2 >>> ((6 : Int32) &&& 31)) &&& (63 : Int32))).toNatClampNeg then none else
  some ((M.1 61 ((a1 * (64 : Int32)) + (a2 &&& (63 : Int32))).toNatClampNeg) + (M.1 62 ((a1 * (64 : Int32)) + ((a2 >>> ((6 : Int32) &&& 31)) &&& (63 : Int32))).toNatClampNeg), M)
set_option maxHeartbeats 4000000 in
theorem A_X5_gainOf {w : Nat} {M : z_Mem} {a1 : Int32} {a2 : Int32} {r : Int32} {M' : z_Mem} {Q : Option Value → z_Mem → Prop} (h : F_X5_gainOf w M a1 a2 = some (r, M')) (hq : Q (some (.int r)) M') : z_Cl 0 mX5_gainOf [.ref 61, .int a1, .int a2] M Q := by
  refine g_in (ls := [some (.ref 61), some (.int a1), some (.int a2)]) rfl ?_
  unfold F_X5_gainOf at h
  refine g_aload_n dX5_gainOf_0 rfl rfl ?_
  refine g_get (a := 59) (v := .ref 63) dX5_gainOf_1 f_5_15 sh_59 rfl rfl ?_
  refine g_iload_n dX5_gainOf_4 rfl rfl ?_
  refine g_bipush (v := (64 : Int32)) dX5_gainOf_5 (by decide) ?_
  refine g_imul dX5_gainOf_7 ?_
  refine g_iload_n dX5_gainOf_8 rfl rfl ?_
  refine g_bipush (v := (63 : Int32)) dX5_gainOf_9 (by decide) ?_
  refine g_iand dX5_gainOf_11 ?_
  refine g_iadd dX5_gainOf_12 ?_
  by_cases g1 : ((a1 * (64 : Int32)) + (a2 &&& (63 : Int32))) < 0 ∨ 128 ≤ ((a1 * (64 : Int32)) + (a2 &&& (63 : Int32))).toNatClampNeg
  · rw [if_pos g1] at h; cases h
  replace h := z_iff g1 h
  refine g_iald (a := 61) dX5_gainOf_13 sh_61 g1 ?_
  refine g_aload_n dX5_gainOf_14 rfl rfl ?_
  refine g_get (a := 59) (v := .ref 64) dX5_gainOf_15 f_5_18 sh_59 rfl rfl ?_
  refine g_iload_n dX5_gainOf_18 rfl rfl ?_
  refine g_bipush (v := (64 : Int32)) dX5_gainOf_19 (by decide) ?_
  refine g_imul dX5_gainOf_21 ?_
  refine g_iload_n dX5_gainOf_22 rfl rfl ?_
  refine g_bipush (v := (6 : Int32)) dX5_gainOf_23 (by decide) ?_
  refine g_ishr dX5_gainOf_25 ?_
  refine g_bipush (v := (63 : Int32)) dX5_gainOf_26 (by decide) ?_
  refine g_iand dX5_gainOf_28 ?_
  refine g_iadd dX5_gainOf_29 ?_
  by_cases g2 : ((a1 * (64 : Int32)) + ((a2 >>> ((6 : Int32) &&& 31)) &&& (63 : Int32))) < 0 ∨ 128 ≤ ((a1 * (64 : Int32)) + ((a2 >>> ((6 : Int32) &&& 31)) &&& (63 : Int32))).toNatClampNeg
  · rw [if_pos g2] at h; cases h
  replace h := z_iff g2 h
  refine g_iald (a := 62) dX5_gainOf_30 sh_62 g2 ?_
  refine g_iadd dX5_gainOf_31 ?_
  cases h
  exact g_iret dX5_gainOf_32 rfl rfl hq
theorem dX5_changesOf_0 : decode cX5_changesOf 0 = .ok (.iload_n 0, 1) := by decide +kernel
theorem dX5_changesOf_1 : decode cX5_changesOf 1 = .ok (.iconst 1, 1) := by decide +kernel
theorem dX5_changesOf_2 : decode cX5_changesOf 2 = .ok (.ishl, 1) := by decide +kernel
theorem dX5_changesOf_3 : decode cX5_changesOf 3 = .ok (.iload_n 0, 1) := by decide +kernel
theorem dX5_changesOf_4 : decode cX5_changesOf 4 = .ok (.bipush 11, 2) := by decide +kernel
theorem dX5_changesOf_6 : decode cX5_changesOf 6 = .ok (.ishr, 1) := by decide +kernel
theorem dX5_changesOf_7 : decode cX5_changesOf 7 = .ok (.ior, 1) := by decide +kernel
theorem dX5_changesOf_8 : decode cX5_changesOf 8 = .ok (.sipush 4095, 3) := by decide +kernel
theorem dX5_changesOf_11 : decode cX5_changesOf 11 = .ok (.iand, 1) := by decide +kernel
theorem dX5_changesOf_12 : decode cX5_changesOf 12 = .ok (.istore_n 1, 1) := by decide +kernel
theorem dX5_changesOf_13 : decode cX5_changesOf 13 = .ok (.iload_n 0, 1) := by decide +kernel
theorem dX5_changesOf_14 : decode cX5_changesOf 14 = .ok (.iload_n 1, 1) := by decide +kernel
theorem dX5_changesOf_15 : decode cX5_changesOf 15 = .ok (.ixor, 1) := by decide +kernel
theorem dX5_changesOf_16 : decode cX5_changesOf 16 = .ok (.invokestatic 79, 3) := by decide +kernel
theorem dX5_changesOf_19 : decode cX5_changesOf 19 = .ok (.ireturn, 1) := by decide +kernel
def F_X5_changesOf (w : Nat) (M : z_Mem) (a0 : Int32) : Option (Int32 × z_Mem) :=
  (F_J6_bitCount_0f7a4 w M (a0 ^^^ (((a0 <<< ((1 : Int32) &&& 31)) ||| (a0 >>> ((11 : Int32) &&& 31))) &&& (4095 : Int32)))).bind fun q1 =>
  some (q1.1, q1.2)
set_option maxHeartbeats 4000000 in
theorem A_X5_changesOf {w : Nat} {M : z_Mem} {a0 : Int32} {r : Int32} {M' : z_Mem} {Q : Option Value → z_Mem → Prop} (h : F_X5_changesOf w M a0 = some (r, M')) (hq : Q (some (.int r)) M') : z_Cl 1 mX5_changesOf [.int a0] M Q := by
  refine g_in (ls := [some (.int a0), none]) rfl ?_
  unfold F_X5_changesOf at h
  refine g_iload_n dX5_changesOf_0 rfl rfl ?_
  refine g_iconst (v := (1 : Int32)) dX5_changesOf_1 (by decide) ?_
  refine g_ishl dX5_changesOf_2 ?_
  refine g_iload_n dX5_changesOf_3 rfl rfl ?_
  refine g_bipush (v := (11 : Int32)) dX5_changesOf_4 (by decide) ?_
  refine g_ishr dX5_changesOf_6 ?_
  refine g_ior dX5_changesOf_7 ?_
  refine g_sipush (v := (4095 : Int32)) dX5_changesOf_8 (by decide) ?_
  refine g_iand dX5_changesOf_11 ?_
  refine g_istore_n (ls' := [some (.int a0), some (.int (((a0 <<< ((1 : Int32) &&& 31)) ||| (a0 >>> ((11 : Int32) &&& 31))) &&& (4095 : Int32)))]) dX5_changesOf_12 rfl (Nat.le_of_ble_eq_true rfl) rfl ?_
  refine g_iload_n dX5_changesOf_13 rfl rfl ?_
  refine g_iload_n dX5_changesOf_14 rfl rfl ?_
  refine g_ixor dX5_changesOf_15 ?_
  obtain ⟨q1, e2, h⟩ := z_bd h
  refine g_callS (as := [.int (a0 ^^^ (((a0 <<< ((1 : Int32) &&& 31)) ||| (a0 >>> ((11 : Int32) &&& 31))) &&& (4095 : Int32)))]) (rest := []) (c := mJ6_bitCount_0f7a4) (k1 := 0) dX5_changesOf_16 rfl rfl rfl rfl rfl (Nat.le_of_ble_eq_true rfl) (Nat.le_of_ble_eq_true rfl) (by decide) ?_
  refine A_J6_bitCount_0f7a4 e2 ?_
  show z_G none 1 mX5_changesOf 19 [some (.int a0), some (.int (((a0 <<< ((1 : Int32) &&& 31)) ||| (a0 >>> ((11 : Int32) &&& 31))) &&& (4095 : Int32)))] [.int q1.1] q1.2 Q
  cases h
  exact g_iret dX5_changesOf_19 rfl rfl hq
theorem dX5_netOf_0 : decode cX5_netOf 0 = .ok (.aload_n 0, 1) := by decide +kernel
theorem dX5_netOf_1 : decode cX5_netOf 1 = .ok (.iconst 0, 1) := by decide +kernel
theorem dX5_netOf_2 : decode cX5_netOf 2 = .ok (.iload_n 1, 1) := by decide +kernel
theorem dX5_netOf_3 : decode cX5_netOf 3 = .ok (.invokevirtual 85, 3) := by decide +kernel
theorem dX5_netOf_6 : decode cX5_netOf 6 = .ok (.aload_n 0, 1) := by decide +kernel
theorem dX5_netOf_7 : decode cX5_netOf 7 = .ok (.iconst 1, 1) := by decide +kernel
theorem dX5_netOf_8 : decode cX5_netOf 8 = .ok (.iload_n 1, 1) := by decide +kernel
theorem dX5_netOf_9 : decode cX5_netOf 9 = .ok (.invokevirtual 85, 3) := by decide +kernel
theorem dX5_netOf_12 : decode cX5_netOf 12 = .ok (.iadd, 1) := by decide +kernel
theorem dX5_netOf_13 : decode cX5_netOf 13 = .ok (.aload_n 0, 1) := by decide +kernel
theorem dX5_netOf_14 : decode cX5_netOf 14 = .ok (.getfield 30, 3) := by decide +kernel
theorem dX5_netOf_17 : decode cX5_netOf 17 = .ok (.iload_n 1, 1) := by decide +kernel
theorem dX5_netOf_18 : decode cX5_netOf 18 = .ok (.invokestatic 88, 3) := by decide +kernel
theorem dX5_netOf_21 : decode cX5_netOf 21 = .ok (.imul, 1) := by decide +kernel
theorem dX5_netOf_22 : decode cX5_netOf 22 = .ok (.isub, 1) := by decide +kernel
theorem dX5_netOf_23 : decode cX5_netOf 23 = .ok (.ireturn, 1) := by decide +kernel
def F_X5_netOf (w : Nat) (M : z_Mem) (a1 : Int32) : Option (Int32 × z_Mem) :=
  (F_X5_gainOf w M (0 : Int32) a1).bind fun q1 =>
  (F_X5_gainOf w q1.2 (1 : Int32) a1).bind fun q3 =>
  (F_X5_changesOf w q3.2 a1).bind fun q5 =>
  some ((q1.1 + q3.1) - ((q3.2.1 59 4) * q5.1), q5.2)
set_option maxHeartbeats 4000000 in
theorem A_X5_netOf {w : Nat} {M : z_Mem} {a1 : Int32} {r : Int32} {M' : z_Mem} {Q : Option Value → z_Mem → Prop} (h : F_X5_netOf w M a1 = some (r, M')) (hq : Q (some (.int r)) M') : z_Cl 2 mX5_netOf [.ref 61, .int a1] M Q := by
  refine g_in (ls := [some (.ref 61), some (.int a1)]) rfl ?_
  unfold F_X5_netOf at h
  refine g_aload_n dX5_netOf_0 rfl rfl ?_
  refine g_iconst (v := (0 : Int32)) dX5_netOf_1 (by decide) ?_
  refine g_iload_n dX5_netOf_2 rfl rfl ?_
  obtain ⟨q1, e2, h⟩ := z_bd h
  refine g_callV (a := 59) (as := [.int (0 : Int32), .int a1]) (rest := []) (c := mX5_gainOf) (k1 := 0) dX5_netOf_3 rfl rfl rfl sh_59 rfl rfl (Nat.le_of_ble_eq_true rfl) (Nat.le_of_ble_eq_true rfl) (by decide) ?_
  refine A_X5_gainOf e2 ?_
  show z_G none 2 mX5_netOf 6 [some (.ref 61), some (.int a1)] [.int q1.1] q1.2 Q
  refine g_aload_n dX5_netOf_6 rfl rfl ?_
  refine g_iconst (v := (1 : Int32)) dX5_netOf_7 (by decide) ?_
  refine g_iload_n dX5_netOf_8 rfl rfl ?_
  obtain ⟨q3, e4, h⟩ := z_bd h
  refine g_callV (a := 59) (as := [.int (1 : Int32), .int a1]) (rest := [.int q1.1]) (c := mX5_gainOf) (k1 := 0) dX5_netOf_9 rfl rfl rfl sh_59 rfl rfl (Nat.le_of_ble_eq_true rfl) (Nat.le_of_ble_eq_true rfl) (by decide) ?_
  refine A_X5_gainOf e4 ?_
  show z_G none 2 mX5_netOf 12 [some (.ref 61), some (.int a1)] [.int q3.1, .int q1.1] q3.2 Q
  refine g_iadd dX5_netOf_12 ?_
  refine g_aload_n dX5_netOf_13 rfl rfl ?_
  refine g_get (a := 59) (v := .int (q3.2.1 59 4)) dX5_netOf_14 f_5_30 sh_59 rfl rfl ?_
  refine g_iload_n dX5_netOf_17 rfl rfl ?_
  obtain ⟨q5, e6, h⟩ := z_bd h
  refine g_callS (as := [.int a1]) (rest := [.int (q3.2.1 59 4), .int (q1.1 + q3.1)]) (c := mX5_changesOf) (k1 := 1) dX5_netOf_18 rfl rfl rfl rfl rfl (Nat.le_of_ble_eq_true rfl) (Nat.le_of_ble_eq_true rfl) (by decide) ?_
  refine A_X5_changesOf e6 ?_
  show z_G none 2 mX5_netOf 21 [some (.ref 61), some (.int a1)] [.int q5.1, .int (q3.2.1 59 4), .int (q1.1 + q3.1)] q5.2 Q
  refine g_imul dX5_netOf_21 ?_
  refine g_isub dX5_netOf_22 ?_
  cases h
  exact g_iret dX5_netOf_23 rfl rfl hq
theorem dX5_bestWithin_0 : decode cX5_bestWithin 0 = .ok (.iconst 0, 1) := by decide +kernel
theorem dX5_bestWithin_1 : decode cX5_bestWithin 1 = .ok (.istore_n 2, 1) := by decide +kernel
theorem dX5_bestWithin_2 : decode cX5_bestWithin 2 = .ok (.aload_n 0, 1) := by decide +kernel
theorem dX5_bestWithin_3 : decode cX5_bestWithin 3 = .ok (.iconst 0, 1) := by decide +kernel
theorem dX5_bestWithin_4 : decode cX5_bestWithin 4 = .ok (.invokevirtual 91, 3) := by decide +kernel
theorem dX5_bestWithin_7 : decode cX5_bestWithin 7 = .ok (.istore_n 3, 1) := by decide +kernel
theorem dX5_bestWithin_8 : decode cX5_bestWithin 8 = .ok (.iconst 1, 1) := by decide +kernel
theorem dX5_bestWithin_9 : decode cX5_bestWithin 9 = .ok (.istore 4, 2) := by decide +kernel
theorem dX5_bestWithin_11 : decode cX5_bestWithin 11 = .ok (.iload 4, 2) := by decide +kernel
theorem dX5_bestWithin_13 : decode cX5_bestWithin 13 = .ok (.sipush 4095, 3) := by decide +kernel
theorem dX5_bestWithin_16 : decode cX5_bestWithin 16 = .ok (.if_icmp .gt 38, 3) := by decide +kernel
theorem dX5_bestWithin_19 : decode cX5_bestWithin 19 = .ok (.iload 4, 2) := by decide +kernel
theorem dX5_bestWithin_21 : decode cX5_bestWithin 21 = .ok (.invokestatic 88, 3) := by decide +kernel
theorem dX5_bestWithin_24 : decode cX5_bestWithin 24 = .ok (.iload_n 1, 1) := by decide +kernel
theorem dX5_bestWithin_25 : decode cX5_bestWithin 25 = .ok (.if_icmp .gt 23, 3) := by decide +kernel
theorem dX5_bestWithin_28 : decode cX5_bestWithin 28 = .ok (.aload_n 0, 1) := by decide +kernel
theorem dX5_bestWithin_29 : decode cX5_bestWithin 29 = .ok (.iload 4, 2) := by decide +kernel
theorem dX5_bestWithin_31 : decode cX5_bestWithin 31 = .ok (.invokevirtual 91, 3) := by decide +kernel
theorem dX5_bestWithin_34 : decode cX5_bestWithin 34 = .ok (.iload_n 3, 1) := by decide +kernel
theorem dX5_bestWithin_35 : decode cX5_bestWithin 35 = .ok (.if_icmp .le 13, 3) := by decide +kernel
theorem dX5_bestWithin_38 : decode cX5_bestWithin 38 = .ok (.iload 4, 2) := by decide +kernel
theorem dX5_bestWithin_40 : decode cX5_bestWithin 40 = .ok (.istore_n 2, 1) := by decide +kernel
theorem dX5_bestWithin_41 : decode cX5_bestWithin 41 = .ok (.aload_n 0, 1) := by decide +kernel
theorem dX5_bestWithin_42 : decode cX5_bestWithin 42 = .ok (.iload 4, 2) := by decide +kernel
theorem dX5_bestWithin_44 : decode cX5_bestWithin 44 = .ok (.invokevirtual 91, 3) := by decide +kernel
theorem dX5_bestWithin_47 : decode cX5_bestWithin 47 = .ok (.istore_n 3, 1) := by decide +kernel
theorem dX5_bestWithin_48 : decode cX5_bestWithin 48 = .ok (.iinc 4 1, 3) := by decide +kernel
theorem dX5_bestWithin_51 : decode cX5_bestWithin 51 = .ok (.goto (-40), 3) := by decide +kernel
theorem dX5_bestWithin_54 : decode cX5_bestWithin 54 = .ok (.iload_n 2, 1) := by decide +kernel
theorem dX5_bestWithin_55 : decode cX5_bestWithin 55 = .ok (.ireturn, 1) := by decide +kernel
def L_X5_bestWithin (w : Nat) : Nat → z_Mem → Int32 → Int32 → Int32 → Int32 → Option (Int32 × z_Mem)
  | 0, _, _, _, _, _ => none
  | c + 1, M, x1, x2, x3, x4 =>
    if (4095 : Int32) < x4 then
    some (x2, M)
    else
    (F_X5_changesOf w M x4).bind fun q2 =>
    if x1 < q2.1 then
    L_X5_bestWithin w c q2.2 x1 x2 x3 (x4 + (1 : Int32))
    else
    (F_X5_netOf w q2.2 x4).bind fun q5 =>
    if q5.1 ≤ x3 then
    L_X5_bestWithin w c q5.2 x1 x2 x3 (x4 + (1 : Int32))
    else
    (F_X5_netOf w q5.2 x4).bind fun q8 =>
    L_X5_bestWithin w c q8.2 x1 x4 q8.1 (x4 + (1 : Int32))
set_option maxHeartbeats 4000000 in
theorem AL_X5_bestWithin {w : Nat} : ∀ (c : Nat), (∀ (M : z_Mem) (x1 : Int32) (x2 : Int32) (x3 : Int32) (x4 : Int32) (r : Int32) (M' : z_Mem) (Q : Option Value → z_Mem → Prop), L_X5_bestWithin w c M x1 x2 x3 x4 = some (r, M') → Q (some (.int r)) M' → z_G none 3 mX5_bestWithin 11 [some (.ref 61), some (.int x1), some (.int x2), some (.int x3), some (.int x4)] [] M Q) := by
  intro c
  induction c with
  | zero => exact (fun M x1 x2 x3 x4 r M' Q h hq => by rw [L_X5_bestWithin] at h; cases h)
  | succ c ih =>
    intro M x1 x2 x3 x4 r M' Q h hq
    rw [L_X5_bestWithin] at h
    refine g_iload dX5_bestWithin_11 rfl ?_
    refine g_sipush (v := (4095 : Int32)) dX5_bestWithin_13 (by decide) ?_
    refine g_ic_gt (t := 54) dX5_bestWithin_16 (by decide) (fun c1 => ?_) (fun c1 => ?_)
    · replace h := z_ift c1 h
      refine g_iload_n dX5_bestWithin_54 rfl rfl ?_
      cases h
      exact g_iret dX5_bestWithin_55 rfl rfl hq
    · replace h := z_iff c1 h
      refine g_iload dX5_bestWithin_19 rfl ?_
      obtain ⟨q2, e3, h⟩ := z_bd h
      refine g_callS (as := [.int x4]) (rest := []) (c := mX5_changesOf) (k1 := 1) dX5_bestWithin_21 rfl rfl rfl rfl rfl (Nat.le_of_ble_eq_true rfl) (Nat.le_of_ble_eq_true rfl) (by decide) ?_
      refine A_X5_changesOf e3 ?_
      show z_G none 3 mX5_bestWithin 24 [some (.ref 61), some (.int x1), some (.int x2), some (.int x3), some (.int x4)] [.int q2.1] q2.2 Q
      refine g_iload_n dX5_bestWithin_24 rfl rfl ?_
      refine g_ic_gt (t := 48) dX5_bestWithin_25 (by decide) (fun c4 => ?_) (fun c4 => ?_)
      · replace h := z_ift c4 h
        refine g_iinc (v := x4 + (1 : Int32)) (ls' := [some (.ref 61), some (.int x1), some (.int x2), some (.int x3), some (.int (x4 + (1 : Int32)))]) dX5_bestWithin_48 rfl rfl rfl ?_
        refine g_goto (t := 11) dX5_bestWithin_51 (by decide) ?_
        exact g_sub (z_sub_s (z_sub_s (z_sub_s (z_sub_s (z_sub_s z_sub_nil))))) (ih _ _ _ _ _ _ _ _ h hq)
      · replace h := z_iff c4 h
        refine g_aload_n dX5_bestWithin_28 rfl rfl ?_
        refine g_iload dX5_bestWithin_29 rfl ?_
        obtain ⟨q5, e6, h⟩ := z_bd h
        refine g_callV (a := 59) (as := [.int x4]) (rest := []) (c := mX5_netOf) (k1 := 2) dX5_bestWithin_31 rfl rfl rfl sh_59 rfl rfl (Nat.le_of_ble_eq_true rfl) (Nat.le_of_ble_eq_true rfl) (by decide) ?_
        refine A_X5_netOf e6 ?_
        show z_G none 3 mX5_bestWithin 34 [some (.ref 61), some (.int x1), some (.int x2), some (.int x3), some (.int x4)] [.int q5.1] q5.2 Q
        refine g_iload_n dX5_bestWithin_34 rfl rfl ?_
        refine g_ic_le (t := 48) dX5_bestWithin_35 (by decide) (fun c7 => ?_) (fun c7 => ?_)
        · replace h := z_ift c7 h
          refine g_iinc (v := x4 + (1 : Int32)) (ls' := [some (.ref 61), some (.int x1), some (.int x2), some (.int x3), some (.int (x4 + (1 : Int32)))]) dX5_bestWithin_48 rfl rfl rfl ?_
          refine g_goto (t := 11) dX5_bestWithin_51 (by decide) ?_
          exact g_sub (z_sub_s (z_sub_s (z_sub_s (z_sub_s (z_sub_s z_sub_nil))))) (ih _ _ _ _ _ _ _ _ h hq)
        · replace h := z_iff c7 h
          refine g_iload dX5_bestWithin_38 rfl ?_
          refine g_istore_n (ls' := [some (.ref 61), some (.int x1), some (.int x4), some (.int x3), some (.int x4)]) dX5_bestWithin_40 rfl (Nat.le_of_ble_eq_true rfl) rfl ?_
          refine g_aload_n dX5_bestWithin_41 rfl rfl ?_
          refine g_iload dX5_bestWithin_42 rfl ?_
          obtain ⟨q8, e9, h⟩ := z_bd h
          refine g_callV (a := 59) (as := [.int x4]) (rest := []) (c := mX5_netOf) (k1 := 2) dX5_bestWithin_44 rfl rfl rfl sh_59 rfl rfl (Nat.le_of_ble_eq_true rfl) (Nat.le_of_ble_eq_true rfl) (by decide) ?_
          refine A_X5_netOf e9 ?_
          show z_G none 3 mX5_bestWithin 47 [some (.ref 61), some (.int x1), some (.int x4), some (.int x3), some (.int x4)] [.int q8.1] q8.2 Q
          refine g_istore_n (ls' := [some (.ref 61), some (.int x1), some (.int x4), some (.int q8.1), some (.int x4)]) dX5_bestWithin_47 rfl (Nat.le_of_ble_eq_true rfl) rfl ?_
          refine g_iinc (v := x4 + (1 : Int32)) (ls' := [some (.ref 61), some (.int x1), some (.int x4), some (.int q8.1), some (.int (x4 + (1 : Int32)))]) dX5_bestWithin_48 rfl rfl rfl ?_
          refine g_goto (t := 11) dX5_bestWithin_51 (by decide) ?_
          exact g_sub (z_sub_s (z_sub_s (z_sub_s (z_sub_s (z_sub_s z_sub_nil))))) (ih _ _ _ _ _ _ _ _ h hq)
def F_X5_bestWithin (w : Nat) (M : z_Mem) (a1 : Int32) : Option (Int32 × z_Mem) :=
  (F_X5_netOf w M (0 : Int32)).bind fun q10 =>
  L_X5_bestWithin w w q10.2 a1 (0 : Int32) q10.1 (1 : Int32)
set_option maxHeartbeats 4000000 in
theorem A_X5_bestWithin {w : Nat} {M : z_Mem} {a1 : Int32} {r : Int32} {M' : z_Mem} {Q : Option Value → z_Mem → Prop} (h : F_X5_bestWithin w M a1 = some (r, M')) (hq : Q (some (.int r)) M') : z_Cl 3 mX5_bestWithin [.ref 61, .int a1] M Q := by
  refine g_in (ls := [some (.ref 61), some (.int a1), none, none, none]) rfl ?_
  unfold F_X5_bestWithin at h
  refine g_iconst (v := (0 : Int32)) dX5_bestWithin_0 (by decide) ?_
  refine g_istore_n (ls' := [some (.ref 61), some (.int a1), some (.int (0 : Int32)), none, none]) dX5_bestWithin_1 rfl (Nat.le_of_ble_eq_true rfl) rfl ?_
  refine g_aload_n dX5_bestWithin_2 rfl rfl ?_
  refine g_iconst (v := (0 : Int32)) dX5_bestWithin_3 (by decide) ?_
  obtain ⟨q10, e11, h⟩ := z_bd h
  refine g_callV (a := 59) (as := [.int (0 : Int32)]) (rest := []) (c := mX5_netOf) (k1 := 2) dX5_bestWithin_4 rfl rfl rfl sh_59 rfl rfl (Nat.le_of_ble_eq_true rfl) (Nat.le_of_ble_eq_true rfl) (by decide) ?_
  refine A_X5_netOf e11 ?_
  show z_G none 3 mX5_bestWithin 7 [some (.ref 61), some (.int a1), some (.int (0 : Int32)), none, none] [.int q10.1] q10.2 Q
  refine g_istore_n (ls' := [some (.ref 61), some (.int a1), some (.int (0 : Int32)), some (.int q10.1), none]) dX5_bestWithin_7 rfl (Nat.le_of_ble_eq_true rfl) rfl ?_
  refine g_iconst (v := (1 : Int32)) dX5_bestWithin_8 (by decide) ?_
  refine g_istore (ls' := [some (.ref 61), some (.int a1), some (.int (0 : Int32)), some (.int q10.1), some (.int (1 : Int32))]) dX5_bestWithin_9 (Nat.le_of_ble_eq_true rfl) rfl ?_
  exact g_sub (z_sub_s (z_sub_s (z_sub_s (z_sub_s (z_sub_s z_sub_nil))))) ((AL_X5_bestWithin (w := w) w) _ _ _ _ _ _ _ _ h hq)
theorem dX5_isFair_0 : decode cX5_isFair 0 = .ok (.sipush 4095, 3) := by decide +kernel
theorem dX5_isFair_3 : decode cX5_isFair 3 = .ok (.iload_n 1, 1) := by decide +kernel
theorem dX5_isFair_4 : decode cX5_isFair 4 = .ok (.ixor, 1) := by decide +kernel
theorem dX5_isFair_5 : decode cX5_isFair 5 = .ok (.istore_n 2, 1) := by decide +kernel
theorem dX5_isFair_6 : decode cX5_isFair 6 = .ok (.aload_n 0, 1) := by decide +kernel
theorem dX5_isFair_7 : decode cX5_isFair 7 = .ok (.iconst 0, 1) := by decide +kernel
theorem dX5_isFair_8 : decode cX5_isFair 8 = .ok (.iload_n 2, 1) := by decide +kernel
theorem dX5_isFair_9 : decode cX5_isFair 9 = .ok (.invokevirtual 85, 3) := by decide +kernel
theorem dX5_isFair_12 : decode cX5_isFair 12 = .ok (.aload_n 0, 1) := by decide +kernel
theorem dX5_isFair_13 : decode cX5_isFair 13 = .ok (.iconst 0, 1) := by decide +kernel
theorem dX5_isFair_14 : decode cX5_isFair 14 = .ok (.iload_n 1, 1) := by decide +kernel
theorem dX5_isFair_15 : decode cX5_isFair 15 = .ok (.invokevirtual 85, 3) := by decide +kernel
theorem dX5_isFair_18 : decode cX5_isFair 18 = .ok (.if_icmp .gt 22, 3) := by decide +kernel
theorem dX5_isFair_21 : decode cX5_isFair 21 = .ok (.aload_n 0, 1) := by decide +kernel
theorem dX5_isFair_22 : decode cX5_isFair 22 = .ok (.iconst 1, 1) := by decide +kernel
theorem dX5_isFair_23 : decode cX5_isFair 23 = .ok (.iload_n 2, 1) := by decide +kernel
theorem dX5_isFair_24 : decode cX5_isFair 24 = .ok (.invokevirtual 85, 3) := by decide +kernel
theorem dX5_isFair_27 : decode cX5_isFair 27 = .ok (.aload_n 0, 1) := by decide +kernel
theorem dX5_isFair_28 : decode cX5_isFair 28 = .ok (.iconst 1, 1) := by decide +kernel
theorem dX5_isFair_29 : decode cX5_isFair 29 = .ok (.iload_n 1, 1) := by decide +kernel
theorem dX5_isFair_30 : decode cX5_isFair 30 = .ok (.invokevirtual 85, 3) := by decide +kernel
theorem dX5_isFair_33 : decode cX5_isFair 33 = .ok (.if_icmp .gt 7, 3) := by decide +kernel
theorem dX5_isFair_36 : decode cX5_isFair 36 = .ok (.iconst 1, 1) := by decide +kernel
theorem dX5_isFair_37 : decode cX5_isFair 37 = .ok (.goto 4, 3) := by decide +kernel
theorem dX5_isFair_40 : decode cX5_isFair 40 = .ok (.iconst 0, 1) := by decide +kernel
theorem dX5_isFair_41 : decode cX5_isFair 41 = .ok (.ireturn, 1) := by decide +kernel
def F_X5_isFair (w : Nat) (M : z_Mem) (a1 : Int32) : Option (Bool × z_Mem) :=
  (F_X5_gainOf w M (0 : Int32) ((4095 : Int32) ^^^ a1)).bind fun q1 =>
  (F_X5_gainOf w q1.2 (0 : Int32) a1).bind fun q3 =>
  if q3.1 < q1.1 then
  some (false, q3.2)
  else
  (F_X5_gainOf w q3.2 (1 : Int32) ((4095 : Int32) ^^^ a1)).bind fun q6 =>
  (F_X5_gainOf w q6.2 (1 : Int32) a1).bind fun q8 =>
  if q8.1 < q6.1 then
  some (false, q8.2)
  else
  some (true, q8.2)
set_option maxHeartbeats 4000000 in
theorem A_X5_isFair {w : Nat} {M : z_Mem} {a1 : Int32} {r : Bool} {M' : z_Mem} {Q : Option Value → z_Mem → Prop} (h : F_X5_isFair w M a1 = some (r, M')) (hq : Q (some (.int (z_tb r))) M') : z_Cl 1 mX5_isFair [.ref 61, .int a1] M Q := by
  refine g_in (ls := [some (.ref 61), some (.int a1), none]) rfl ?_
  unfold F_X5_isFair at h
  refine g_sipush (v := (4095 : Int32)) dX5_isFair_0 (by decide) ?_
  refine g_iload_n dX5_isFair_3 rfl rfl ?_
  refine g_ixor dX5_isFair_4 ?_
  refine g_istore_n (ls' := [some (.ref 61), some (.int a1), some (.int ((4095 : Int32) ^^^ a1))]) dX5_isFair_5 rfl (Nat.le_of_ble_eq_true rfl) rfl ?_
  refine g_aload_n dX5_isFair_6 rfl rfl ?_
  refine g_iconst (v := (0 : Int32)) dX5_isFair_7 (by decide) ?_
  refine g_iload_n dX5_isFair_8 rfl rfl ?_
  obtain ⟨q1, e2, h⟩ := z_bd h
  refine g_callV (a := 59) (as := [.int (0 : Int32), .int ((4095 : Int32) ^^^ a1)]) (rest := []) (c := mX5_gainOf) (k1 := 0) dX5_isFair_9 rfl rfl rfl sh_59 rfl rfl (Nat.le_of_ble_eq_true rfl) (Nat.le_of_ble_eq_true rfl) (by decide) ?_
  refine A_X5_gainOf e2 ?_
  show z_G none 1 mX5_isFair 12 [some (.ref 61), some (.int a1), some (.int ((4095 : Int32) ^^^ a1))] [.int q1.1] q1.2 Q
  refine g_aload_n dX5_isFair_12 rfl rfl ?_
  refine g_iconst (v := (0 : Int32)) dX5_isFair_13 (by decide) ?_
  refine g_iload_n dX5_isFair_14 rfl rfl ?_
  obtain ⟨q3, e4, h⟩ := z_bd h
  refine g_callV (a := 59) (as := [.int (0 : Int32), .int a1]) (rest := [.int q1.1]) (c := mX5_gainOf) (k1 := 0) dX5_isFair_15 rfl rfl rfl sh_59 rfl rfl (Nat.le_of_ble_eq_true rfl) (Nat.le_of_ble_eq_true rfl) (by decide) ?_
  refine A_X5_gainOf e4 ?_
  show z_G none 1 mX5_isFair 18 [some (.ref 61), some (.int a1), some (.int ((4095 : Int32) ^^^ a1))] [.int q3.1, .int q1.1] q3.2 Q
  refine g_ic_gt (t := 40) dX5_isFair_18 (by decide) (fun c5 => ?_) (fun c5 => ?_)
  · replace h := z_ift c5 h
    refine g_iconst (v := (0 : Int32)) dX5_isFair_40 (by decide) ?_
    cases h
    exact g_iret dX5_isFair_41 rfl rfl hq
  · replace h := z_iff c5 h
    refine g_aload_n dX5_isFair_21 rfl rfl ?_
    refine g_iconst (v := (1 : Int32)) dX5_isFair_22 (by decide) ?_
    refine g_iload_n dX5_isFair_23 rfl rfl ?_
    obtain ⟨q6, e7, h⟩ := z_bd h
    refine g_callV (a := 59) (as := [.int (1 : Int32), .int ((4095 : Int32) ^^^ a1)]) (rest := []) (c := mX5_gainOf) (k1 := 0) dX5_isFair_24 rfl rfl rfl sh_59 rfl rfl (Nat.le_of_ble_eq_true rfl) (Nat.le_of_ble_eq_true rfl) (by decide) ?_
    refine A_X5_gainOf e7 ?_
    show z_G none 1 mX5_isFair 27 [some (.ref 61), some (.int a1), some (.int ((4095 : Int32) ^^^ a1))] [.int q6.1] q6.2 Q
    refine g_aload_n dX5_isFair_27 rfl rfl ?_
    refine g_iconst (v := (1 : Int32)) dX5_isFair_28 (by decide) ?_
    refine g_iload_n dX5_isFair_29 rfl rfl ?_
    obtain ⟨q8, e9, h⟩ := z_bd h
    refine g_callV (a := 59) (as := [.int (1 : Int32), .int a1]) (rest := [.int q6.1]) (c := mX5_gainOf) (k1 := 0) dX5_isFair_30 rfl rfl rfl sh_59 rfl rfl (Nat.le_of_ble_eq_true rfl) (Nat.le_of_ble_eq_true rfl) (by decide) ?_
    refine A_X5_gainOf e9 ?_
    show z_G none 1 mX5_isFair 33 [some (.ref 61), some (.int a1), some (.int ((4095 : Int32) ^^^ a1))] [.int q8.1, .int q6.1] q8.2 Q
    refine g_ic_gt (t := 40) dX5_isFair_33 (by decide) (fun c10 => ?_) (fun c10 => ?_)
    · replace h := z_ift c10 h
      refine g_iconst (v := (0 : Int32)) dX5_isFair_40 (by decide) ?_
      cases h
      exact g_iret dX5_isFair_41 rfl rfl hq
    · replace h := z_iff c10 h
      refine g_iconst (v := (1 : Int32)) dX5_isFair_36 (by decide) ?_
      refine g_goto (t := 41) dX5_isFair_37 (by decide) ?_
      cases h
      exact g_iret dX5_isFair_41 rfl rfl hq
theorem dX5_isTreaty_0 : decode cX5_isTreaty 0 = .ok (.aload_n 0, 1) := by decide +kernel
theorem dX5_isTreaty_1 : decode cX5_isTreaty 1 = .ok (.getfield 21, 3) := by decide +kernel
theorem dX5_isTreaty_4 : decode cX5_isTreaty 4 = .ok (.iconst 0, 1) := by decide +kernel
theorem dX5_isTreaty_5 : decode cX5_isTreaty 5 = .ok (.iaload, 1) := by decide +kernel
theorem dX5_isTreaty_6 : decode cX5_isTreaty 6 = .ok (.iload_n 1, 1) := by decide +kernel
theorem dX5_isTreaty_7 : decode cX5_isTreaty 7 = .ok (.iconst (-1), 1) := by decide +kernel
theorem dX5_isTreaty_8 : decode cX5_isTreaty 8 = .ok (.ixor, 1) := by decide +kernel
theorem dX5_isTreaty_9 : decode cX5_isTreaty 9 = .ok (.iand, 1) := by decide +kernel
theorem dX5_isTreaty_10 : decode cX5_isTreaty 10 = .ok (.ifCond .ne 18, 3) := by decide +kernel
theorem dX5_isTreaty_13 : decode cX5_isTreaty 13 = .ok (.aload_n 0, 1) := by decide +kernel
theorem dX5_isTreaty_14 : decode cX5_isTreaty 14 = .ok (.getfield 21, 3) := by decide +kernel
theorem dX5_isTreaty_17 : decode cX5_isTreaty 17 = .ok (.iconst 1, 1) := by decide +kernel
theorem dX5_isTreaty_18 : decode cX5_isTreaty 18 = .ok (.iaload, 1) := by decide +kernel
theorem dX5_isTreaty_19 : decode cX5_isTreaty 19 = .ok (.iload_n 1, 1) := by decide +kernel
theorem dX5_isTreaty_20 : decode cX5_isTreaty 20 = .ok (.iand, 1) := by decide +kernel
theorem dX5_isTreaty_21 : decode cX5_isTreaty 21 = .ok (.ifCond .ne 7, 3) := by decide +kernel
theorem dX5_isTreaty_24 : decode cX5_isTreaty 24 = .ok (.iconst 1, 1) := by decide +kernel
theorem dX5_isTreaty_25 : decode cX5_isTreaty 25 = .ok (.goto 4, 3) := by decide +kernel
theorem dX5_isTreaty_28 : decode cX5_isTreaty 28 = .ok (.iconst 0, 1) := by decide +kernel
theorem dX5_isTreaty_29 : decode cX5_isTreaty 29 = .ok (.ireturn, 1) := by decide +kernel
def F_X5_isTreaty (w : Nat) (M : z_Mem) (a1 : Int32) : Option (Bool × z_Mem) :=
  if ((M.1 63 0) &&& (a1 ^^^ (-1 : Int32))) = (0 : Int32) then
  if ((M.1 63 1) &&& a1) = (0 : Int32) then
  some (true, M)
  else
  some (false, M)
  else
  some (false, M)
set_option maxHeartbeats 4000000 in
theorem A_X5_isTreaty {w : Nat} {M : z_Mem} {a1 : Int32} {r : Bool} {M' : z_Mem} {Q : Option Value → z_Mem → Prop} (h : F_X5_isTreaty w M a1 = some (r, M')) (hq : Q (some (.int (z_tb r))) M') : z_Cl 0 mX5_isTreaty [.ref 61, .int a1] M Q := by
  refine g_in (ls := [some (.ref 61), some (.int a1)]) rfl ?_
  unfold F_X5_isTreaty at h
  refine g_aload_n dX5_isTreaty_0 rfl rfl ?_
  refine g_get (a := 59) (v := .ref 65) dX5_isTreaty_1 f_5_21 sh_59 rfl rfl ?_
  refine g_iconst (v := (0 : Int32)) dX5_isTreaty_4 (by decide) ?_
  refine g_ialN (a := 63) (j := 0) (v := M.1 63 0) dX5_isTreaty_5 sh_63 rfl (by decide) rfl ?_
  refine g_iload_n dX5_isTreaty_6 rfl rfl ?_
  refine g_iconst (v := (-1 : Int32)) dX5_isTreaty_7 (by decide) ?_
  refine g_ixor dX5_isTreaty_8 ?_
  refine g_iand dX5_isTreaty_9 ?_
  refine g_if_ne (t := 28) dX5_isTreaty_10 (by decide) (fun c1 => ?_) (fun c1 => ?_)
  · replace h := z_iff c1 h
    refine g_iconst (v := (0 : Int32)) dX5_isTreaty_28 (by decide) ?_
    cases h
    exact g_iret dX5_isTreaty_29 rfl rfl hq
  · replace h := z_ift c1 h
    refine g_aload_n dX5_isTreaty_13 rfl rfl ?_
    refine g_get (a := 59) (v := .ref 65) dX5_isTreaty_14 f_5_21 sh_59 rfl rfl ?_
    refine g_iconst (v := (1 : Int32)) dX5_isTreaty_17 (by decide) ?_
    refine g_ialN (a := 63) (j := 1) (v := M.1 63 1) dX5_isTreaty_18 sh_63 rfl (by decide) rfl ?_
    refine g_iload_n dX5_isTreaty_19 rfl rfl ?_
    refine g_iand dX5_isTreaty_20 ?_
    refine g_if_ne (t := 28) dX5_isTreaty_21 (by decide) (fun c2 => ?_) (fun c2 => ?_)
    · replace h := z_iff c2 h
      refine g_iconst (v := (0 : Int32)) dX5_isTreaty_28 (by decide) ?_
      cases h
      exact g_iret dX5_isTreaty_29 rfl rfl hq
    · replace h := z_ift c2 h
      refine g_iconst (v := (1 : Int32)) dX5_isTreaty_24 (by decide) ?_
      refine g_goto (t := 29) dX5_isTreaty_25 (by decide) ?_
      cases h
      exact g_iret dX5_isTreaty_29 rfl rfl hq
theorem dX5_isOf_0 : decode cX5_isOf 0 = .ok (.iload_n 2, 1) := by decide +kernel
theorem dX5_isOf_1 : decode cX5_isOf 1 = .ok (.ifCond .ne 11, 3) := by decide +kernel
theorem dX5_isOf_4 : decode cX5_isOf 4 = .ok (.aload_n 0, 1) := by decide +kernel
theorem dX5_isOf_5 : decode cX5_isOf 5 = .ok (.iload_n 1, 1) := by decide +kernel
theorem dX5_isOf_6 : decode cX5_isOf 6 = .ok (.invokevirtual 94, 3) := by decide +kernel
theorem dX5_isOf_9 : decode cX5_isOf 9 = .ok (.goto 8, 3) := by decide +kernel
theorem dX5_isOf_12 : decode cX5_isOf 12 = .ok (.aload_n 0, 1) := by decide +kernel
theorem dX5_isOf_13 : decode cX5_isOf 13 = .ok (.iload_n 1, 1) := by decide +kernel
theorem dX5_isOf_14 : decode cX5_isOf 14 = .ok (.invokevirtual 98, 3) := by decide +kernel
theorem dX5_isOf_17 : decode cX5_isOf 17 = .ok (.ireturn, 1) := by decide +kernel
def F_X5_isOf (w : Nat) (M : z_Mem) (a1 : Int32) (a2 : Int32) : Option (Bool × z_Mem) :=
  if a2 = (0 : Int32) then
  (F_X5_isFair w M a1).bind fun q4 =>
  some (q4.1, q4.2)
  else
  (F_X5_isTreaty w M a1).bind fun q2 =>
  some (q2.1, q2.2)
set_option maxHeartbeats 4000000 in
theorem A_X5_isOf {w : Nat} {M : z_Mem} {a1 : Int32} {a2 : Int32} {r : Bool} {M' : z_Mem} {Q : Option Value → z_Mem → Prop} (h : F_X5_isOf w M a1 a2 = some (r, M')) (hq : Q (some (.int (z_tb r))) M') : z_Cl 2 mX5_isOf [.ref 61, .int a1, .int a2] M Q := by
  refine g_in (ls := [some (.ref 61), some (.int a1), some (.int a2)]) rfl ?_
  unfold F_X5_isOf at h
  refine g_iload_n dX5_isOf_0 rfl rfl ?_
  refine g_if_ne (t := 12) dX5_isOf_1 (by decide) (fun c1 => ?_) (fun c1 => ?_)
  · replace h := z_iff c1 h
    refine g_aload_n dX5_isOf_12 rfl rfl ?_
    refine g_iload_n dX5_isOf_13 rfl rfl ?_
    obtain ⟨q2, e3, h⟩ := z_bd h
    refine g_callV (a := 59) (as := [.int a1]) (rest := []) (c := mX5_isTreaty) (k1 := 0) dX5_isOf_14 rfl rfl rfl sh_59 rfl rfl (Nat.le_of_ble_eq_true rfl) (Nat.le_of_ble_eq_true rfl) (by decide) ?_
    refine A_X5_isTreaty e3 ?_
    show z_G none 2 mX5_isOf 17 [some (.ref 61), some (.int a1), some (.int a2)] [.int (z_tb q2.1)] q2.2 Q
    cases h
    exact g_iret dX5_isOf_17 rfl nb_tb hq
  · replace h := z_ift c1 h
    refine g_aload_n dX5_isOf_4 rfl rfl ?_
    refine g_iload_n dX5_isOf_5 rfl rfl ?_
    obtain ⟨q4, e5, h⟩ := z_bd h
    refine g_callV (a := 59) (as := [.int a1]) (rest := []) (c := mX5_isFair) (k1 := 1) dX5_isOf_6 rfl rfl rfl sh_59 rfl rfl (Nat.le_of_ble_eq_true rfl) (Nat.le_of_ble_eq_true rfl) (by decide) ?_
    refine A_X5_isFair e5 ?_
    show z_G none 2 mX5_isOf 9 [some (.ref 61), some (.int a1), some (.int a2)] [.int (z_tb q4.1)] q4.2 Q
    refine g_goto (t := 17) dX5_isOf_9 (by decide) ?_
    cases h
    exact g_iret dX5_isOf_17 rfl nb_tb hq
theorem dX5_countOf_0 : decode cX5_countOf 0 = .ok (.iconst 0, 1) := by decide +kernel
theorem dX5_countOf_1 : decode cX5_countOf 1 = .ok (.istore_n 2, 1) := by decide +kernel
theorem dX5_countOf_2 : decode cX5_countOf 2 = .ok (.iconst 0, 1) := by decide +kernel
theorem dX5_countOf_3 : decode cX5_countOf 3 = .ok (.istore_n 3, 1) := by decide +kernel
theorem dX5_countOf_4 : decode cX5_countOf 4 = .ok (.iload_n 3, 1) := by decide +kernel
theorem dX5_countOf_5 : decode cX5_countOf 5 = .ok (.sipush 4095, 3) := by decide +kernel
theorem dX5_countOf_8 : decode cX5_countOf 8 = .ok (.if_icmp .gt 21, 3) := by decide +kernel
theorem dX5_countOf_11 : decode cX5_countOf 11 = .ok (.aload_n 0, 1) := by decide +kernel
theorem dX5_countOf_12 : decode cX5_countOf 12 = .ok (.iload_n 3, 1) := by decide +kernel
theorem dX5_countOf_13 : decode cX5_countOf 13 = .ok (.iload_n 1, 1) := by decide +kernel
theorem dX5_countOf_14 : decode cX5_countOf 14 = .ok (.invokevirtual 101, 3) := by decide +kernel
theorem dX5_countOf_17 : decode cX5_countOf 17 = .ok (.ifCond .eq 6, 3) := by decide +kernel
theorem dX5_countOf_20 : decode cX5_countOf 20 = .ok (.iinc 2 1, 3) := by decide +kernel
theorem dX5_countOf_23 : decode cX5_countOf 23 = .ok (.iinc 3 1, 3) := by decide +kernel
theorem dX5_countOf_26 : decode cX5_countOf 26 = .ok (.goto (-22), 3) := by decide +kernel
theorem dX5_countOf_29 : decode cX5_countOf 29 = .ok (.iload_n 2, 1) := by decide +kernel
theorem dX5_countOf_30 : decode cX5_countOf 30 = .ok (.ireturn, 1) := by decide +kernel
def L_X5_countOf (w : Nat) : Nat → z_Mem → Int32 → Int32 → Int32 → Option (Int32 × z_Mem)
  | 0, _, _, _, _ => none
  | c + 1, M, x1, x2, x3 =>
    if (4095 : Int32) < x3 then
    some (x2, M)
    else
    (F_X5_isOf w M x3 x1).bind fun q2 =>
    if q2.1 = true then
    L_X5_countOf w c q2.2 x1 (x2 + (1 : Int32)) (x3 + (1 : Int32))
    else
    L_X5_countOf w c q2.2 x1 x2 (x3 + (1 : Int32))
set_option maxHeartbeats 4000000 in
theorem AL_X5_countOf {w : Nat} : ∀ (c : Nat), (∀ (M : z_Mem) (x1 : Int32) (x2 : Int32) (x3 : Int32) (r : Int32) (M' : z_Mem) (Q : Option Value → z_Mem → Prop), L_X5_countOf w c M x1 x2 x3 = some (r, M') → Q (some (.int r)) M' → z_G none 3 mX5_countOf 4 [some (.ref 61), some (.int x1), some (.int x2), some (.int x3)] [] M Q) := by
  intro c
  induction c with
  | zero => exact (fun M x1 x2 x3 r M' Q h hq => by rw [L_X5_countOf] at h; cases h)
  | succ c ih =>
    intro M x1 x2 x3 r M' Q h hq
    rw [L_X5_countOf] at h
    refine g_iload_n dX5_countOf_4 rfl rfl ?_
    refine g_sipush (v := (4095 : Int32)) dX5_countOf_5 (by decide) ?_
    refine g_ic_gt (t := 29) dX5_countOf_8 (by decide) (fun c1 => ?_) (fun c1 => ?_)
    · replace h := z_ift c1 h
      refine g_iload_n dX5_countOf_29 rfl rfl ?_
      cases h
      exact g_iret dX5_countOf_30 rfl rfl hq
    · replace h := z_iff c1 h
      refine g_aload_n dX5_countOf_11 rfl rfl ?_
      refine g_iload_n dX5_countOf_12 rfl rfl ?_
      refine g_iload_n dX5_countOf_13 rfl rfl ?_
      obtain ⟨q2, e3, h⟩ := z_bd h
      refine g_callV (a := 59) (as := [.int x3, .int x1]) (rest := []) (c := mX5_isOf) (k1 := 2) dX5_countOf_14 rfl rfl rfl sh_59 rfl rfl (Nat.le_of_ble_eq_true rfl) (Nat.le_of_ble_eq_true rfl) (by decide) ?_
      refine A_X5_isOf e3 ?_
      show z_G none 3 mX5_countOf 17 [some (.ref 61), some (.int x1), some (.int x2), some (.int x3)] [.int (z_tb q2.1)] q2.2 Q
      refine g_if_eq (t := 23) dX5_countOf_17 (by decide) (fun c4 => ?_) (fun c4 => ?_)
      · replace h := z_iff (z_tb0.mp c4) h
        refine g_iinc (v := x3 + (1 : Int32)) (ls' := [some (.ref 61), some (.int x1), some (.int x2), some (.int (x3 + (1 : Int32)))]) dX5_countOf_23 rfl rfl rfl ?_
        refine g_goto (t := 4) dX5_countOf_26 (by decide) ?_
        exact g_sub (z_sub_s (z_sub_s (z_sub_s (z_sub_s z_sub_nil)))) (ih _ _ _ _ _ _ _ h hq)
      · replace h := z_ift (z_tbn.mp c4) h
        refine g_iinc (v := x2 + (1 : Int32)) (ls' := [some (.ref 61), some (.int x1), some (.int (x2 + (1 : Int32))), some (.int x3)]) dX5_countOf_20 rfl rfl rfl ?_
        refine g_iinc (v := x3 + (1 : Int32)) (ls' := [some (.ref 61), some (.int x1), some (.int (x2 + (1 : Int32))), some (.int (x3 + (1 : Int32)))]) dX5_countOf_23 rfl rfl rfl ?_
        refine g_goto (t := 4) dX5_countOf_26 (by decide) ?_
        exact g_sub (z_sub_s (z_sub_s (z_sub_s (z_sub_s z_sub_nil)))) (ih _ _ _ _ _ _ _ h hq)
def F_X5_countOf (w : Nat) (M : z_Mem) (a1 : Int32) : Option (Int32 × z_Mem) :=
  L_X5_countOf w w M a1 (0 : Int32) (0 : Int32)
set_option maxHeartbeats 4000000 in
theorem A_X5_countOf {w : Nat} {M : z_Mem} {a1 : Int32} {r : Int32} {M' : z_Mem} {Q : Option Value → z_Mem → Prop} (h : F_X5_countOf w M a1 = some (r, M')) (hq : Q (some (.int r)) M') : z_Cl 3 mX5_countOf [.ref 61, .int a1] M Q := by
  refine g_in (ls := [some (.ref 61), some (.int a1), none, none]) rfl ?_
  unfold F_X5_countOf at h
  refine g_iconst (v := (0 : Int32)) dX5_countOf_0 (by decide) ?_
  refine g_istore_n (ls' := [some (.ref 61), some (.int a1), some (.int (0 : Int32)), none]) dX5_countOf_1 rfl (Nat.le_of_ble_eq_true rfl) rfl ?_
  refine g_iconst (v := (0 : Int32)) dX5_countOf_2 (by decide) ?_
  refine g_istore_n (ls' := [some (.ref 61), some (.int a1), some (.int (0 : Int32)), some (.int (0 : Int32))]) dX5_countOf_3 rfl (Nat.le_of_ble_eq_true rfl) rfl ?_
  exact g_sub (z_sub_s (z_sub_s (z_sub_s (z_sub_s z_sub_nil)))) ((AL_X5_countOf (w := w) w) _ _ _ _ _ _ _ h hq)
theorem dX5_bestAmong_0 : decode cX5_bestAmong 0 = .ok (.iconst (-1), 1) := by decide +kernel
theorem dX5_bestAmong_1 : decode cX5_bestAmong 1 = .ok (.istore_n 2, 1) := by decide +kernel
theorem dX5_bestAmong_2 : decode cX5_bestAmong 2 = .ok (.ldc 104, 2) := by decide +kernel
theorem dX5_bestAmong_4 : decode cX5_bestAmong 4 = .ok (.istore_n 3, 1) := by decide +kernel
theorem dX5_bestAmong_5 : decode cX5_bestAmong 5 = .ok (.iconst 0, 1) := by decide +kernel
theorem dX5_bestAmong_6 : decode cX5_bestAmong 6 = .ok (.istore 4, 2) := by decide +kernel
theorem dX5_bestAmong_8 : decode cX5_bestAmong 8 = .ok (.iload 4, 2) := by decide +kernel
theorem dX5_bestAmong_10 : decode cX5_bestAmong 10 = .ok (.sipush 4095, 3) := by decide +kernel
theorem dX5_bestAmong_13 : decode cX5_bestAmong 13 = .ok (.if_icmp .gt 39, 3) := by decide +kernel
theorem dX5_bestAmong_16 : decode cX5_bestAmong 16 = .ok (.aload_n 0, 1) := by decide +kernel
theorem dX5_bestAmong_17 : decode cX5_bestAmong 17 = .ok (.iload 4, 2) := by decide +kernel
theorem dX5_bestAmong_19 : decode cX5_bestAmong 19 = .ok (.invokevirtual 91, 3) := by decide +kernel
theorem dX5_bestAmong_22 : decode cX5_bestAmong 22 = .ok (.iload_n 3, 1) := by decide +kernel
theorem dX5_bestAmong_23 : decode cX5_bestAmong 23 = .ok (.if_icmp .le 23, 3) := by decide +kernel
theorem dX5_bestAmong_26 : decode cX5_bestAmong 26 = .ok (.aload_n 0, 1) := by decide +kernel
theorem dX5_bestAmong_27 : decode cX5_bestAmong 27 = .ok (.iload 4, 2) := by decide +kernel
theorem dX5_bestAmong_29 : decode cX5_bestAmong 29 = .ok (.iload_n 1, 1) := by decide +kernel
theorem dX5_bestAmong_30 : decode cX5_bestAmong 30 = .ok (.invokevirtual 101, 3) := by decide +kernel
theorem dX5_bestAmong_33 : decode cX5_bestAmong 33 = .ok (.ifCond .eq 13, 3) := by decide +kernel
theorem dX5_bestAmong_36 : decode cX5_bestAmong 36 = .ok (.iload 4, 2) := by decide +kernel
theorem dX5_bestAmong_38 : decode cX5_bestAmong 38 = .ok (.istore_n 2, 1) := by decide +kernel
theorem dX5_bestAmong_39 : decode cX5_bestAmong 39 = .ok (.aload_n 0, 1) := by decide +kernel
theorem dX5_bestAmong_40 : decode cX5_bestAmong 40 = .ok (.iload 4, 2) := by decide +kernel
theorem dX5_bestAmong_42 : decode cX5_bestAmong 42 = .ok (.invokevirtual 91, 3) := by decide +kernel
theorem dX5_bestAmong_45 : decode cX5_bestAmong 45 = .ok (.istore_n 3, 1) := by decide +kernel
theorem dX5_bestAmong_46 : decode cX5_bestAmong 46 = .ok (.iinc 4 1, 3) := by decide +kernel
theorem dX5_bestAmong_49 : decode cX5_bestAmong 49 = .ok (.goto (-41), 3) := by decide +kernel
theorem dX5_bestAmong_52 : decode cX5_bestAmong 52 = .ok (.iload_n 2, 1) := by decide +kernel
theorem dX5_bestAmong_53 : decode cX5_bestAmong 53 = .ok (.ireturn, 1) := by decide +kernel
def L_X5_bestAmong (w : Nat) : Nat → z_Mem → Int32 → Int32 → Int32 → Int32 → Option (Int32 × z_Mem)
  | 0, _, _, _, _, _ => none
  | c + 1, M, x1, x2, x3, x4 =>
    if (4095 : Int32) < x4 then
    some (x2, M)
    else
    (F_X5_netOf w M x4).bind fun q2 =>
    if q2.1 ≤ x3 then
    L_X5_bestAmong w c q2.2 x1 x2 x3 (x4 + (1 : Int32))
    else
    (F_X5_isOf w q2.2 x4 x1).bind fun q5 =>
    if q5.1 = true then
    (F_X5_netOf w q5.2 x4).bind fun q8 =>
    L_X5_bestAmong w c q8.2 x1 x4 q8.1 (x4 + (1 : Int32))
    else
    L_X5_bestAmong w c q5.2 x1 x2 x3 (x4 + (1 : Int32))
set_option maxHeartbeats 4000000 in
theorem AL_X5_bestAmong {w : Nat} : ∀ (c : Nat), (∀ (M : z_Mem) (x1 : Int32) (x2 : Int32) (x3 : Int32) (x4 : Int32) (r : Int32) (M' : z_Mem) (Q : Option Value → z_Mem → Prop), L_X5_bestAmong w c M x1 x2 x3 x4 = some (r, M') → Q (some (.int r)) M' → z_G none 3 mX5_bestAmong 8 [some (.ref 61), some (.int x1), some (.int x2), some (.int x3), some (.int x4)] [] M Q) := by
  intro c
  induction c with
  | zero => exact (fun M x1 x2 x3 x4 r M' Q h hq => by rw [L_X5_bestAmong] at h; cases h)
  | succ c ih =>
    intro M x1 x2 x3 x4 r M' Q h hq
    rw [L_X5_bestAmong] at h
    refine g_iload dX5_bestAmong_8 rfl ?_
    refine g_sipush (v := (4095 : Int32)) dX5_bestAmong_10 (by decide) ?_
    refine g_ic_gt (t := 52) dX5_bestAmong_13 (by decide) (fun c1 => ?_) (fun c1 => ?_)
    · replace h := z_ift c1 h
      refine g_iload_n dX5_bestAmong_52 rfl rfl ?_
      cases h
      exact g_iret dX5_bestAmong_53 rfl rfl hq
    · replace h := z_iff c1 h
      refine g_aload_n dX5_bestAmong_16 rfl rfl ?_
      refine g_iload dX5_bestAmong_17 rfl ?_
      obtain ⟨q2, e3, h⟩ := z_bd h
      refine g_callV (a := 59) (as := [.int x4]) (rest := []) (c := mX5_netOf) (k1 := 2) dX5_bestAmong_19 rfl rfl rfl sh_59 rfl rfl (Nat.le_of_ble_eq_true rfl) (Nat.le_of_ble_eq_true rfl) (by decide) ?_
      refine A_X5_netOf e3 ?_
      show z_G none 3 mX5_bestAmong 22 [some (.ref 61), some (.int x1), some (.int x2), some (.int x3), some (.int x4)] [.int q2.1] q2.2 Q
      refine g_iload_n dX5_bestAmong_22 rfl rfl ?_
      refine g_ic_le (t := 46) dX5_bestAmong_23 (by decide) (fun c4 => ?_) (fun c4 => ?_)
      · replace h := z_ift c4 h
        refine g_iinc (v := x4 + (1 : Int32)) (ls' := [some (.ref 61), some (.int x1), some (.int x2), some (.int x3), some (.int (x4 + (1 : Int32)))]) dX5_bestAmong_46 rfl rfl rfl ?_
        refine g_goto (t := 8) dX5_bestAmong_49 (by decide) ?_
        exact g_sub (z_sub_s (z_sub_s (z_sub_s (z_sub_s (z_sub_s z_sub_nil))))) (ih _ _ _ _ _ _ _ _ h hq)
      · replace h := z_iff c4 h
        refine g_aload_n dX5_bestAmong_26 rfl rfl ?_
        refine g_iload dX5_bestAmong_27 rfl ?_
        refine g_iload_n dX5_bestAmong_29 rfl rfl ?_
        obtain ⟨q5, e6, h⟩ := z_bd h
        refine g_callV (a := 59) (as := [.int x4, .int x1]) (rest := []) (c := mX5_isOf) (k1 := 2) dX5_bestAmong_30 rfl rfl rfl sh_59 rfl rfl (Nat.le_of_ble_eq_true rfl) (Nat.le_of_ble_eq_true rfl) (by decide) ?_
        refine A_X5_isOf e6 ?_
        show z_G none 3 mX5_bestAmong 33 [some (.ref 61), some (.int x1), some (.int x2), some (.int x3), some (.int x4)] [.int (z_tb q5.1)] q5.2 Q
        refine g_if_eq (t := 46) dX5_bestAmong_33 (by decide) (fun c7 => ?_) (fun c7 => ?_)
        · replace h := z_iff (z_tb0.mp c7) h
          refine g_iinc (v := x4 + (1 : Int32)) (ls' := [some (.ref 61), some (.int x1), some (.int x2), some (.int x3), some (.int (x4 + (1 : Int32)))]) dX5_bestAmong_46 rfl rfl rfl ?_
          refine g_goto (t := 8) dX5_bestAmong_49 (by decide) ?_
          exact g_sub (z_sub_s (z_sub_s (z_sub_s (z_sub_s (z_sub_s z_sub_nil))))) (ih _ _ _ _ _ _ _ _ h hq)
        · replace h := z_ift (z_tbn.mp c7) h
          refine g_iload dX5_bestAmong_36 rfl ?_
          refine g_istore_n (ls' := [some (.ref 61), some (.int x1), some (.int x4), some (.int x3), some (.int x4)]) dX5_bestAmong_38 rfl (Nat.le_of_ble_eq_true rfl) rfl ?_
          refine g_aload_n dX5_bestAmong_39 rfl rfl ?_
          refine g_iload dX5_bestAmong_40 rfl ?_
          obtain ⟨q8, e9, h⟩ := z_bd h
          refine g_callV (a := 59) (as := [.int x4]) (rest := []) (c := mX5_netOf) (k1 := 2) dX5_bestAmong_42 rfl rfl rfl sh_59 rfl rfl (Nat.le_of_ble_eq_true rfl) (Nat.le_of_ble_eq_true rfl) (by decide) ?_
          refine A_X5_netOf e9 ?_
          show z_G none 3 mX5_bestAmong 45 [some (.ref 61), some (.int x1), some (.int x4), some (.int x3), some (.int x4)] [.int q8.1] q8.2 Q
          refine g_istore_n (ls' := [some (.ref 61), some (.int x1), some (.int x4), some (.int q8.1), some (.int x4)]) dX5_bestAmong_45 rfl (Nat.le_of_ble_eq_true rfl) rfl ?_
          refine g_iinc (v := x4 + (1 : Int32)) (ls' := [some (.ref 61), some (.int x1), some (.int x4), some (.int q8.1), some (.int (x4 + (1 : Int32)))]) dX5_bestAmong_46 rfl rfl rfl ?_
          refine g_goto (t := 8) dX5_bestAmong_49 (by decide) ?_
          exact g_sub (z_sub_s (z_sub_s (z_sub_s (z_sub_s (z_sub_s z_sub_nil))))) (ih _ _ _ _ _ _ _ _ h hq)
def F_X5_bestAmong (w : Nat) (M : z_Mem) (a1 : Int32) : Option (Int32 × z_Mem) :=
  L_X5_bestAmong w w M a1 (-1 : Int32) (-1000000 : Int32) (0 : Int32)
set_option maxHeartbeats 4000000 in
theorem A_X5_bestAmong {w : Nat} {M : z_Mem} {a1 : Int32} {r : Int32} {M' : z_Mem} {Q : Option Value → z_Mem → Prop} (h : F_X5_bestAmong w M a1 = some (r, M')) (hq : Q (some (.int r)) M') : z_Cl 3 mX5_bestAmong [.ref 61, .int a1] M Q := by
  refine g_in (ls := [some (.ref 61), some (.int a1), none, none, none]) rfl ?_
  unfold F_X5_bestAmong at h
  refine g_iconst (v := (-1 : Int32)) dX5_bestAmong_0 (by decide) ?_
  refine g_istore_n (ls' := [some (.ref 61), some (.int a1), some (.int (-1 : Int32)), none, none]) dX5_bestAmong_1 rfl (Nat.le_of_ble_eq_true rfl) rfl ?_
  refine g_ldc dX5_bestAmong_2 rfl ?_
  refine g_istore_n (ls' := [some (.ref 61), some (.int a1), some (.int (-1 : Int32)), some (.int (-1000000 : Int32)), none]) dX5_bestAmong_4 rfl (Nat.le_of_ble_eq_true rfl) rfl ?_
  refine g_iconst (v := (0 : Int32)) dX5_bestAmong_5 (by decide) ?_
  refine g_istore (ls' := [some (.ref 61), some (.int a1), some (.int (-1 : Int32)), some (.int (-1000000 : Int32)), some (.int (0 : Int32))]) dX5_bestAmong_6 (Nat.le_of_ble_eq_true rfl) rfl ?_
  exact g_sub (z_sub_s (z_sub_s (z_sub_s (z_sub_s (z_sub_s z_sub_nil))))) ((AL_X5_bestAmong (w := w) w) _ _ _ _ _ _ _ _ h hq)
theorem dX5_evenPlan_0 : decode cX5_evenPlan 0 = .ok (.iconst 0, 1) := by decide +kernel
theorem dX5_evenPlan_1 : decode cX5_evenPlan 1 = .ok (.istore_n 1, 1) := by decide +kernel
theorem dX5_evenPlan_2 : decode cX5_evenPlan 2 = .ok (.ldc 104, 2) := by decide +kernel
theorem dX5_evenPlan_4 : decode cX5_evenPlan 4 = .ok (.istore_n 2, 1) := by decide +kernel
theorem dX5_evenPlan_5 : decode cX5_evenPlan 5 = .ok (.iconst 0, 1) := by decide +kernel
theorem dX5_evenPlan_6 : decode cX5_evenPlan 6 = .ok (.istore_n 3, 1) := by decide +kernel
theorem dX5_evenPlan_7 : decode cX5_evenPlan 7 = .ok (.iload_n 3, 1) := by decide +kernel
theorem dX5_evenPlan_8 : decode cX5_evenPlan 8 = .ok (.sipush 4095, 3) := by decide +kernel
theorem dX5_evenPlan_11 : decode cX5_evenPlan 11 = .ok (.if_icmp .gt 37, 3) := by decide +kernel
theorem dX5_evenPlan_14 : decode cX5_evenPlan 14 = .ok (.aload_n 0, 1) := by decide +kernel
theorem dX5_evenPlan_15 : decode cX5_evenPlan 15 = .ok (.iconst 0, 1) := by decide +kernel
theorem dX5_evenPlan_16 : decode cX5_evenPlan 16 = .ok (.iload_n 3, 1) := by decide +kernel
theorem dX5_evenPlan_17 : decode cX5_evenPlan 17 = .ok (.invokevirtual 85, 3) := by decide +kernel
theorem dX5_evenPlan_20 : decode cX5_evenPlan 20 = .ok (.aload_n 0, 1) := by decide +kernel
theorem dX5_evenPlan_21 : decode cX5_evenPlan 21 = .ok (.iconst 1, 1) := by decide +kernel
theorem dX5_evenPlan_22 : decode cX5_evenPlan 22 = .ok (.iload_n 3, 1) := by decide +kernel
theorem dX5_evenPlan_23 : decode cX5_evenPlan 23 = .ok (.invokevirtual 85, 3) := by decide +kernel
theorem dX5_evenPlan_26 : decode cX5_evenPlan 26 = .ok (.invokestatic 105, 3) := by decide +kernel
theorem dX5_evenPlan_29 : decode cX5_evenPlan 29 = .ok (.istore 4, 2) := by decide +kernel
theorem dX5_evenPlan_31 : decode cX5_evenPlan 31 = .ok (.iload 4, 2) := by decide +kernel
theorem dX5_evenPlan_33 : decode cX5_evenPlan 33 = .ok (.iload_n 2, 1) := by decide +kernel
theorem dX5_evenPlan_34 : decode cX5_evenPlan 34 = .ok (.if_icmp .le 8, 3) := by decide +kernel
theorem dX5_evenPlan_37 : decode cX5_evenPlan 37 = .ok (.iload_n 3, 1) := by decide +kernel
theorem dX5_evenPlan_38 : decode cX5_evenPlan 38 = .ok (.istore_n 1, 1) := by decide +kernel
theorem dX5_evenPlan_39 : decode cX5_evenPlan 39 = .ok (.iload 4, 2) := by decide +kernel
theorem dX5_evenPlan_41 : decode cX5_evenPlan 41 = .ok (.istore_n 2, 1) := by decide +kernel
theorem dX5_evenPlan_42 : decode cX5_evenPlan 42 = .ok (.iinc 3 1, 3) := by decide +kernel
theorem dX5_evenPlan_45 : decode cX5_evenPlan 45 = .ok (.goto (-38), 3) := by decide +kernel
theorem dX5_evenPlan_48 : decode cX5_evenPlan 48 = .ok (.iload_n 1, 1) := by decide +kernel
theorem dX5_evenPlan_49 : decode cX5_evenPlan 49 = .ok (.ireturn, 1) := by decide +kernel
def L_X5_evenPlan (w : Nat) : Nat → z_Mem → Int32 → Int32 → Int32 → Option (Int32 × z_Mem)
  | 0, _, _, _, _ => none
  | c + 1, M, x1, x2, x3 =>
    if (4095 : Int32) < x3 then
    some (x1, M)
    else
    (F_X5_gainOf w M (0 : Int32) x3).bind fun q2 =>
    (F_X5_gainOf w q2.2 (1 : Int32) x3).bind fun q4 =>
    if (if q4.1 < q2.1 then q4.1 else q2.1) ≤ x2 then
    L_X5_evenPlan w c q4.2 x1 x2 (x3 + (1 : Int32))
    else
    L_X5_evenPlan w c q4.2 x3 (if q4.1 < q2.1 then q4.1 else q2.1) (x3 + (1 : Int32))
set_option maxHeartbeats 4000000 in
theorem AL_X5_evenPlan {w : Nat} : ∀ (c : Nat), (∀ (M : z_Mem) (x1 : Int32) (x2 : Int32) (x3 : Int32) (r : Int32) (M' : z_Mem) (Q : Option Value → z_Mem → Prop), L_X5_evenPlan w c M x1 x2 x3 = some (r, M') → Q (some (.int r)) M' → z_G none 1 mX5_evenPlan 7 [some (.ref 61), some (.int x1), some (.int x2), some (.int x3), none] [] M Q) := by
  intro c
  induction c with
  | zero => exact (fun M x1 x2 x3 r M' Q h hq => by rw [L_X5_evenPlan] at h; cases h)
  | succ c ih =>
    intro M x1 x2 x3 r M' Q h hq
    rw [L_X5_evenPlan] at h
    refine g_iload_n dX5_evenPlan_7 rfl rfl ?_
    refine g_sipush (v := (4095 : Int32)) dX5_evenPlan_8 (by decide) ?_
    refine g_ic_gt (t := 48) dX5_evenPlan_11 (by decide) (fun c1 => ?_) (fun c1 => ?_)
    · replace h := z_ift c1 h
      refine g_iload_n dX5_evenPlan_48 rfl rfl ?_
      cases h
      exact g_iret dX5_evenPlan_49 rfl rfl hq
    · replace h := z_iff c1 h
      refine g_aload_n dX5_evenPlan_14 rfl rfl ?_
      refine g_iconst (v := (0 : Int32)) dX5_evenPlan_15 (by decide) ?_
      refine g_iload_n dX5_evenPlan_16 rfl rfl ?_
      obtain ⟨q2, e3, h⟩ := z_bd h
      refine g_callV (a := 59) (as := [.int (0 : Int32), .int x3]) (rest := []) (c := mX5_gainOf) (k1 := 0) dX5_evenPlan_17 rfl rfl rfl sh_59 rfl rfl (Nat.le_of_ble_eq_true rfl) (Nat.le_of_ble_eq_true rfl) (by decide) ?_
      refine A_X5_gainOf e3 ?_
      show z_G none 1 mX5_evenPlan 20 [some (.ref 61), some (.int x1), some (.int x2), some (.int x3), none] [.int q2.1] q2.2 Q
      refine g_aload_n dX5_evenPlan_20 rfl rfl ?_
      refine g_iconst (v := (1 : Int32)) dX5_evenPlan_21 (by decide) ?_
      refine g_iload_n dX5_evenPlan_22 rfl rfl ?_
      obtain ⟨q4, e5, h⟩ := z_bd h
      refine g_callV (a := 59) (as := [.int (1 : Int32), .int x3]) (rest := [.int q2.1]) (c := mX5_gainOf) (k1 := 0) dX5_evenPlan_23 rfl rfl rfl sh_59 rfl rfl (Nat.le_of_ble_eq_true rfl) (Nat.le_of_ble_eq_true rfl) (by decide) ?_
      refine A_X5_gainOf e5 ?_
      show z_G none 1 mX5_evenPlan 26 [some (.ref 61), some (.int x1), some (.int x2), some (.int x3), none] [.int q4.1, .int q2.1] q4.2 Q
      refine g_min dX5_evenPlan_26 rfl (Nat.le_of_ble_eq_true rfl) ?_
      refine g_istore (ls' := [some (.ref 61), some (.int x1), some (.int x2), some (.int x3), some (.int (if q4.1 < q2.1 then q4.1 else q2.1))]) dX5_evenPlan_29 (Nat.le_of_ble_eq_true rfl) rfl ?_
      refine g_iload dX5_evenPlan_31 rfl ?_
      refine g_iload_n dX5_evenPlan_33 rfl rfl ?_
      refine g_ic_le (t := 42) dX5_evenPlan_34 (by decide) (fun c6 => ?_) (fun c6 => ?_)
      · replace h := z_ift c6 h
        refine g_iinc (v := x3 + (1 : Int32)) (ls' := [some (.ref 61), some (.int x1), some (.int x2), some (.int (x3 + (1 : Int32))), some (.int (if q4.1 < q2.1 then q4.1 else q2.1))]) dX5_evenPlan_42 rfl rfl rfl ?_
        refine g_goto (t := 7) dX5_evenPlan_45 (by decide) ?_
        exact g_sub (z_sub_s (z_sub_s (z_sub_s (z_sub_s (z_sub_n z_sub_nil))))) (ih _ _ _ _ _ _ _ h hq)
      · replace h := z_iff c6 h
        refine g_iload_n dX5_evenPlan_37 rfl rfl ?_
        refine g_istore_n (ls' := [some (.ref 61), some (.int x3), some (.int x2), some (.int x3), some (.int (if q4.1 < q2.1 then q4.1 else q2.1))]) dX5_evenPlan_38 rfl (Nat.le_of_ble_eq_true rfl) rfl ?_
        refine g_iload dX5_evenPlan_39 rfl ?_
        refine g_istore_n (ls' := [some (.ref 61), some (.int x3), some (.int (if q4.1 < q2.1 then q4.1 else q2.1)), some (.int x3), some (.int (if q4.1 < q2.1 then q4.1 else q2.1))]) dX5_evenPlan_41 rfl (Nat.le_of_ble_eq_true rfl) rfl ?_
        refine g_iinc (v := x3 + (1 : Int32)) (ls' := [some (.ref 61), some (.int x3), some (.int (if q4.1 < q2.1 then q4.1 else q2.1)), some (.int (x3 + (1 : Int32))), some (.int (if q4.1 < q2.1 then q4.1 else q2.1))]) dX5_evenPlan_42 rfl rfl rfl ?_
        refine g_goto (t := 7) dX5_evenPlan_45 (by decide) ?_
        exact g_sub (z_sub_s (z_sub_s (z_sub_s (z_sub_s (z_sub_n z_sub_nil))))) (ih _ _ _ _ _ _ _ h hq)
def F_X5_evenPlan (w : Nat) (M : z_Mem) : Option (Int32 × z_Mem) :=
  L_X5_evenPlan w w M (0 : Int32) (-1000000 : Int32) (0 : Int32)
set_option maxHeartbeats 4000000 in
theorem A_X5_evenPlan {w : Nat} {M : z_Mem} {r : Int32} {M' : z_Mem} {Q : Option Value → z_Mem → Prop} (h : F_X5_evenPlan w M = some (r, M')) (hq : Q (some (.int r)) M') : z_Cl 1 mX5_evenPlan [.ref 61] M Q := by
  refine g_in (ls := [some (.ref 61), none, none, none, none]) rfl ?_
  unfold F_X5_evenPlan at h
  refine g_iconst (v := (0 : Int32)) dX5_evenPlan_0 (by decide) ?_
  refine g_istore_n (ls' := [some (.ref 61), some (.int (0 : Int32)), none, none, none]) dX5_evenPlan_1 rfl (Nat.le_of_ble_eq_true rfl) rfl ?_
  refine g_ldc dX5_evenPlan_2 rfl ?_
  refine g_istore_n (ls' := [some (.ref 61), some (.int (0 : Int32)), some (.int (-1000000 : Int32)), none, none]) dX5_evenPlan_4 rfl (Nat.le_of_ble_eq_true rfl) rfl ?_
  refine g_iconst (v := (0 : Int32)) dX5_evenPlan_5 (by decide) ?_
  refine g_istore_n (ls' := [some (.ref 61), some (.int (0 : Int32)), some (.int (-1000000 : Int32)), some (.int (0 : Int32)), none]) dX5_evenPlan_6 rfl (Nat.le_of_ble_eq_true rfl) rfl ?_
  exact g_sub (z_sub_s (z_sub_s (z_sub_s (z_sub_s (z_sub_n z_sub_nil))))) ((AL_X5_evenPlan (w := w) w) _ _ _ _ _ _ _ h hq)
theorem dX5_greatestWithout_0 : decode cX5_greatestWithout 0 = .ok (.iload_n 1, 1) := by decide +kernel
theorem dX5_greatestWithout_1 : decode cX5_greatestWithout 1 = .ok (.bipush 12, 2) := by decide +kernel
theorem dX5_greatestWithout_3 : decode cX5_greatestWithout 3 = .ok (.iadd, 1) := by decide +kernel
theorem dX5_greatestWithout_4 : decode cX5_greatestWithout 4 = .ok (.iconst 1, 1) := by decide +kernel
theorem dX5_greatestWithout_5 : decode cX5_greatestWithout 5 = .ok (.isub, 1) := by decide +kernel
theorem dX5_greatestWithout_6 : decode cX5_greatestWithout 6 = .ok (.bipush 12, 2) := by decide +kernel
theorem dX5_greatestWithout_8 : decode cX5_greatestWithout 8 = .ok (.irem, 1) := by decide +kernel
theorem dX5_greatestWithout_9 : decode cX5_greatestWithout 9 = .ok (.istore_n 3, 1) := by decide +kernel
theorem dX5_greatestWithout_10 : decode cX5_greatestWithout 10 = .ok (.ldc 104, 2) := by decide +kernel
theorem dX5_greatestWithout_12 : decode cX5_greatestWithout 12 = .ok (.istore 4, 2) := by decide +kernel
theorem dX5_greatestWithout_14 : decode cX5_greatestWithout 14 = .ok (.iconst 0, 1) := by decide +kernel
theorem dX5_greatestWithout_15 : decode cX5_greatestWithout 15 = .ok (.istore 5, 2) := by decide +kernel
theorem dX5_greatestWithout_17 : decode cX5_greatestWithout 17 = .ok (.iload 5, 2) := by decide +kernel
theorem dX5_greatestWithout_19 : decode cX5_greatestWithout 19 = .ok (.sipush 4095, 3) := by decide +kernel
theorem dX5_greatestWithout_22 : decode cX5_greatestWithout 22 = .ok (.if_icmp .gt 86, 3) := by decide +kernel
theorem dX5_greatestWithout_25 : decode cX5_greatestWithout 25 = .ok (.iload 5, 2) := by decide +kernel
theorem dX5_greatestWithout_27 : decode cX5_greatestWithout 27 = .ok (.iload_n 1, 1) := by decide +kernel
theorem dX5_greatestWithout_28 : decode cX5_greatestWithout 28 = .ok (.ishr, 1) := by decide +kernel
theorem dX5_greatestWithout_29 : decode cX5_greatestWithout 29 = .ok (.iconst 1, 1) := by decide +kernel
theorem dX5_greatestWithout_30 : decode cX5_greatestWithout 30 = .ok (.iand, 1) := by decide +kernel
theorem dX5_greatestWithout_31 : decode cX5_greatestWithout 31 = .ok (.istore 6, 2) := by decide +kernel
theorem dX5_greatestWithout_33 : decode cX5_greatestWithout 33 = .ok (.iload 6, 2) := by decide +kernel
theorem dX5_greatestWithout_35 : decode cX5_greatestWithout 35 = .ok (.iload 5, 2) := by decide +kernel
theorem dX5_greatestWithout_37 : decode cX5_greatestWithout 37 = .ok (.iload_n 3, 1) := by decide +kernel
theorem dX5_greatestWithout_38 : decode cX5_greatestWithout 38 = .ok (.ishr, 1) := by decide +kernel
theorem dX5_greatestWithout_39 : decode cX5_greatestWithout 39 = .ok (.iconst 1, 1) := by decide +kernel
theorem dX5_greatestWithout_40 : decode cX5_greatestWithout 40 = .ok (.iand, 1) := by decide +kernel
theorem dX5_greatestWithout_41 : decode cX5_greatestWithout 41 = .ok (.if_icmp .ne 61, 3) := by decide +kernel
theorem dX5_greatestWithout_44 : decode cX5_greatestWithout 44 = .ok (.iload 6, 2) := by decide +kernel
theorem dX5_greatestWithout_46 : decode cX5_greatestWithout 46 = .ok (.iconst 1, 1) := by decide +kernel
theorem dX5_greatestWithout_47 : decode cX5_greatestWithout 47 = .ok (.if_icmp .ne 7, 3) := by decide +kernel
theorem dX5_greatestWithout_50 : decode cX5_greatestWithout 50 = .ok (.iconst 0, 1) := by decide +kernel
theorem dX5_greatestWithout_51 : decode cX5_greatestWithout 51 = .ok (.goto 4, 3) := by decide +kernel
theorem dX5_greatestWithout_54 : decode cX5_greatestWithout 54 = .ok (.iconst 1, 1) := by decide +kernel
theorem dX5_greatestWithout_55 : decode cX5_greatestWithout 55 = .ok (.istore 7, 2) := by decide +kernel
theorem dX5_greatestWithout_57 : decode cX5_greatestWithout 57 = .ok (.aload_n 0, 1) := by decide +kernel
theorem dX5_greatestWithout_58 : decode cX5_greatestWithout 58 = .ok (.getfield 9, 3) := by decide +kernel
theorem dX5_greatestWithout_61 : decode cX5_greatestWithout 61 = .ok (.iconst 0, 1) := by decide +kernel
theorem dX5_greatestWithout_62 : decode cX5_greatestWithout 62 = .ok (.iload_n 1, 1) := by decide +kernel
theorem dX5_greatestWithout_63 : decode cX5_greatestWithout 63 = .ok (.iload 7, 2) := by decide +kernel
theorem dX5_greatestWithout_65 : decode cX5_greatestWithout 65 = .ok (.invokestatic 59, 3) := by decide +kernel
theorem dX5_greatestWithout_68 : decode cX5_greatestWithout 68 = .ok (.iaload, 1) := by decide +kernel
theorem dX5_greatestWithout_69 : decode cX5_greatestWithout 69 = .ok (.aload_n 0, 1) := by decide +kernel
theorem dX5_greatestWithout_70 : decode cX5_greatestWithout 70 = .ok (.getfield 9, 3) := by decide +kernel
theorem dX5_greatestWithout_73 : decode cX5_greatestWithout 73 = .ok (.iconst 1, 1) := by decide +kernel
theorem dX5_greatestWithout_74 : decode cX5_greatestWithout 74 = .ok (.iload_n 1, 1) := by decide +kernel
theorem dX5_greatestWithout_75 : decode cX5_greatestWithout 75 = .ok (.iload 7, 2) := by decide +kernel
theorem dX5_greatestWithout_77 : decode cX5_greatestWithout 77 = .ok (.invokestatic 59, 3) := by decide +kernel
theorem dX5_greatestWithout_80 : decode cX5_greatestWithout 80 = .ok (.iaload, 1) := by decide +kernel
theorem dX5_greatestWithout_81 : decode cX5_greatestWithout 81 = .ok (.iadd, 1) := by decide +kernel
theorem dX5_greatestWithout_82 : decode cX5_greatestWithout 82 = .ok (.istore 8, 2) := by decide +kernel
theorem dX5_greatestWithout_84 : decode cX5_greatestWithout 84 = .ok (.iload 4, 2) := by decide +kernel
theorem dX5_greatestWithout_86 : decode cX5_greatestWithout 86 = .ok (.aload_n 0, 1) := by decide +kernel
theorem dX5_greatestWithout_87 : decode cX5_greatestWithout 87 = .ok (.iload 5, 2) := by decide +kernel
theorem dX5_greatestWithout_89 : decode cX5_greatestWithout 89 = .ok (.invokevirtual 91, 3) := by decide +kernel
theorem dX5_greatestWithout_92 : decode cX5_greatestWithout 92 = .ok (.iload 8, 2) := by decide +kernel
theorem dX5_greatestWithout_94 : decode cX5_greatestWithout 94 = .ok (.isub, 1) := by decide +kernel
theorem dX5_greatestWithout_95 : decode cX5_greatestWithout 95 = .ok (.iload_n 2, 1) := by decide +kernel
theorem dX5_greatestWithout_96 : decode cX5_greatestWithout 96 = .ok (.iadd, 1) := by decide +kernel
theorem dX5_greatestWithout_97 : decode cX5_greatestWithout 97 = .ok (.invokestatic 110, 3) := by decide +kernel
theorem dX5_greatestWithout_100 : decode cX5_greatestWithout 100 = .ok (.istore 4, 2) := by decide +kernel
theorem dX5_greatestWithout_102 : decode cX5_greatestWithout 102 = .ok (.iinc 5 1, 3) := by decide +kernel
theorem dX5_greatestWithout_105 : decode cX5_greatestWithout 105 = .ok (.goto (-88), 3) := by decide +kernel
theorem dX5_greatestWithout_108 : decode cX5_greatestWithout 108 = .ok (.iload 4, 2) := by decide +kernel
theorem dX5_greatestWithout_110 : decode cX5_greatestWithout 110 = .ok (.ireturn, 1) := by decide +kernel
def L_X5_greatestWithout (w : Nat) : Nat → z_Mem → Int32 → Int32 → Int32 → Int32 → Int32 → Option (Int32 × z_Mem)
  | 0, _, _, _, _, _, _ => none
  | c + 1, M, x1, x2, x3, x4, x5 =>
    if (4095 : Int32) < x5 then
    some (x4, M)
    else
    if ((x5 >>> (x1 &&& 31)) &&& (1 : Int32)) = ((x5 >>> (x3 &&& 31)) &&& (1 : Int32)) then
    if ((x5 >>> (x1 &&& 31)) &&& (1 : Int32)) = (1 : Int32) then
    (F_X5_bearingAt w M (0 : Int32) x1 (0 : Int32)).bind fun q12 =>
    if q12.1 < 0 ∨ 48 ≤ q12.1.toNatClampNeg then none else
    (F_X5_bearingAt w q12.2 (1 : Int32) x1 (0 : Int32)).bind fun q15 =>
    if q15.1 < 0 ∨ 48 ≤ q15.1.toNatClampNeg then none else
    (F_X5_netOf w q15.2 x5).bind fun q18 =>
    L_X5_greatestWithout w c q18.2 x1 x2 x3 (if x4 < ((q18.1 - ((q12.2.1 60 q12.1.toNatClampNeg) + (q15.2.1 60 q15.1.toNatClampNeg))) + x2) then (q18.1 - ((q12.2.1 60 q12.1.toNatClampNeg) + (q15.2.1 60 q15.1.toNatClampNeg))) + x2 else x4) (x5 + (1 : Int32))
    else
    (F_X5_bearingAt w M (0 : Int32) x1 (1 : Int32)).bind fun q4 =>
    if q4.1 < 0 ∨ 48 ≤ q4.1.toNatClampNeg then none else
    (F_X5_bearingAt w q4.2 (1 : Int32) x1 (1 : Int32)).bind fun q7 =>
    if q7.1 < 0 ∨ 48 ≤ q7.1.toNatClampNeg then none else
    (F_X5_netOf w q7.2 x5).bind fun q10 =>
    L_X5_greatestWithout w c q10.2 x1 x2 x3 (if x4 < ((q10.1 - ((q4.2.1 60 q4.1.toNatClampNeg) + (q7.2.1 60 q7.1.toNatClampNeg))) + x2) then (q10.1 - ((q4.2.1 60 q4.1.toNatClampNeg) + (q7.2.1 60 q7.1.toNatClampNeg))) + x2 else x4) (x5 + (1 : Int32))
    else
    L_X5_greatestWithout w c M x1 x2 x3 x4 (x5 + (1 : Int32))
set_option maxHeartbeats 4000000 in
theorem AL_X5_greatestWithout {w : Nat} : ∀ (c : Nat), (∀ (M : z_Mem) (x1 : Int32) (x2 : Int32) (x3 : Int32) (x4 : Int32) (x5 : Int32) (r : Int32) (M' : z_Mem) (Q : Option Value → z_Mem → Prop), L_X5_greatestWithout w c M x1 x2 x3 x4 x5 = some (r, M') → Q (some (.int r)) M' → z_G none 3 mX5_greatestWithout 17 [some (.ref 61), some (.int x1), some (.int x2), some (.int x3), some (.int x4), some (.int x5), none, none, none] [] M Q) := by
  intro c
  induction c with
  | zero => exact (fun M x1 x2 x3 x4 x5 r M' Q h hq => by rw [L_X5_greatestWithout] at h; cases h)
  | succ c ih =>
    intro M x1 x2 x3 x4 x5 r M' Q h hq
    rw [L_X5_greatestWithout] at h
    refine g_iload dX5_greatestWithout_17 rfl ?_
    refine g_sipush (v := (4095 : Int32)) dX5_greatestWithout_19 (by decide) ?_
    refine g_ic_gt (t := 108) dX5_greatestWithout_22 (by decide) (fun c1 => ?_) (fun c1 => ?_)
    · replace h := z_ift c1 h
      refine g_iload dX5_greatestWithout_108 rfl ?_
      cases h
      exact g_iret dX5_greatestWithout_110 rfl rfl hq
    · replace h := z_iff c1 h
      refine g_iload dX5_greatestWithout_25 rfl ?_
      refine g_iload_n dX5_greatestWithout_27 rfl rfl ?_
      refine g_ishr dX5_greatestWithout_28 ?_
      refine g_iconst (v := (1 : Int32)) dX5_greatestWithout_29 (by decide) ?_
      refine g_iand dX5_greatestWithout_30 ?_
      refine g_istore (ls' := [some (.ref 61), some (.int x1), some (.int x2), some (.int x3), some (.int x4), some (.int x5), some (.int ((x5 >>> (x1 &&& 31)) &&& (1 : Int32))), none, none]) dX5_greatestWithout_31 (Nat.le_of_ble_eq_true rfl) rfl ?_
      refine g_iload dX5_greatestWithout_33 rfl ?_
      refine g_iload dX5_greatestWithout_35 rfl ?_
      refine g_iload_n dX5_greatestWithout_37 rfl rfl ?_
      refine g_ishr dX5_greatestWithout_38 ?_
      refine g_iconst (v := (1 : Int32)) dX5_greatestWithout_39 (by decide) ?_
      refine g_iand dX5_greatestWithout_40 ?_
      refine g_ic_ne (t := 102) dX5_greatestWithout_41 (by decide) (fun c2 => ?_) (fun c2 => ?_)
      · replace h := z_iff c2 h
        refine g_iinc (v := x5 + (1 : Int32)) (ls' := [some (.ref 61), some (.int x1), some (.int x2), some (.int x3), some (.int x4), some (.int (x5 + (1 : Int32))), some (.int ((x5 >>> (x1 &&& 31)) &&& (1 : Int32))), none, none]) dX5_greatestWithout_102 rfl rfl rfl ?_
        refine g_goto (t := 17) dX5_greatestWithout_105 (by decide) ?_
        exact g_sub (z_sub_s (z_sub_s (z_sub_s (z_sub_s (z_sub_s (z_sub_s (z_sub_n (z_sub_n (z_sub_n z_sub_nil))))))))) (ih _ _ _ _ _ _ _ _ _ h hq)
      · replace h := z_ift c2 h
        refine g_iload dX5_greatestWithout_44 rfl ?_
        refine g_iconst (v := (1 : Int32)) dX5_greatestWithout_46 (by decide) ?_
        refine g_ic_ne (t := 54) dX5_greatestWithout_47 (by decide) (fun c3 => ?_) (fun c3 => ?_)
        · replace h := z_iff c3 h
          refine g_iconst (v := (1 : Int32)) dX5_greatestWithout_54 (by decide) ?_
          refine g_istore (ls' := [some (.ref 61), some (.int x1), some (.int x2), some (.int x3), some (.int x4), some (.int x5), some (.int ((x5 >>> (x1 &&& 31)) &&& (1 : Int32))), some (.int (1 : Int32)), none]) dX5_greatestWithout_55 (Nat.le_of_ble_eq_true rfl) rfl ?_
          refine g_aload_n dX5_greatestWithout_57 rfl rfl ?_
          refine g_get (a := 59) (v := .ref 62) dX5_greatestWithout_58 f_5_9 sh_59 rfl rfl ?_
          refine g_iconst (v := (0 : Int32)) dX5_greatestWithout_61 (by decide) ?_
          refine g_iload_n dX5_greatestWithout_62 rfl rfl ?_
          refine g_iload dX5_greatestWithout_63 rfl ?_
          obtain ⟨q4, e5, h⟩ := z_bd h
          refine g_callS (as := [.int (0 : Int32), .int x1, .int (1 : Int32)]) (rest := [.ref 62]) (c := mX5_bearingAt) (k1 := 0) dX5_greatestWithout_65 rfl rfl rfl rfl rfl (Nat.le_of_ble_eq_true rfl) (Nat.le_of_ble_eq_true rfl) (by decide) ?_
          refine A_X5_bearingAt e5 ?_
          show z_G none 3 mX5_greatestWithout 68 [some (.ref 61), some (.int x1), some (.int x2), some (.int x3), some (.int x4), some (.int x5), some (.int ((x5 >>> (x1 &&& 31)) &&& (1 : Int32))), some (.int (1 : Int32)), none] [.int q4.1, .ref 62] q4.2 Q
          by_cases g6 : q4.1 < 0 ∨ 48 ≤ q4.1.toNatClampNeg
          · rw [if_pos g6] at h; cases h
          replace h := z_iff g6 h
          refine g_iald (a := 60) dX5_greatestWithout_68 sh_60 g6 ?_
          refine g_aload_n dX5_greatestWithout_69 rfl rfl ?_
          refine g_get (a := 59) (v := .ref 62) dX5_greatestWithout_70 f_5_9 sh_59 rfl rfl ?_
          refine g_iconst (v := (1 : Int32)) dX5_greatestWithout_73 (by decide) ?_
          refine g_iload_n dX5_greatestWithout_74 rfl rfl ?_
          refine g_iload dX5_greatestWithout_75 rfl ?_
          obtain ⟨q7, e8, h⟩ := z_bd h
          refine g_callS (as := [.int (1 : Int32), .int x1, .int (1 : Int32)]) (rest := [.ref 62, .int (q4.2.1 60 q4.1.toNatClampNeg)]) (c := mX5_bearingAt) (k1 := 0) dX5_greatestWithout_77 rfl rfl rfl rfl rfl (Nat.le_of_ble_eq_true rfl) (Nat.le_of_ble_eq_true rfl) (by decide) ?_
          refine A_X5_bearingAt e8 ?_
          show z_G none 3 mX5_greatestWithout 80 [some (.ref 61), some (.int x1), some (.int x2), some (.int x3), some (.int x4), some (.int x5), some (.int ((x5 >>> (x1 &&& 31)) &&& (1 : Int32))), some (.int (1 : Int32)), none] [.int q7.1, .ref 62, .int (q4.2.1 60 q4.1.toNatClampNeg)] q7.2 Q
          by_cases g9 : q7.1 < 0 ∨ 48 ≤ q7.1.toNatClampNeg
          · rw [if_pos g9] at h; cases h
          replace h := z_iff g9 h
          refine g_iald (a := 60) dX5_greatestWithout_80 sh_60 g9 ?_
          refine g_iadd dX5_greatestWithout_81 ?_
          refine g_istore (ls' := [some (.ref 61), some (.int x1), some (.int x2), some (.int x3), some (.int x4), some (.int x5), some (.int ((x5 >>> (x1 &&& 31)) &&& (1 : Int32))), some (.int (1 : Int32)), some (.int ((q4.2.1 60 q4.1.toNatClampNeg) + (q7.2.1 60 q7.1.toNatClampNeg)))]) dX5_greatestWithout_82 (Nat.le_of_ble_eq_true rfl) rfl ?_
          refine g_iload dX5_greatestWithout_84 rfl ?_
          refine g_aload_n dX5_greatestWithout_86 rfl rfl ?_
          refine g_iload dX5_greatestWithout_87 rfl ?_
          obtain ⟨q10, e11, h⟩ := z_bd h
          refine g_callV (a := 59) (as := [.int x5]) (rest := [.int x4]) (c := mX5_netOf) (k1 := 2) dX5_greatestWithout_89 rfl rfl rfl sh_59 rfl rfl (Nat.le_of_ble_eq_true rfl) (Nat.le_of_ble_eq_true rfl) (by decide) ?_
          refine A_X5_netOf e11 ?_
          show z_G none 3 mX5_greatestWithout 92 [some (.ref 61), some (.int x1), some (.int x2), some (.int x3), some (.int x4), some (.int x5), some (.int ((x5 >>> (x1 &&& 31)) &&& (1 : Int32))), some (.int (1 : Int32)), some (.int ((q4.2.1 60 q4.1.toNatClampNeg) + (q7.2.1 60 q7.1.toNatClampNeg)))] [.int q10.1, .int x4] q10.2 Q
          refine g_iload dX5_greatestWithout_92 rfl ?_
          refine g_isub dX5_greatestWithout_94 ?_
          refine g_iload_n dX5_greatestWithout_95 rfl rfl ?_
          refine g_iadd dX5_greatestWithout_96 ?_
          refine g_max dX5_greatestWithout_97 rfl (Nat.le_of_ble_eq_true rfl) ?_
          refine g_istore (ls' := [some (.ref 61), some (.int x1), some (.int x2), some (.int x3), some (.int (if x4 < ((q10.1 - ((q4.2.1 60 q4.1.toNatClampNeg) + (q7.2.1 60 q7.1.toNatClampNeg))) + x2) then (q10.1 - ((q4.2.1 60 q4.1.toNatClampNeg) + (q7.2.1 60 q7.1.toNatClampNeg))) + x2 else x4)), some (.int x5), some (.int ((x5 >>> (x1 &&& 31)) &&& (1 : Int32))), some (.int (1 : Int32)), some (.int ((q4.2.1 60 q4.1.toNatClampNeg) + (q7.2.1 60 q7.1.toNatClampNeg)))]) dX5_greatestWithout_100 (Nat.le_of_ble_eq_true rfl) rfl ?_
          refine g_iinc (v := x5 + (1 : Int32)) (ls' := [some (.ref 61), some (.int x1), some (.int x2), some (.int x3), some (.int (if x4 < ((q10.1 - ((q4.2.1 60 q4.1.toNatClampNeg) + (q7.2.1 60 q7.1.toNatClampNeg))) + x2) then (q10.1 - ((q4.2.1 60 q4.1.toNatClampNeg) + (q7.2.1 60 q7.1.toNatClampNeg))) + x2 else x4)), some (.int (x5 + (1 : Int32))), some (.int ((x5 >>> (x1 &&& 31)) &&& (1 : Int32))), some (.int (1 : Int32)), some (.int ((q4.2.1 60 q4.1.toNatClampNeg) + (q7.2.1 60 q7.1.toNatClampNeg)))]) dX5_greatestWithout_102 rfl rfl rfl ?_
          refine g_goto (t := 17) dX5_greatestWithout_105 (by decide) ?_
          exact g_sub (z_sub_s (z_sub_s (z_sub_s (z_sub_s (z_sub_s (z_sub_s (z_sub_n (z_sub_n (z_sub_n z_sub_nil))))))))) (ih _ _ _ _ _ _ _ _ _ h hq)
        · replace h := z_ift c3 h
          refine g_iconst (v := (0 : Int32)) dX5_greatestWithout_50 (by decide) ?_
          refine g_goto (t := 55) dX5_greatestWithout_51 (by decide) ?_
          refine g_istore (ls' := [some (.ref 61), some (.int x1), some (.int x2), some (.int x3), some (.int x4), some (.int x5), some (.int ((x5 >>> (x1 &&& 31)) &&& (1 : Int32))), some (.int (0 : Int32)), none]) dX5_greatestWithout_55 (Nat.le_of_ble_eq_true rfl) rfl ?_
          refine g_aload_n dX5_greatestWithout_57 rfl rfl ?_
          refine g_get (a := 59) (v := .ref 62) dX5_greatestWithout_58 f_5_9 sh_59 rfl rfl ?_
          refine g_iconst (v := (0 : Int32)) dX5_greatestWithout_61 (by decide) ?_
          refine g_iload_n dX5_greatestWithout_62 rfl rfl ?_
          refine g_iload dX5_greatestWithout_63 rfl ?_
          obtain ⟨q12, e13, h⟩ := z_bd h
          refine g_callS (as := [.int (0 : Int32), .int x1, .int (0 : Int32)]) (rest := [.ref 62]) (c := mX5_bearingAt) (k1 := 0) dX5_greatestWithout_65 rfl rfl rfl rfl rfl (Nat.le_of_ble_eq_true rfl) (Nat.le_of_ble_eq_true rfl) (by decide) ?_
          refine A_X5_bearingAt e13 ?_
          show z_G none 3 mX5_greatestWithout 68 [some (.ref 61), some (.int x1), some (.int x2), some (.int x3), some (.int x4), some (.int x5), some (.int ((x5 >>> (x1 &&& 31)) &&& (1 : Int32))), some (.int (0 : Int32)), none] [.int q12.1, .ref 62] q12.2 Q
          by_cases g14 : q12.1 < 0 ∨ 48 ≤ q12.1.toNatClampNeg
          · rw [if_pos g14] at h; cases h
          replace h := z_iff g14 h
          refine g_iald (a := 60) dX5_greatestWithout_68 sh_60 g14 ?_
          refine g_aload_n dX5_greatestWithout_69 rfl rfl ?_
          refine g_get (a := 59) (v := .ref 62) dX5_greatestWithout_70 f_5_9 sh_59 rfl rfl ?_
          refine g_iconst (v := (1 : Int32)) dX5_greatestWithout_73 (by decide) ?_
          refine g_iload_n dX5_greatestWithout_74 rfl rfl ?_
          refine g_iload dX5_greatestWithout_75 rfl ?_
          obtain ⟨q15, e16, h⟩ := z_bd h
          refine g_callS (as := [.int (1 : Int32), .int x1, .int (0 : Int32)]) (rest := [.ref 62, .int (q12.2.1 60 q12.1.toNatClampNeg)]) (c := mX5_bearingAt) (k1 := 0) dX5_greatestWithout_77 rfl rfl rfl rfl rfl (Nat.le_of_ble_eq_true rfl) (Nat.le_of_ble_eq_true rfl) (by decide) ?_
          refine A_X5_bearingAt e16 ?_
          show z_G none 3 mX5_greatestWithout 80 [some (.ref 61), some (.int x1), some (.int x2), some (.int x3), some (.int x4), some (.int x5), some (.int ((x5 >>> (x1 &&& 31)) &&& (1 : Int32))), some (.int (0 : Int32)), none] [.int q15.1, .ref 62, .int (q12.2.1 60 q12.1.toNatClampNeg)] q15.2 Q
          by_cases g17 : q15.1 < 0 ∨ 48 ≤ q15.1.toNatClampNeg
          · rw [if_pos g17] at h; cases h
          replace h := z_iff g17 h
          refine g_iald (a := 60) dX5_greatestWithout_80 sh_60 g17 ?_
          refine g_iadd dX5_greatestWithout_81 ?_
          refine g_istore (ls' := [some (.ref 61), some (.int x1), some (.int x2), some (.int x3), some (.int x4), some (.int x5), some (.int ((x5 >>> (x1 &&& 31)) &&& (1 : Int32))), some (.int (0 : Int32)), some (.int ((q12.2.1 60 q12.1.toNatClampNeg) + (q15.2.1 60 q15.1.toNatClampNeg)))]) dX5_greatestWithout_82 (Nat.le_of_ble_eq_true rfl) rfl ?_
          refine g_iload dX5_greatestWithout_84 rfl ?_
          refine g_aload_n dX5_greatestWithout_86 rfl rfl ?_
          refine g_iload dX5_greatestWithout_87 rfl ?_
          obtain ⟨q18, e19, h⟩ := z_bd h
          refine g_callV (a := 59) (as := [.int x5]) (rest := [.int x4]) (c := mX5_netOf) (k1 := 2) dX5_greatestWithout_89 rfl rfl rfl sh_59 rfl rfl (Nat.le_of_ble_eq_true rfl) (Nat.le_of_ble_eq_true rfl) (by decide) ?_
          refine A_X5_netOf e19 ?_
          show z_G none 3 mX5_greatestWithout 92 [some (.ref 61), some (.int x1), some (.int x2), some (.int x3), some (.int x4), some (.int x5), some (.int ((x5 >>> (x1 &&& 31)) &&& (1 : Int32))), some (.int (0 : Int32)), some (.int ((q12.2.1 60 q12.1.toNatClampNeg) + (q15.2.1 60 q15.1.toNatClampNeg)))] [.int q18.1, .int x4] q18.2 Q
          refine g_iload dX5_greatestWithout_92 rfl ?_
          refine g_isub dX5_greatestWithout_94 ?_
          refine g_iload_n dX5_greatestWithout_95 rfl rfl ?_
          refine g_iadd dX5_greatestWithout_96 ?_
          refine g_max dX5_greatestWithout_97 rfl (Nat.le_of_ble_eq_true rfl) ?_
          refine g_istore (ls' := [some (.ref 61), some (.int x1), some (.int x2), some (.int x3), some (.int (if x4 < ((q18.1 - ((q12.2.1 60 q12.1.toNatClampNeg) + (q15.2.1 60 q15.1.toNatClampNeg))) + x2) then (q18.1 - ((q12.2.1 60 q12.1.toNatClampNeg) + (q15.2.1 60 q15.1.toNatClampNeg))) + x2 else x4)), some (.int x5), some (.int ((x5 >>> (x1 &&& 31)) &&& (1 : Int32))), some (.int (0 : Int32)), some (.int ((q12.2.1 60 q12.1.toNatClampNeg) + (q15.2.1 60 q15.1.toNatClampNeg)))]) dX5_greatestWithout_100 (Nat.le_of_ble_eq_true rfl) rfl ?_
          refine g_iinc (v := x5 + (1 : Int32)) (ls' := [some (.ref 61), some (.int x1), some (.int x2), some (.int x3), some (.int (if x4 < ((q18.1 - ((q12.2.1 60 q12.1.toNatClampNeg) + (q15.2.1 60 q15.1.toNatClampNeg))) + x2) then (q18.1 - ((q12.2.1 60 q12.1.toNatClampNeg) + (q15.2.1 60 q15.1.toNatClampNeg))) + x2 else x4)), some (.int (x5 + (1 : Int32))), some (.int ((x5 >>> (x1 &&& 31)) &&& (1 : Int32))), some (.int (0 : Int32)), some (.int ((q12.2.1 60 q12.1.toNatClampNeg) + (q15.2.1 60 q15.1.toNatClampNeg)))]) dX5_greatestWithout_102 rfl rfl rfl ?_
          refine g_goto (t := 17) dX5_greatestWithout_105 (by decide) ?_
          exact g_sub (z_sub_s (z_sub_s (z_sub_s (z_sub_s (z_sub_s (z_sub_s (z_sub_n (z_sub_n (z_sub_n z_sub_nil))))))))) (ih _ _ _ _ _ _ _ _ _ h hq)
def F_X5_greatestWithout (w : Nat) (M : z_Mem) (a1 : Int32) (a2 : Int32) : Option (Int32 × z_Mem) :=
  L_X5_greatestWithout w w M a1 a2 (((a1 + (12 : Int32)) - (1 : Int32)) - ((a1 + (12 : Int32)) - (1 : Int32)) / (12 : Int32) * (12 : Int32)) (-1000000 : Int32) (0 : Int32)
set_option maxHeartbeats 4000000 in
theorem A_X5_greatestWithout {w : Nat} {M : z_Mem} {a1 : Int32} {a2 : Int32} {r : Int32} {M' : z_Mem} {Q : Option Value → z_Mem → Prop} (h : F_X5_greatestWithout w M a1 a2 = some (r, M')) (hq : Q (some (.int r)) M') : z_Cl 3 mX5_greatestWithout [.ref 61, .int a1, .int a2] M Q := by
  refine g_in (ls := [some (.ref 61), some (.int a1), some (.int a2), none, none, none, none, none, none]) rfl ?_
  unfold F_X5_greatestWithout at h
  refine g_iload_n dX5_greatestWithout_0 rfl rfl ?_
  refine g_bipush (v := (12 : Int32)) dX5_greatestWithout_1 (by decide) ?_
  refine g_iadd dX5_greatestWithout_3 ?_
  refine g_iconst (v := (1 : Int32)) dX5_greatestWithout_4 (by decide) ?_
  refine g_isub dX5_greatestWithout_5 ?_
  refine g_bipush (v := (12 : Int32)) dX5_greatestWithout_6 (by decide) ?_
  refine g_irem dX5_greatestWithout_8 (by decide) ?_
  refine g_istore_n (ls' := [some (.ref 61), some (.int a1), some (.int a2), some (.int (((a1 + (12 : Int32)) - (1 : Int32)) - ((a1 + (12 : Int32)) - (1 : Int32)) / (12 : Int32) * (12 : Int32))), none, none, none, none, none]) dX5_greatestWithout_9 rfl (Nat.le_of_ble_eq_true rfl) rfl ?_
  refine g_ldc dX5_greatestWithout_10 rfl ?_
  refine g_istore (ls' := [some (.ref 61), some (.int a1), some (.int a2), some (.int (((a1 + (12 : Int32)) - (1 : Int32)) - ((a1 + (12 : Int32)) - (1 : Int32)) / (12 : Int32) * (12 : Int32))), some (.int (-1000000 : Int32)), none, none, none, none]) dX5_greatestWithout_12 (Nat.le_of_ble_eq_true rfl) rfl ?_
  refine g_iconst (v := (0 : Int32)) dX5_greatestWithout_14 (by decide) ?_
  refine g_istore (ls' := [some (.ref 61), some (.int a1), some (.int a2), some (.int (((a1 + (12 : Int32)) - (1 : Int32)) - ((a1 + (12 : Int32)) - (1 : Int32)) / (12 : Int32) * (12 : Int32))), some (.int (-1000000 : Int32)), some (.int (0 : Int32)), none, none, none]) dX5_greatestWithout_15 (Nat.le_of_ble_eq_true rfl) rfl ?_
  exact g_sub (z_sub_s (z_sub_s (z_sub_s (z_sub_s (z_sub_s (z_sub_s (z_sub_n (z_sub_n (z_sub_n z_sub_nil))))))))) ((AL_X5_greatestWithout (w := w) w) _ _ _ _ _ _ _ _ _ h hq)
theorem dX5_leadOf_0 : decode cX5_leadOf 0 = .ok (.aload_n 0, 1) := by decide +kernel
theorem dX5_leadOf_1 : decode cX5_leadOf 1 = .ok (.getfield 34, 3) := by decide +kernel
theorem dX5_leadOf_4 : decode cX5_leadOf 4 = .ok (.ifCond .ne 13, 3) := by decide +kernel
theorem dX5_leadOf_7 : decode cX5_leadOf 7 = .ok (.sipush 4095, 3) := by decide +kernel
theorem dX5_leadOf_10 : decode cX5_leadOf 10 = .ok (.iload_n 2, 1) := by decide +kernel
theorem dX5_leadOf_11 : decode cX5_leadOf 11 = .ok (.iconst (-1), 1) := by decide +kernel
theorem dX5_leadOf_12 : decode cX5_leadOf 12 = .ok (.ixor, 1) := by decide +kernel
theorem dX5_leadOf_13 : decode cX5_leadOf 13 = .ok (.iand, 1) := by decide +kernel
theorem dX5_leadOf_14 : decode cX5_leadOf 14 = .ok (.goto 4, 3) := by decide +kernel
theorem dX5_leadOf_17 : decode cX5_leadOf 17 = .ok (.iload_n 1, 1) := by decide +kernel
theorem dX5_leadOf_18 : decode cX5_leadOf 18 = .ok (.istore_n 3, 1) := by decide +kernel
theorem dX5_leadOf_19 : decode cX5_leadOf 19 = .ok (.aload_n 0, 1) := by decide +kernel
theorem dX5_leadOf_20 : decode cX5_leadOf 20 = .ok (.iconst 0, 1) := by decide +kernel
theorem dX5_leadOf_21 : decode cX5_leadOf 21 = .ok (.iload_n 3, 1) := by decide +kernel
theorem dX5_leadOf_22 : decode cX5_leadOf 22 = .ok (.invokevirtual 85, 3) := by decide +kernel
theorem dX5_leadOf_25 : decode cX5_leadOf 25 = .ok (.aload_n 0, 1) := by decide +kernel
theorem dX5_leadOf_26 : decode cX5_leadOf 26 = .ok (.iconst 1, 1) := by decide +kernel
theorem dX5_leadOf_27 : decode cX5_leadOf 27 = .ok (.iload_n 3, 1) := by decide +kernel
theorem dX5_leadOf_28 : decode cX5_leadOf 28 = .ok (.invokevirtual 85, 3) := by decide +kernel
theorem dX5_leadOf_31 : decode cX5_leadOf 31 = .ok (.isub, 1) := by decide +kernel
theorem dX5_leadOf_32 : decode cX5_leadOf 32 = .ok (.ireturn, 1) := by decide +kernel
def F_X5_leadOf (w : Nat) (M : z_Mem) (a1 : Int32) (a2 : Int32) : Option (Int32 × z_Mem) :=
  if (M.1 59 5) = (0 : Int32) then
  (F_X5_gainOf w M (0 : Int32) ((4095 : Int32) &&& (a2 ^^^ (-1 : Int32)))).bind fun q6 =>
  (F_X5_gainOf w q6.2 (1 : Int32) ((4095 : Int32) &&& (a2 ^^^ (-1 : Int32)))).bind fun q8 =>
  some (q6.1 - q8.1, q8.2)
  else
  (F_X5_gainOf w M (0 : Int32) a1).bind fun q2 =>
  (F_X5_gainOf w q2.2 (1 : Int32) a1).bind fun q4 =>
  some (q2.1 - q4.1, q4.2)
set_option maxHeartbeats 4000000 in
theorem A_X5_leadOf {w : Nat} {M : z_Mem} {a1 : Int32} {a2 : Int32} {r : Int32} {M' : z_Mem} {Q : Option Value → z_Mem → Prop} (h : F_X5_leadOf w M a1 a2 = some (r, M')) (hq : Q (some (.int r)) M') : z_Cl 1 mX5_leadOf [.ref 61, .int a1, .int a2] M Q := by
  refine g_in (ls := [some (.ref 61), some (.int a1), some (.int a2), none]) rfl ?_
  unfold F_X5_leadOf at h
  refine g_aload_n dX5_leadOf_0 rfl rfl ?_
  refine g_get (a := 59) (v := .int (M.1 59 5)) dX5_leadOf_1 f_5_34 sh_59 rfl rfl ?_
  refine g_if_ne (t := 17) dX5_leadOf_4 (by decide) (fun c1 => ?_) (fun c1 => ?_)
  · replace h := z_iff c1 h
    refine g_iload_n dX5_leadOf_17 rfl rfl ?_
    refine g_istore_n (ls' := [some (.ref 61), some (.int a1), some (.int a2), some (.int a1)]) dX5_leadOf_18 rfl (Nat.le_of_ble_eq_true rfl) rfl ?_
    refine g_aload_n dX5_leadOf_19 rfl rfl ?_
    refine g_iconst (v := (0 : Int32)) dX5_leadOf_20 (by decide) ?_
    refine g_iload_n dX5_leadOf_21 rfl rfl ?_
    obtain ⟨q2, e3, h⟩ := z_bd h
    refine g_callV (a := 59) (as := [.int (0 : Int32), .int a1]) (rest := []) (c := mX5_gainOf) (k1 := 0) dX5_leadOf_22 rfl rfl rfl sh_59 rfl rfl (Nat.le_of_ble_eq_true rfl) (Nat.le_of_ble_eq_true rfl) (by decide) ?_
    refine A_X5_gainOf e3 ?_
    show z_G none 1 mX5_leadOf 25 [some (.ref 61), some (.int a1), some (.int a2), some (.int a1)] [.int q2.1] q2.2 Q
    refine g_aload_n dX5_leadOf_25 rfl rfl ?_
    refine g_iconst (v := (1 : Int32)) dX5_leadOf_26 (by decide) ?_
    refine g_iload_n dX5_leadOf_27 rfl rfl ?_
    obtain ⟨q4, e5, h⟩ := z_bd h
    refine g_callV (a := 59) (as := [.int (1 : Int32), .int a1]) (rest := [.int q2.1]) (c := mX5_gainOf) (k1 := 0) dX5_leadOf_28 rfl rfl rfl sh_59 rfl rfl (Nat.le_of_ble_eq_true rfl) (Nat.le_of_ble_eq_true rfl) (by decide) ?_
    refine A_X5_gainOf e5 ?_
    show z_G none 1 mX5_leadOf 31 [some (.ref 61), some (.int a1), some (.int a2), some (.int a1)] [.int q4.1, .int q2.1] q4.2 Q
    refine g_isub dX5_leadOf_31 ?_
    cases h
    exact g_iret dX5_leadOf_32 rfl rfl hq
  · replace h := z_ift c1 h
    refine g_sipush (v := (4095 : Int32)) dX5_leadOf_7 (by decide) ?_
    refine g_iload_n dX5_leadOf_10 rfl rfl ?_
    refine g_iconst (v := (-1 : Int32)) dX5_leadOf_11 (by decide) ?_
    refine g_ixor dX5_leadOf_12 ?_
    refine g_iand dX5_leadOf_13 ?_
    refine g_goto (t := 18) dX5_leadOf_14 (by decide) ?_
    refine g_istore_n (ls' := [some (.ref 61), some (.int a1), some (.int a2), some (.int ((4095 : Int32) &&& (a2 ^^^ (-1 : Int32))))]) dX5_leadOf_18 rfl (Nat.le_of_ble_eq_true rfl) rfl ?_
    refine g_aload_n dX5_leadOf_19 rfl rfl ?_
    refine g_iconst (v := (0 : Int32)) dX5_leadOf_20 (by decide) ?_
    refine g_iload_n dX5_leadOf_21 rfl rfl ?_
    obtain ⟨q6, e7, h⟩ := z_bd h
    refine g_callV (a := 59) (as := [.int (0 : Int32), .int ((4095 : Int32) &&& (a2 ^^^ (-1 : Int32)))]) (rest := []) (c := mX5_gainOf) (k1 := 0) dX5_leadOf_22 rfl rfl rfl sh_59 rfl rfl (Nat.le_of_ble_eq_true rfl) (Nat.le_of_ble_eq_true rfl) (by decide) ?_
    refine A_X5_gainOf e7 ?_
    show z_G none 1 mX5_leadOf 25 [some (.ref 61), some (.int a1), some (.int a2), some (.int ((4095 : Int32) &&& (a2 ^^^ (-1 : Int32))))] [.int q6.1] q6.2 Q
    refine g_aload_n dX5_leadOf_25 rfl rfl ?_
    refine g_iconst (v := (1 : Int32)) dX5_leadOf_26 (by decide) ?_
    refine g_iload_n dX5_leadOf_27 rfl rfl ?_
    obtain ⟨q8, e9, h⟩ := z_bd h
    refine g_callV (a := 59) (as := [.int (1 : Int32), .int ((4095 : Int32) &&& (a2 ^^^ (-1 : Int32)))]) (rest := [.int q6.1]) (c := mX5_gainOf) (k1 := 0) dX5_leadOf_28 rfl rfl rfl sh_59 rfl rfl (Nat.le_of_ble_eq_true rfl) (Nat.le_of_ble_eq_true rfl) (by decide) ?_
    refine A_X5_gainOf e9 ?_
    show z_G none 1 mX5_leadOf 31 [some (.ref 61), some (.int a1), some (.int a2), some (.int ((4095 : Int32) &&& (a2 ^^^ (-1 : Int32))))] [.int q8.1, .int q6.1] q8.2 Q
    refine g_isub dX5_leadOf_31 ?_
    cases h
    exact g_iret dX5_leadOf_32 rfl rfl hq
theorem dX6_isThere_0 : decode cX6_isThere 0 = .ok (.iload_n 1, 1) := by decide +kernel
theorem dX6_isThere_1 : decode cX6_isThere 1 = .ok (.ifCond .lt 15, 3) := by decide +kernel
theorem dX6_isThere_4 : decode cX6_isThere 4 = .ok (.iload_n 1, 1) := by decide +kernel
theorem dX6_isThere_5 : decode cX6_isThere 5 = .ok (.aload_n 0, 1) := by decide +kernel
theorem dX6_isThere_6 : decode cX6_isThere 6 = .ok (.getfield 25, 3) := by decide +kernel
theorem dX6_isThere_9 : decode cX6_isThere 9 = .ok (.if_icmp .ge 7, 3) := by decide +kernel
theorem dX6_isThere_12 : decode cX6_isThere 12 = .ok (.iconst 1, 1) := by decide +kernel
theorem dX6_isThere_13 : decode cX6_isThere 13 = .ok (.goto 4, 3) := by decide +kernel
theorem dX6_isThere_16 : decode cX6_isThere 16 = .ok (.iconst 0, 1) := by decide +kernel
theorem dX6_isThere_17 : decode cX6_isThere 17 = .ok (.ireturn, 1) := by decide +kernel
def F_X6_isThere (w : Nat) (M : z_Mem) (p : Nat) (a1 : Int32) : Option (Bool × z_Mem) :=
  if a1 < (0 : Int32) then
  some (false, M)
  else
  if (M.1 (p + 2) 5) ≤ a1 then
  some (false, M)
  else
  some (true, M)
set_option maxHeartbeats 4000000 in
theorem A_X6_isThere {w : Nat} {M : z_Mem} {p : Nat} (hp : z_par p) {a1 : Int32} {r : Bool} {M' : z_Mem} {Q : Option Value → z_Mem → Prop} (h : F_X6_isThere w M p a1 = some (r, M')) (hq : Q (some (.int (z_tb r))) M') : z_Cl 0 mX6_isThere [.ref (p + 4), .int a1] M Q := by
  refine g_in (ls := [some (.ref (p + 4)), some (.int a1)]) rfl ?_
  unfold F_X6_isThere at h
  refine g_iload_n dX6_isThere_0 rfl rfl ?_
  refine g_if_lt (t := 16) dX6_isThere_1 (by decide) (fun c1 => ?_) (fun c1 => ?_)
  · replace h := z_ift c1 h
    refine g_iconst (v := (0 : Int32)) dX6_isThere_16 (by decide) ?_
    cases h
    exact g_iret dX6_isThere_17 rfl rfl hq
  · replace h := z_iff c1 h
    refine g_iload_n dX6_isThere_4 rfl rfl ?_
    refine g_aload_n dX6_isThere_5 rfl rfl ?_
    refine g_get (a := p + 2) (v := .int (M.1 (p + 2) 5)) dX6_isThere_6 f_6_25 (shp_2 hp) rfl rfl ?_
    refine g_ic_ge (t := 16) dX6_isThere_9 (by decide) (fun c2 => ?_) (fun c2 => ?_)
    · replace h := z_ift c2 h
      refine g_iconst (v := (0 : Int32)) dX6_isThere_16 (by decide) ?_
      cases h
      exact g_iret dX6_isThere_17 rfl rfl hq
    · replace h := z_iff c2 h
      refine g_iconst (v := (1 : Int32)) dX6_isThere_12 (by decide) ?_
      refine g_goto (t := 17) dX6_isThere_13 (by decide) ?_
      cases h
      exact g_iret dX6_isThere_17 rfl rfl hq
theorem dX6_awayIn_0 : decode cX6_awayIn 0 = .ok (.iconst 0, 1) := by decide +kernel
theorem dX6_awayIn_1 : decode cX6_awayIn 1 = .ok (.istore_n 2, 1) := by decide +kernel
theorem dX6_awayIn_2 : decode cX6_awayIn 2 = .ok (.iconst 0, 1) := by decide +kernel
theorem dX6_awayIn_3 : decode cX6_awayIn 3 = .ok (.istore_n 3, 1) := by decide +kernel
theorem dX6_awayIn_4 : decode cX6_awayIn 4 = .ok (.iload_n 3, 1) := by decide +kernel
theorem dX6_awayIn_5 : decode cX6_awayIn 5 = .ok (.aload_n 0, 1) := by decide +kernel
theorem dX6_awayIn_6 : decode cX6_awayIn 6 = .ok (.getfield 25, 3) := by decide +kernel
theorem dX6_awayIn_9 : decode cX6_awayIn 9 = .ok (.if_icmp .ge 37, 3) := by decide +kernel
theorem dX6_awayIn_12 : decode cX6_awayIn 12 = .ok (.aload_n 0, 1) := by decide +kernel
theorem dX6_awayIn_13 : decode cX6_awayIn 13 = .ok (.getfield 13, 3) := by decide +kernel
theorem dX6_awayIn_16 : decode cX6_awayIn 16 = .ok (.iload_n 3, 1) := by decide +kernel
theorem dX6_awayIn_17 : decode cX6_awayIn 17 = .ok (.iaload, 1) := by decide +kernel
theorem dX6_awayIn_18 : decode cX6_awayIn 18 = .ok (.iconst 1, 1) := by decide +kernel
theorem dX6_awayIn_19 : decode cX6_awayIn 19 = .ok (.if_icmp .ne 21, 3) := by decide +kernel
theorem dX6_awayIn_22 : decode cX6_awayIn 22 = .ok (.aload_n 0, 1) := by decide +kernel
theorem dX6_awayIn_23 : decode cX6_awayIn 23 = .ok (.iload_n 3, 1) := by decide +kernel
theorem dX6_awayIn_24 : decode cX6_awayIn 24 = .ok (.iload_n 1, 1) := by decide +kernel
theorem dX6_awayIn_25 : decode cX6_awayIn 25 = .ok (.invokevirtual 29, 3) := by decide +kernel
theorem dX6_awayIn_28 : decode cX6_awayIn 28 = .ok (.ifCond .eq 12, 3) := by decide +kernel
theorem dX6_awayIn_31 : decode cX6_awayIn 31 = .ok (.iload_n 2, 1) := by decide +kernel
theorem dX6_awayIn_32 : decode cX6_awayIn 32 = .ok (.aload_n 0, 1) := by decide +kernel
theorem dX6_awayIn_33 : decode cX6_awayIn 33 = .ok (.getfield 19, 3) := by decide +kernel
theorem dX6_awayIn_36 : decode cX6_awayIn 36 = .ok (.iload_n 3, 1) := by decide +kernel
theorem dX6_awayIn_37 : decode cX6_awayIn 37 = .ok (.iaload, 1) := by decide +kernel
theorem dX6_awayIn_38 : decode cX6_awayIn 38 = .ok (.iadd, 1) := by decide +kernel
theorem dX6_awayIn_39 : decode cX6_awayIn 39 = .ok (.istore_n 2, 1) := by decide +kernel
theorem dX6_awayIn_40 : decode cX6_awayIn 40 = .ok (.iinc 3 1, 3) := by decide +kernel
theorem dX6_awayIn_43 : decode cX6_awayIn 43 = .ok (.goto (-39), 3) := by decide +kernel
theorem dX6_awayIn_46 : decode cX6_awayIn 46 = .ok (.iload_n 2, 1) := by decide +kernel
theorem dX6_awayIn_47 : decode cX6_awayIn 47 = .ok (.ireturn, 1) := by decide +kernel
def L_X6_awayIn (w : Nat) (p : Nat) : Nat → z_Mem → Int32 → Int32 → Int32 → Option (Int32 × z_Mem)
  | 0, _, _, _, _ => none
  | c + 1, M, x1, x2, x3 =>
    if (M.1 (p + 2) 5) ≤ x3 then
    some (x2, M)
    else
    if x3 < 0 ∨ 8 ≤ x3.toNatClampNeg then none else
    if (M.1 (p + 4) x3.toNatClampNeg) = (1 : Int32) then
    (F_X6_isIn w M p x3 x1).bind fun q4 =>
    if q4.1 = true then
    if x3 < 0 ∨ 8 ≤ x3.toNatClampNeg then none else
    L_X6_awayIn w p c q4.2 x1 (x2 + (q4.2.1 (p + 6) x3.toNatClampNeg)) (x3 + (1 : Int32))
    else
    L_X6_awayIn w p c q4.2 x1 x2 (x3 + (1 : Int32))
    else
    L_X6_awayIn w p c M x1 x2 (x3 + (1 : Int32))
set_option maxHeartbeats 4000000 in
theorem AL_X6_awayIn {w : Nat} {p : Nat} (hp : z_par p) : ∀ (c : Nat), (∀ (M : z_Mem) (x1 : Int32) (x2 : Int32) (x3 : Int32) (r : Int32) (M' : z_Mem) (Q : Option Value → z_Mem → Prop), L_X6_awayIn w p c M x1 x2 x3 = some (r, M') → Q (some (.int r)) M' → z_G none 1 mX6_awayIn 4 [some (.ref (p + 4)), some (.int x1), some (.int x2), some (.int x3)] [] M Q) := by
  intro c
  induction c with
  | zero => exact (fun M x1 x2 x3 r M' Q h hq => by rw [L_X6_awayIn] at h; cases h)
  | succ c ih =>
    intro M x1 x2 x3 r M' Q h hq
    rw [L_X6_awayIn] at h
    refine g_iload_n dX6_awayIn_4 rfl rfl ?_
    refine g_aload_n dX6_awayIn_5 rfl rfl ?_
    refine g_get (a := p + 2) (v := .int (M.1 (p + 2) 5)) dX6_awayIn_6 f_6_25 (shp_2 hp) rfl rfl ?_
    refine g_ic_ge (t := 46) dX6_awayIn_9 (by decide) (fun c1 => ?_) (fun c1 => ?_)
    · replace h := z_ift c1 h
      refine g_iload_n dX6_awayIn_46 rfl rfl ?_
      cases h
      exact g_iret dX6_awayIn_47 rfl rfl hq
    · replace h := z_iff c1 h
      refine g_aload_n dX6_awayIn_12 rfl rfl ?_
      refine g_get (a := p + 2) (v := .ref (p + 6)) dX6_awayIn_13 f_6_13 (shp_2 hp) rfl rfl ?_
      refine g_iload_n dX6_awayIn_16 rfl rfl ?_
      by_cases g2 : x3 < 0 ∨ 8 ≤ x3.toNatClampNeg
      · rw [if_pos g2] at h; cases h
      replace h := z_iff g2 h
      refine g_iald (a := p + 4) dX6_awayIn_17 (shp_4 hp) g2 ?_
      refine g_iconst (v := (1 : Int32)) dX6_awayIn_18 (by decide) ?_
      refine g_ic_ne (t := 40) dX6_awayIn_19 (by decide) (fun c3 => ?_) (fun c3 => ?_)
      · replace h := z_iff c3 h
        refine g_iinc (v := x3 + (1 : Int32)) (ls' := [some (.ref (p + 4)), some (.int x1), some (.int x2), some (.int (x3 + (1 : Int32)))]) dX6_awayIn_40 rfl rfl rfl ?_
        refine g_goto (t := 4) dX6_awayIn_43 (by decide) ?_
        exact g_sub (z_sub_s (z_sub_s (z_sub_s (z_sub_s z_sub_nil)))) (ih _ _ _ _ _ _ _ h hq)
      · replace h := z_ift c3 h
        refine g_aload_n dX6_awayIn_22 rfl rfl ?_
        refine g_iload_n dX6_awayIn_23 rfl rfl ?_
        refine g_iload_n dX6_awayIn_24 rfl rfl ?_
        obtain ⟨q4, e5, h⟩ := z_bd h
        refine g_callV (a := p + 2) (as := [.int x3, .int x1]) (rest := []) (c := mX6_isIn) (k1 := 0) dX6_awayIn_25 rfl rfl rfl (shp_2 hp) rfl rfl (Nat.le_of_ble_eq_true rfl) (Nat.le_of_ble_eq_true rfl) (by decide) ?_
        refine A_X6_isIn hp e5 ?_
        show z_G none 1 mX6_awayIn 28 [some (.ref (p + 4)), some (.int x1), some (.int x2), some (.int x3)] [.int (z_tb q4.1)] q4.2 Q
        refine g_if_eq (t := 40) dX6_awayIn_28 (by decide) (fun c6 => ?_) (fun c6 => ?_)
        · replace h := z_iff (z_tb0.mp c6) h
          refine g_iinc (v := x3 + (1 : Int32)) (ls' := [some (.ref (p + 4)), some (.int x1), some (.int x2), some (.int (x3 + (1 : Int32)))]) dX6_awayIn_40 rfl rfl rfl ?_
          refine g_goto (t := 4) dX6_awayIn_43 (by decide) ?_
          exact g_sub (z_sub_s (z_sub_s (z_sub_s (z_sub_s z_sub_nil)))) (ih _ _ _ _ _ _ _ h hq)
        · replace h := z_ift (z_tbn.mp c6) h
          refine g_iload_n dX6_awayIn_31 rfl rfl ?_
          refine g_aload_n dX6_awayIn_32 rfl rfl ?_
          refine g_get (a := p + 2) (v := .ref (p + 8)) dX6_awayIn_33 f_6_19 (shp_2 hp) rfl rfl ?_
          refine g_iload_n dX6_awayIn_36 rfl rfl ?_
          by_cases g7 : x3 < 0 ∨ 8 ≤ x3.toNatClampNeg
          · rw [if_pos g7] at h; cases h
          replace h := z_iff g7 h
          refine g_iald (a := p + 6) dX6_awayIn_37 (shp_6 hp) g7 ?_
          refine g_iadd dX6_awayIn_38 ?_
          refine g_istore_n (ls' := [some (.ref (p + 4)), some (.int x1), some (.int (x2 + (q4.2.1 (p + 6) x3.toNatClampNeg))), some (.int x3)]) dX6_awayIn_39 rfl (Nat.le_of_ble_eq_true rfl) rfl ?_
          refine g_iinc (v := x3 + (1 : Int32)) (ls' := [some (.ref (p + 4)), some (.int x1), some (.int (x2 + (q4.2.1 (p + 6) x3.toNatClampNeg))), some (.int (x3 + (1 : Int32)))]) dX6_awayIn_40 rfl rfl rfl ?_
          refine g_goto (t := 4) dX6_awayIn_43 (by decide) ?_
          exact g_sub (z_sub_s (z_sub_s (z_sub_s (z_sub_s z_sub_nil)))) (ih _ _ _ _ _ _ _ h hq)
def F_X6_awayIn (w : Nat) (M : z_Mem) (p : Nat) (a1 : Int32) : Option (Int32 × z_Mem) :=
  L_X6_awayIn w p w M a1 (0 : Int32) (0 : Int32)
set_option maxHeartbeats 4000000 in
theorem A_X6_awayIn {w : Nat} {M : z_Mem} {p : Nat} (hp : z_par p) {a1 : Int32} {r : Int32} {M' : z_Mem} {Q : Option Value → z_Mem → Prop} (h : F_X6_awayIn w M p a1 = some (r, M')) (hq : Q (some (.int r)) M') : z_Cl 1 mX6_awayIn [.ref (p + 4), .int a1] M Q := by
  refine g_in (ls := [some (.ref (p + 4)), some (.int a1), none, none]) rfl ?_
  unfold F_X6_awayIn at h
  refine g_iconst (v := (0 : Int32)) dX6_awayIn_0 (by decide) ?_
  refine g_istore_n (ls' := [some (.ref (p + 4)), some (.int a1), some (.int (0 : Int32)), none]) dX6_awayIn_1 rfl (Nat.le_of_ble_eq_true rfl) rfl ?_
  refine g_iconst (v := (0 : Int32)) dX6_awayIn_2 (by decide) ?_
  refine g_istore_n (ls' := [some (.ref (p + 4)), some (.int a1), some (.int (0 : Int32)), some (.int (0 : Int32))]) dX6_awayIn_3 rfl (Nat.le_of_ble_eq_true rfl) rfl ?_
  exact g_sub (z_sub_s (z_sub_s (z_sub_s (z_sub_s z_sub_nil)))) ((AL_X6_awayIn (w := w) hp w) _ _ _ _ _ _ _ h hq)
theorem dX7_hasRoom_0 : decode cX7_hasRoom 0 = .ok (.aload_n 0, 1) := by decide +kernel
theorem dX7_hasRoom_1 : decode cX7_hasRoom 1 = .ok (.getfield 15, 3) := by decide +kernel
theorem dX7_hasRoom_4 : decode cX7_hasRoom 4 = .ok (.bipush 20, 2) := by decide +kernel
theorem dX7_hasRoom_6 : decode cX7_hasRoom 6 = .ok (.iadd, 1) := by decide +kernel
theorem dX7_hasRoom_7 : decode cX7_hasRoom 7 = .ok (.sipush 900, 3) := by decide +kernel
theorem dX7_hasRoom_10 : decode cX7_hasRoom 10 = .ok (.if_icmp .gt 7, 3) := by decide +kernel
theorem dX7_hasRoom_13 : decode cX7_hasRoom 13 = .ok (.iconst 1, 1) := by decide +kernel
theorem dX7_hasRoom_14 : decode cX7_hasRoom 14 = .ok (.goto 4, 3) := by decide +kernel
theorem dX7_hasRoom_17 : decode cX7_hasRoom 17 = .ok (.iconst 0, 1) := by decide +kernel
theorem dX7_hasRoom_18 : decode cX7_hasRoom 18 = .ok (.ireturn, 1) := by decide +kernel
def F_X7_hasRoom (w : Nat) (M : z_Mem) : Option (Bool × z_Mem) :=
  if (900 : Int32) < ((M.1 5 1) + (20 : Int32)) then
  some (false, M)
  else
  some (true, M)
set_option maxHeartbeats 4000000 in
theorem A_X7_hasRoom {w : Nat} {M : z_Mem} {r : Bool} {M' : z_Mem} {Q : Option Value → z_Mem → Prop} (h : F_X7_hasRoom w M = some (r, M')) (hq : Q (some (.int (z_tb r))) M') : z_Cl 0 mX7_hasRoom [.ref 7] M Q := by
  refine g_in (ls := [some (.ref 7)]) rfl ?_
  unfold F_X7_hasRoom at h
  refine g_aload_n dX7_hasRoom_0 rfl rfl ?_
  refine g_get (a := 5) (v := .int (M.1 5 1)) dX7_hasRoom_1 f_7_15 sh_5 rfl rfl ?_
  refine g_bipush (v := (20 : Int32)) dX7_hasRoom_4 (by decide) ?_
  refine g_iadd dX7_hasRoom_6 ?_
  refine g_sipush (v := (900 : Int32)) dX7_hasRoom_7 (by decide) ?_
  refine g_ic_gt (t := 17) dX7_hasRoom_10 (by decide) (fun c1 => ?_) (fun c1 => ?_)
  · replace h := z_ift c1 h
    refine g_iconst (v := (0 : Int32)) dX7_hasRoom_17 (by decide) ?_
    cases h
    exact g_iret dX7_hasRoom_18 rfl rfl hq
  · replace h := z_iff c1 h
    refine g_iconst (v := (1 : Int32)) dX7_hasRoom_13 (by decide) ?_
    refine g_goto (t := 18) dX7_hasRoom_14 (by decide) ?_
    cases h
    exact g_iret dX7_hasRoom_18 rfl rfl hq
theorem dX7_put_0 : decode cX7_put 0 = .ok (.bipush 24, 2) := by decide +kernel
theorem dX7_put_2 : decode cX7_put 2 = .ok (.istore_n 2, 1) := by decide +kernel
theorem dX7_put_3 : decode cX7_put 3 = .ok (.iload_n 2, 1) := by decide +kernel
theorem dX7_put_4 : decode cX7_put 4 = .ok (.ifCond .lt 42, 3) := by decide +kernel
theorem dX7_put_7 : decode cX7_put 7 = .ok (.aload_n 0, 1) := by decide +kernel
theorem dX7_put_8 : decode cX7_put 8 = .ok (.getfield 15, 3) := by decide +kernel
theorem dX7_put_11 : decode cX7_put 11 = .ok (.sipush 900, 3) := by decide +kernel
theorem dX7_put_14 : decode cX7_put 14 = .ok (.if_icmp .ge 32, 3) := by decide +kernel
theorem dX7_put_17 : decode cX7_put 17 = .ok (.aload_n 0, 1) := by decide +kernel
theorem dX7_put_18 : decode cX7_put 18 = .ok (.getfield 11, 3) := by decide +kernel
theorem dX7_put_21 : decode cX7_put 21 = .ok (.aload_n 0, 1) := by decide +kernel
theorem dX7_put_22 : decode cX7_put 22 = .ok (.getfield 15, 3) := by decide +kernel
theorem dX7_put_25 : decode cX7_put 25 = .ok (.iload_n 1, 1) := by decide +kernel
theorem dX7_put_26 : decode cX7_put 26 = .ok (.iload_n 2, 1) := by decide +kernel
theorem dX7_put_27 : decode cX7_put 27 = .ok (.ishr, 1) := by decide +kernel
theorem dX7_put_28 : decode cX7_put 28 = .ok (.i2b, 1) := by decide +kernel
theorem dX7_put_29 : decode cX7_put 29 = .ok (.bastore, 1) := by decide +kernel
theorem dX7_put_30 : decode cX7_put 30 = .ok (.aload_n 0, 1) := by decide +kernel
theorem dX7_put_31 : decode cX7_put 31 = .ok (.dup, 1) := by decide +kernel
theorem dX7_put_32 : decode cX7_put 32 = .ok (.getfield 15, 3) := by decide +kernel
theorem dX7_put_35 : decode cX7_put 35 = .ok (.iconst 1, 1) := by decide +kernel
theorem dX7_put_36 : decode cX7_put 36 = .ok (.iadd, 1) := by decide +kernel
theorem dX7_put_37 : decode cX7_put 37 = .ok (.putfield 15, 3) := by decide +kernel
theorem dX7_put_40 : decode cX7_put 40 = .ok (.iinc 2 (-8), 3) := by decide +kernel
theorem dX7_put_43 : decode cX7_put 43 = .ok (.goto (-40), 3) := by decide +kernel
theorem dX7_put_46 : decode cX7_put 46 = .ok (.return_, 1) := by decide +kernel
def L_X7_put (w : Nat) : Nat → z_Mem → Int32 → Int32 → Option (Unit × z_Mem)
  | 0, _, _, _ => none
  | c + 1, M, x1, x2 =>
    if x2 < (0 : Int32) then
    some ((), M)
    else
    if (900 : Int32) ≤ (M.1 5 1) then
    some ((), M)
    else
    if (M.1 5 1) < 0 ∨ 900 ≤ (M.1 5 1).toNatClampNeg then none else
    L_X7_put w c (z_wI (z_wI M 6 ((M.1 5 1).toNatClampNeg) (vp_nar .byte ((x1 >>> (x2 &&& 31)).toInt8.toInt32))) 5 1 ((M.1 5 1) + (1 : Int32))) x1 (x2 + (-8 : Int32))
set_option maxHeartbeats 4000000 in
theorem AL_X7_put {w : Nat} : ∀ (c : Nat), (∀ (M : z_Mem) (x1 : Int32) (x2 : Int32) (r : Unit) (M' : z_Mem) (Q : Option Value → z_Mem → Prop), L_X7_put w c M x1 x2 = some (r, M') → Q none M' → z_G none 0 mX7_put 3 [some (.ref 7), some (.int x1), some (.int x2)] [] M Q) := by
  intro c
  induction c with
  | zero => exact (fun M x1 x2 r M' Q h hq => by rw [L_X7_put] at h; cases h)
  | succ c ih =>
    intro M x1 x2 r M' Q h hq
    rw [L_X7_put] at h
    refine g_iload_n dX7_put_3 rfl rfl ?_
    refine g_if_lt (t := 46) dX7_put_4 (by decide) (fun c1 => ?_) (fun c1 => ?_)
    · replace h := z_ift c1 h
      cases h
      exact g_vret dX7_put_46 rfl hq
    · replace h := z_iff c1 h
      refine g_aload_n dX7_put_7 rfl rfl ?_
      refine g_get (a := 5) (v := .int (M.1 5 1)) dX7_put_8 f_7_15 sh_5 rfl rfl ?_
      refine g_sipush (v := (900 : Int32)) dX7_put_11 (by decide) ?_
      refine g_ic_ge (t := 46) dX7_put_14 (by decide) (fun c2 => ?_) (fun c2 => ?_)
      · replace h := z_ift c2 h
        cases h
        exact g_vret dX7_put_46 rfl hq
      · replace h := z_iff c2 h
        refine g_aload_n dX7_put_17 rfl rfl ?_
        refine g_get (a := 5) (v := .ref 8) dX7_put_18 f_7_11 sh_5 rfl rfl ?_
        refine g_aload_n dX7_put_21 rfl rfl ?_
        refine g_get (a := 5) (v := .int (M.1 5 1)) dX7_put_22 f_7_15 sh_5 rfl rfl ?_
        refine g_iload_n dX7_put_25 rfl rfl ?_
        refine g_iload_n dX7_put_26 rfl rfl ?_
        refine g_ishr dX7_put_27 ?_
        refine g_i2b dX7_put_28 ?_
        by_cases g3 : (M.1 5 1) < 0 ∨ 900 ≤ (M.1 5 1).toNatClampNeg
        · rw [if_pos g3] at h; cases h
        replace h := z_iff g3 h
        refine g_bast (a := 6) dX7_put_29 sh_6 g3 ?_
        refine g_aload_n dX7_put_30 rfl rfl ?_
        refine g_dup dX7_put_31 rfl ?_
        refine g_get (a := 5) (v := .int (M.1 5 1)) dX7_put_32 f_7_15 sh_5 rfl (by simp [z_fv, z_wI, z_wL, z_wLs, upd, vp_updL]) ?_
        refine g_iconst (v := (1 : Int32)) dX7_put_35 (by decide) ?_
        refine g_iadd dX7_put_36 ?_
        refine g_putI (a := 5) dX7_put_37 f_7_15 sh_5 rfl rfl rfl ?_
        refine g_iinc (v := x2 + (-8 : Int32)) (ls' := [some (.ref 7), some (.int x1), some (.int (x2 + (-8 : Int32)))]) dX7_put_40 rfl rfl rfl ?_
        refine g_goto (t := 3) dX7_put_43 (by decide) ?_
        exact g_sub (z_sub_s (z_sub_s (z_sub_s z_sub_nil))) (ih _ _ _ _ _ _ h hq)
def F_X7_put (w : Nat) (M : z_Mem) (a1 : Int32) : Option (Unit × z_Mem) :=
  L_X7_put w w M a1 (24 : Int32)
set_option maxHeartbeats 4000000 in
theorem A_X7_put {w : Nat} {M : z_Mem} {a1 : Int32} {r : Unit} {M' : z_Mem} {Q : Option Value → z_Mem → Prop} (h : F_X7_put w M a1 = some (r, M')) (hq : Q none M') : z_Cl 0 mX7_put [.ref 7, .int a1] M Q := by
  refine g_in (ls := [some (.ref 7), some (.int a1), none]) rfl ?_
  unfold F_X7_put at h
  refine g_bipush (v := (24 : Int32)) dX7_put_0 (by decide) ?_
  refine g_istore_n (ls' := [some (.ref 7), some (.int a1), some (.int (24 : Int32))]) dX7_put_2 rfl (Nat.le_of_ble_eq_true rfl) rfl ?_
  exact g_sub (z_sub_s (z_sub_s (z_sub_s z_sub_nil))) ((AL_X7_put (w := w) w) _ _ _ _ _ _ h hq)
theorem dX8_isTray_0 : decode cX8_isTray 0 = .ok (.iload_n 0, 1) := by decide +kernel
theorem dX8_isTray_1 : decode cX8_isTray 1 = .ok (.ifCond .lt 12, 3) := by decide +kernel
theorem dX8_isTray_4 : decode cX8_isTray 4 = .ok (.iload_n 0, 1) := by decide +kernel
theorem dX8_isTray_5 : decode cX8_isTray 5 = .ok (.iconst 4, 1) := by decide +kernel
theorem dX8_isTray_6 : decode cX8_isTray 6 = .ok (.if_icmp .ge 7, 3) := by decide +kernel
theorem dX8_isTray_9 : decode cX8_isTray 9 = .ok (.iconst 1, 1) := by decide +kernel
theorem dX8_isTray_10 : decode cX8_isTray 10 = .ok (.goto 4, 3) := by decide +kernel
theorem dX8_isTray_13 : decode cX8_isTray 13 = .ok (.iconst 0, 1) := by decide +kernel
theorem dX8_isTray_14 : decode cX8_isTray 14 = .ok (.ireturn, 1) := by decide +kernel
def F_X8_isTray (w : Nat) (M : z_Mem) (a0 : Int32) : Option (Bool × z_Mem) :=
  if a0 < (0 : Int32) then
  some (false, M)
  else
  if (4 : Int32) ≤ a0 then
  some (false, M)
  else
  some (true, M)
set_option maxHeartbeats 4000000 in
theorem A_X8_isTray {w : Nat} {M : z_Mem} {a0 : Int32} {r : Bool} {M' : z_Mem} {Q : Option Value → z_Mem → Prop} (h : F_X8_isTray w M a0 = some (r, M')) (hq : Q (some (.int (z_tb r))) M') : z_Cl 0 mX8_isTray [.int a0] M Q := by
  refine g_in (ls := [some (.int a0)]) rfl ?_
  unfold F_X8_isTray at h
  refine g_iload_n dX8_isTray_0 rfl rfl ?_
  refine g_if_lt (t := 13) dX8_isTray_1 (by decide) (fun c1 => ?_) (fun c1 => ?_)
  · replace h := z_ift c1 h
    refine g_iconst (v := (0 : Int32)) dX8_isTray_13 (by decide) ?_
    cases h
    exact g_iret dX8_isTray_14 rfl rfl hq
  · replace h := z_iff c1 h
    refine g_iload_n dX8_isTray_4 rfl rfl ?_
    refine g_iconst (v := (4 : Int32)) dX8_isTray_5 (by decide) ?_
    refine g_ic_ge (t := 13) dX8_isTray_6 (by decide) (fun c2 => ?_) (fun c2 => ?_)
    · replace h := z_ift c2 h
      refine g_iconst (v := (0 : Int32)) dX8_isTray_13 (by decide) ?_
      cases h
      exact g_iret dX8_isTray_14 rfl rfl hq
    · replace h := z_iff c2 h
      refine g_iconst (v := (1 : Int32)) dX8_isTray_9 (by decide) ?_
      refine g_goto (t := 14) dX8_isTray_10 (by decide) ?_
      cases h
      exact g_iret dX8_isTray_14 rfl rfl hq
theorem dX8_isMissing_0 : decode cX8_isMissing 0 = .ok (.aload_n 0, 1) := by decide +kernel
theorem dX8_isMissing_1 : decode cX8_isMissing 1 = .ok (.getfield 15, 3) := by decide +kernel
theorem dX8_isMissing_4 : decode cX8_isMissing 4 = .ok (.iload_n 1, 1) := by decide +kernel
theorem dX8_isMissing_5 : decode cX8_isMissing 5 = .ok (.iaload, 1) := by decide +kernel
theorem dX8_isMissing_6 : decode cX8_isMissing 6 = .ok (.iconst (-1), 1) := by decide +kernel
theorem dX8_isMissing_7 : decode cX8_isMissing 7 = .ok (.if_icmp .ne 7, 3) := by decide +kernel
theorem dX8_isMissing_10 : decode cX8_isMissing 10 = .ok (.iconst 1, 1) := by decide +kernel
theorem dX8_isMissing_11 : decode cX8_isMissing 11 = .ok (.goto 4, 3) := by decide +kernel
theorem dX8_isMissing_14 : decode cX8_isMissing 14 = .ok (.iconst 0, 1) := by decide +kernel
theorem dX8_isMissing_15 : decode cX8_isMissing 15 = .ok (.ireturn, 1) := by decide +kernel
def F_X8_isMissing (w : Nat) (M : z_Mem) (a1 : Int32) : Option (Bool × z_Mem) :=
  if a1 < 0 ∨ 4 ≤ a1.toNatClampNeg then none else
  if (M.1 3 a1.toNatClampNeg) = (-1 : Int32) then
  some (true, M)
  else
  some (false, M)
set_option maxHeartbeats 4000000 in
theorem A_X8_isMissing {w : Nat} {M : z_Mem} {a1 : Int32} {r : Bool} {M' : z_Mem} {Q : Option Value → z_Mem → Prop} (h : F_X8_isMissing w M a1 = some (r, M')) (hq : Q (some (.int (z_tb r))) M') : z_Cl 0 mX8_isMissing [.ref 3, .int a1] M Q := by
  refine g_in (ls := [some (.ref 3), some (.int a1)]) rfl ?_
  unfold F_X8_isMissing at h
  refine g_aload_n dX8_isMissing_0 rfl rfl ?_
  refine g_get (a := 1) (v := .ref 5) dX8_isMissing_1 f_8_15 sh_1 rfl rfl ?_
  refine g_iload_n dX8_isMissing_4 rfl rfl ?_
  by_cases g1 : a1 < 0 ∨ 4 ≤ a1.toNatClampNeg
  · rw [if_pos g1] at h; cases h
  replace h := z_iff g1 h
  refine g_iald (a := 3) dX8_isMissing_5 sh_3 g1 ?_
  refine g_iconst (v := (-1 : Int32)) dX8_isMissing_6 (by decide) ?_
  refine g_ic_ne (t := 14) dX8_isMissing_7 (by decide) (fun c2 => ?_) (fun c2 => ?_)
  · replace h := z_iff c2 h
    refine g_iconst (v := (0 : Int32)) dX8_isMissing_14 (by decide) ?_
    cases h
    exact g_iret dX8_isMissing_15 rfl rfl hq
  · replace h := z_ift c2 h
    refine g_iconst (v := (1 : Int32)) dX8_isMissing_10 (by decide) ?_
    refine g_goto (t := 15) dX8_isMissing_11 (by decide) ?_
    cases h
    exact g_iret dX8_isMissing_15 rfl rfl hq
theorem dX8_has_0 : decode cX8_has 0 = .ok (.iload_n 2, 1) := by decide +kernel
theorem dX8_has_1 : decode cX8_has 1 = .ok (.ifCond .lt 19, 3) := by decide +kernel
theorem dX8_has_4 : decode cX8_has 4 = .ok (.iload_n 2, 1) := by decide +kernel
theorem dX8_has_5 : decode cX8_has 5 = .ok (.aload_n 0, 1) := by decide +kernel
theorem dX8_has_6 : decode cX8_has 6 = .ok (.getfield 15, 3) := by decide +kernel
theorem dX8_has_9 : decode cX8_has 9 = .ok (.iload_n 1, 1) := by decide +kernel
theorem dX8_has_10 : decode cX8_has 10 = .ok (.iaload, 1) := by decide +kernel
theorem dX8_has_11 : decode cX8_has 11 = .ok (.iload_n 3, 1) := by decide +kernel
theorem dX8_has_12 : decode cX8_has 12 = .ok (.isub, 1) := by decide +kernel
theorem dX8_has_13 : decode cX8_has 13 = .ok (.if_icmp .gt 7, 3) := by decide +kernel
theorem dX8_has_16 : decode cX8_has 16 = .ok (.iconst 1, 1) := by decide +kernel
theorem dX8_has_17 : decode cX8_has 17 = .ok (.goto 4, 3) := by decide +kernel
theorem dX8_has_20 : decode cX8_has 20 = .ok (.iconst 0, 1) := by decide +kernel
theorem dX8_has_21 : decode cX8_has 21 = .ok (.ireturn, 1) := by decide +kernel
def F_X8_has (w : Nat) (M : z_Mem) (a1 : Int32) (a2 : Int32) (a3 : Int32) : Option (Bool × z_Mem) :=
  if a2 < (0 : Int32) then
  some (false, M)
  else
  if a1 < 0 ∨ 4 ≤ a1.toNatClampNeg then none else
  if ((M.1 3 a1.toNatClampNeg) - a3) < a2 then
  some (false, M)
  else
  some (true, M)
set_option maxHeartbeats 4000000 in
theorem A_X8_has {w : Nat} {M : z_Mem} {a1 : Int32} {a2 : Int32} {a3 : Int32} {r : Bool} {M' : z_Mem} {Q : Option Value → z_Mem → Prop} (h : F_X8_has w M a1 a2 a3 = some (r, M')) (hq : Q (some (.int (z_tb r))) M') : z_Cl 0 mX8_has [.ref 3, .int a1, .int a2, .int a3] M Q := by
  refine g_in (ls := [some (.ref 3), some (.int a1), some (.int a2), some (.int a3)]) rfl ?_
  unfold F_X8_has at h
  refine g_iload_n dX8_has_0 rfl rfl ?_
  refine g_if_lt (t := 20) dX8_has_1 (by decide) (fun c1 => ?_) (fun c1 => ?_)
  · replace h := z_ift c1 h
    refine g_iconst (v := (0 : Int32)) dX8_has_20 (by decide) ?_
    cases h
    exact g_iret dX8_has_21 rfl rfl hq
  · replace h := z_iff c1 h
    refine g_iload_n dX8_has_4 rfl rfl ?_
    refine g_aload_n dX8_has_5 rfl rfl ?_
    refine g_get (a := 1) (v := .ref 5) dX8_has_6 f_8_15 sh_1 rfl rfl ?_
    refine g_iload_n dX8_has_9 rfl rfl ?_
    by_cases g2 : a1 < 0 ∨ 4 ≤ a1.toNatClampNeg
    · rw [if_pos g2] at h; cases h
    replace h := z_iff g2 h
    refine g_iald (a := 3) dX8_has_10 sh_3 g2 ?_
    refine g_iload_n dX8_has_11 rfl rfl ?_
    refine g_isub dX8_has_12 ?_
    refine g_ic_gt (t := 20) dX8_has_13 (by decide) (fun c3 => ?_) (fun c3 => ?_)
    · replace h := z_ift c3 h
      refine g_iconst (v := (0 : Int32)) dX8_has_20 (by decide) ?_
      cases h
      exact g_iret dX8_has_21 rfl rfl hq
    · replace h := z_iff c3 h
      refine g_iconst (v := (1 : Int32)) dX8_has_16 (by decide) ?_
      refine g_goto (t := 21) dX8_has_17 (by decide) ?_
      cases h
      exact g_iret dX8_has_21 rfl rfl hq
theorem dX8_whyNot_0 : decode cX8_whyNot 0 = .ok (.iload_n 1, 1) := by decide +kernel
theorem dX8_whyNot_1 : decode cX8_whyNot 1 = .ok (.invokestatic 22, 3) := by decide +kernel
theorem dX8_whyNot_4 : decode cX8_whyNot 4 = .ok (.ifCond .ne 5, 3) := by decide +kernel
theorem dX8_whyNot_7 : decode cX8_whyNot 7 = .ok (.iconst 1, 1) := by decide +kernel
theorem dX8_whyNot_8 : decode cX8_whyNot 8 = .ok (.ireturn, 1) := by decide +kernel
theorem dX8_whyNot_9 : decode cX8_whyNot 9 = .ok (.aload_n 0, 1) := by decide +kernel
theorem dX8_whyNot_10 : decode cX8_whyNot 10 = .ok (.iload_n 1, 1) := by decide +kernel
theorem dX8_whyNot_11 : decode cX8_whyNot 11 = .ok (.invokevirtual 26, 3) := by decide +kernel
theorem dX8_whyNot_14 : decode cX8_whyNot 14 = .ok (.ifCond .eq 5, 3) := by decide +kernel
theorem dX8_whyNot_17 : decode cX8_whyNot 17 = .ok (.iconst 3, 1) := by decide +kernel
theorem dX8_whyNot_18 : decode cX8_whyNot 18 = .ok (.ireturn, 1) := by decide +kernel
theorem dX8_whyNot_19 : decode cX8_whyNot 19 = .ok (.aload_n 0, 1) := by decide +kernel
theorem dX8_whyNot_20 : decode cX8_whyNot 20 = .ok (.iload_n 1, 1) := by decide +kernel
theorem dX8_whyNot_21 : decode cX8_whyNot 21 = .ok (.iload_n 2, 1) := by decide +kernel
theorem dX8_whyNot_22 : decode cX8_whyNot 22 = .ok (.iconst 1, 1) := by decide +kernel
theorem dX8_whyNot_23 : decode cX8_whyNot 23 = .ok (.invokevirtual 29, 3) := by decide +kernel
theorem dX8_whyNot_26 : decode cX8_whyNot 26 = .ok (.ifCond .eq 7, 3) := by decide +kernel
theorem dX8_whyNot_29 : decode cX8_whyNot 29 = .ok (.iconst 0, 1) := by decide +kernel
theorem dX8_whyNot_30 : decode cX8_whyNot 30 = .ok (.goto 4, 3) := by decide +kernel
theorem dX8_whyNot_33 : decode cX8_whyNot 33 = .ok (.iconst 4, 1) := by decide +kernel
theorem dX8_whyNot_34 : decode cX8_whyNot 34 = .ok (.ireturn, 1) := by decide +kernel
def F_X8_whyNot (w : Nat) (M : z_Mem) (a1 : Int32) (a2 : Int32) : Option (Int32 × z_Mem) :=
  (F_X8_isTray w M a1).bind fun q1 =>
  if q1.1 = true then
  (F_X8_isMissing w q1.2 a1).bind fun q4 =>
  if q4.1 = true then
  some ((3 : Int32), q4.2)
  else
  (F_X8_has w q4.2 a1 a2 (1 : Int32)).bind fun q7 =>
  if q7.1 = true then
  some ((0 : Int32), q7.2)
  else
  some ((4 : Int32), q7.2)
  else
  some ((1 : Int32), q1.2)
set_option maxHeartbeats 4000000 in
theorem A_X8_whyNot {w : Nat} {M : z_Mem} {a1 : Int32} {a2 : Int32} {r : Int32} {M' : z_Mem} {Q : Option Value → z_Mem → Prop} (h : F_X8_whyNot w M a1 a2 = some (r, M')) (hq : Q (some (.int r)) M') : z_Cl 1 mX8_whyNot [.ref 3, .int a1, .int a2] M Q := by
  refine g_in (ls := [some (.ref 3), some (.int a1), some (.int a2)]) rfl ?_
  unfold F_X8_whyNot at h
  refine g_iload_n dX8_whyNot_0 rfl rfl ?_
  obtain ⟨q1, e2, h⟩ := z_bd h
  refine g_callS (as := [.int a1]) (rest := []) (c := mX8_isTray) (k1 := 0) dX8_whyNot_1 rfl rfl rfl rfl rfl (Nat.le_of_ble_eq_true rfl) (Nat.le_of_ble_eq_true rfl) (by decide) ?_
  refine A_X8_isTray e2 ?_
  show z_G none 1 mX8_whyNot 4 [some (.ref 3), some (.int a1), some (.int a2)] [.int (z_tb q1.1)] q1.2 Q
  refine g_if_ne (t := 9) dX8_whyNot_4 (by decide) (fun c3 => ?_) (fun c3 => ?_)
  · replace h := z_ift (z_tbn.mp c3) h
    refine g_aload_n dX8_whyNot_9 rfl rfl ?_
    refine g_iload_n dX8_whyNot_10 rfl rfl ?_
    obtain ⟨q4, e5, h⟩ := z_bd h
    refine g_callV (a := 1) (as := [.int a1]) (rest := []) (c := mX8_isMissing) (k1 := 0) dX8_whyNot_11 rfl rfl rfl sh_1 rfl rfl (Nat.le_of_ble_eq_true rfl) (Nat.le_of_ble_eq_true rfl) (by decide) ?_
    refine A_X8_isMissing e5 ?_
    show z_G none 1 mX8_whyNot 14 [some (.ref 3), some (.int a1), some (.int a2)] [.int (z_tb q4.1)] q4.2 Q
    refine g_if_eq (t := 19) dX8_whyNot_14 (by decide) (fun c6 => ?_) (fun c6 => ?_)
    · replace h := z_iff (z_tb0.mp c6) h
      refine g_aload_n dX8_whyNot_19 rfl rfl ?_
      refine g_iload_n dX8_whyNot_20 rfl rfl ?_
      refine g_iload_n dX8_whyNot_21 rfl rfl ?_
      refine g_iconst (v := (1 : Int32)) dX8_whyNot_22 (by decide) ?_
      obtain ⟨q7, e8, h⟩ := z_bd h
      refine g_callV (a := 1) (as := [.int a1, .int a2, .int (1 : Int32)]) (rest := []) (c := mX8_has) (k1 := 0) dX8_whyNot_23 rfl rfl rfl sh_1 rfl rfl (Nat.le_of_ble_eq_true rfl) (Nat.le_of_ble_eq_true rfl) (by decide) ?_
      refine A_X8_has e8 ?_
      show z_G none 1 mX8_whyNot 26 [some (.ref 3), some (.int a1), some (.int a2)] [.int (z_tb q7.1)] q7.2 Q
      refine g_if_eq (t := 33) dX8_whyNot_26 (by decide) (fun c9 => ?_) (fun c9 => ?_)
      · replace h := z_iff (z_tb0.mp c9) h
        refine g_iconst (v := (4 : Int32)) dX8_whyNot_33 (by decide) ?_
        cases h
        exact g_iret dX8_whyNot_34 rfl rfl hq
      · replace h := z_ift (z_tbn.mp c9) h
        refine g_iconst (v := (0 : Int32)) dX8_whyNot_29 (by decide) ?_
        refine g_goto (t := 34) dX8_whyNot_30 (by decide) ?_
        cases h
        exact g_iret dX8_whyNot_34 rfl rfl hq
    · replace h := z_ift (z_tbn.mp c6) h
      refine g_iconst (v := (3 : Int32)) dX8_whyNot_17 (by decide) ?_
      cases h
      exact g_iret dX8_whyNot_18 rfl rfl hq
  · replace h := z_iff (z_tb0.mp c3) h
    refine g_iconst (v := (1 : Int32)) dX8_whyNot_7 (by decide) ?_
    cases h
    exact g_iret dX8_whyNot_8 rfl rfl hq
theorem dX8_lay_0 : decode cX8_lay 0 = .ok (.aload_n 0, 1) := by decide +kernel
theorem dX8_lay_1 : decode cX8_lay 1 = .ok (.getfield 19, 3) := by decide +kernel
theorem dX8_lay_4 : decode cX8_lay 4 = .ok (.iload_n 1, 1) := by decide +kernel
theorem dX8_lay_5 : decode cX8_lay 5 = .ok (.iload_n 2, 1) := by decide +kernel
theorem dX8_lay_6 : decode cX8_lay 6 = .ok (.iastore, 1) := by decide +kernel
theorem dX8_lay_7 : decode cX8_lay 7 = .ok (.aload_n 0, 1) := by decide +kernel
theorem dX8_lay_8 : decode cX8_lay 8 = .ok (.getfield 15, 3) := by decide +kernel
theorem dX8_lay_11 : decode cX8_lay 11 = .ok (.iload_n 1, 1) := by decide +kernel
theorem dX8_lay_12 : decode cX8_lay 12 = .ok (.iload_n 3, 1) := by decide +kernel
theorem dX8_lay_13 : decode cX8_lay 13 = .ok (.iastore, 1) := by decide +kernel
theorem dX8_lay_14 : decode cX8_lay 14 = .ok (.iconst 0, 1) := by decide +kernel
theorem dX8_lay_15 : decode cX8_lay 15 = .ok (.istore 4, 2) := by decide +kernel
theorem dX8_lay_17 : decode cX8_lay 17 = .ok (.iload 4, 2) := by decide +kernel
theorem dX8_lay_19 : decode cX8_lay 19 = .ok (.iload_n 3, 1) := by decide +kernel
theorem dX8_lay_20 : decode cX8_lay 20 = .ok (.if_icmp .ge 22, 3) := by decide +kernel
theorem dX8_lay_23 : decode cX8_lay 23 = .ok (.aload_n 0, 1) := by decide +kernel
theorem dX8_lay_24 : decode cX8_lay 24 = .ok (.getfield 11, 3) := by decide +kernel
theorem dX8_lay_27 : decode cX8_lay 27 = .ok (.iload_n 1, 1) := by decide +kernel
theorem dX8_lay_28 : decode cX8_lay 28 = .ok (.bipush 60, 2) := by decide +kernel
theorem dX8_lay_30 : decode cX8_lay 30 = .ok (.imul, 1) := by decide +kernel
theorem dX8_lay_31 : decode cX8_lay 31 = .ok (.iload 4, 2) := by decide +kernel
theorem dX8_lay_33 : decode cX8_lay 33 = .ok (.iadd, 1) := by decide +kernel
theorem dX8_lay_34 : decode cX8_lay 34 = .ok (.lconst 0, 1) := by decide +kernel
theorem dX8_lay_35 : decode cX8_lay 35 = .ok (.lastore, 1) := by decide +kernel
theorem dX8_lay_36 : decode cX8_lay 36 = .ok (.iinc 4 1, 3) := by decide +kernel
theorem dX8_lay_39 : decode cX8_lay 39 = .ok (.goto (-22), 3) := by decide +kernel
theorem dX8_lay_42 : decode cX8_lay 42 = .ok (.return_, 1) := by decide +kernel
def L_X8_lay (w : Nat) : Nat → z_Mem → Int32 → Int32 → Int32 → Option (Unit × z_Mem)
  | 0, _, _, _, _ => none
  | c + 1, M, x1, x3, x4 =>
    if x3 ≤ x4 then
    some ((), M)
    else
    if ((x1 * (60 : Int32)) + x4) < 0 ∨ 240 ≤ ((x1 * (60 : Int32)) + x4).toNatClampNeg then none else
    L_X8_lay w c (z_wL M 2 (((x1 * (60 : Int32)) + x4).toNatClampNeg) (0 : Int64)) x1 x3 (x4 + (1 : Int32))
set_option maxHeartbeats 4000000 in
theorem AL_X8_lay {w : Nat} : ∀ (c : Nat), (∀ (M : z_Mem) (x1 : Int32) (x3 : Int32) (x4 : Int32) (r : Unit) (M' : z_Mem) (Q : Option Value → z_Mem → Prop), L_X8_lay w c M x1 x3 x4 = some (r, M') → Q none M' → z_G none 0 mX8_lay 17 [some (.ref 3), some (.int x1), none, some (.int x3), some (.int x4)] [] M Q) := by
  intro c
  induction c with
  | zero => exact (fun M x1 x3 x4 r M' Q h hq => by rw [L_X8_lay] at h; cases h)
  | succ c ih =>
    intro M x1 x3 x4 r M' Q h hq
    rw [L_X8_lay] at h
    refine g_iload dX8_lay_17 rfl ?_
    refine g_iload_n dX8_lay_19 rfl rfl ?_
    refine g_ic_ge (t := 42) dX8_lay_20 (by decide) (fun c1 => ?_) (fun c1 => ?_)
    · replace h := z_ift c1 h
      cases h
      exact g_vret dX8_lay_42 rfl hq
    · replace h := z_iff c1 h
      refine g_aload_n dX8_lay_23 rfl rfl ?_
      refine g_get (a := 1) (v := .ref 4) dX8_lay_24 f_8_11 sh_1 rfl rfl ?_
      refine g_iload_n dX8_lay_27 rfl rfl ?_
      refine g_bipush (v := (60 : Int32)) dX8_lay_28 (by decide) ?_
      refine g_imul dX8_lay_30 ?_
      refine g_iload dX8_lay_31 rfl ?_
      refine g_iadd dX8_lay_33 ?_
      refine g_lconst (v := (0 : Int64)) dX8_lay_34 (by decide) ?_
      by_cases g2 : ((x1 * (60 : Int32)) + x4) < 0 ∨ 240 ≤ ((x1 * (60 : Int32)) + x4).toNatClampNeg
      · rw [if_pos g2] at h; cases h
      replace h := z_iff g2 h
      refine g_last (a := 2) dX8_lay_35 sh_2 g2 ?_
      refine g_iinc (v := x4 + (1 : Int32)) (ls' := [some (.ref 3), some (.int x1), none, some (.int x3), some (.int (x4 + (1 : Int32)))]) dX8_lay_36 rfl rfl rfl ?_
      refine g_goto (t := 17) dX8_lay_39 (by decide) ?_
      exact g_sub (z_sub_s (z_sub_s (z_sub_n (z_sub_s (z_sub_s z_sub_nil))))) (ih _ _ _ _ _ _ _ h hq)
def F_X8_lay (w : Nat) (M : z_Mem) (a1 : Int32) (a2 : Int32) (a3 : Int32) : Option (Unit × z_Mem) :=
  if a1 < 0 ∨ 4 ≤ a1.toNatClampNeg then none else
  if a1 < 0 ∨ 4 ≤ a1.toNatClampNeg then none else
  L_X8_lay w w (z_wI (z_wI M 4 a1.toNatClampNeg a2) 3 a1.toNatClampNeg a3) a1 a3 (0 : Int32)
set_option maxHeartbeats 4000000 in
theorem A_X8_lay {w : Nat} {M : z_Mem} {a1 : Int32} {a2 : Int32} {a3 : Int32} {r : Unit} {M' : z_Mem} {Q : Option Value → z_Mem → Prop} (h : F_X8_lay w M a1 a2 a3 = some (r, M')) (hq : Q none M') : z_Cl 0 mX8_lay [.ref 3, .int a1, .int a2, .int a3] M Q := by
  refine g_in (ls := [some (.ref 3), some (.int a1), some (.int a2), some (.int a3), none]) rfl ?_
  unfold F_X8_lay at h
  refine g_aload_n dX8_lay_0 rfl rfl ?_
  refine g_get (a := 1) (v := .ref 6) dX8_lay_1 f_8_19 sh_1 rfl rfl ?_
  refine g_iload_n dX8_lay_4 rfl rfl ?_
  refine g_iload_n dX8_lay_5 rfl rfl ?_
  by_cases g3 : a1 < 0 ∨ 4 ≤ a1.toNatClampNeg
  · rw [if_pos g3] at h; cases h
  replace h := z_iff g3 h
  refine g_iast (a := 4) dX8_lay_6 sh_4 g3 ?_
  refine g_aload_n dX8_lay_7 rfl rfl ?_
  refine g_get (a := 1) (v := .ref 5) dX8_lay_8 f_8_15 sh_1 rfl rfl ?_
  refine g_iload_n dX8_lay_11 rfl rfl ?_
  refine g_iload_n dX8_lay_12 rfl rfl ?_
  by_cases g4 : a1 < 0 ∨ 4 ≤ a1.toNatClampNeg
  · rw [if_pos g4] at h; cases h
  replace h := z_iff g4 h
  refine g_iast (a := 3) dX8_lay_13 sh_3 g4 ?_
  refine g_iconst (v := (0 : Int32)) dX8_lay_14 (by decide) ?_
  refine g_istore (ls' := [some (.ref 3), some (.int a1), some (.int a2), some (.int a3), some (.int (0 : Int32))]) dX8_lay_15 (Nat.le_of_ble_eq_true rfl) rfl ?_
  exact g_sub (z_sub_s (z_sub_s (z_sub_n (z_sub_s (z_sub_s z_sub_nil))))) ((AL_X8_lay (w := w) w) _ _ _ _ _ _ _ h hq)
theorem dX8_cut_0 : decode cX8_cut 0 = .ok (.iload_n 2, 1) := by decide +kernel
theorem dX8_cut_1 : decode cX8_cut 1 = .ok (.tableswitch 41 0 2 #[27, 32, 37], 27) := by decide +kernel
theorem dX8_cut_28 : decode cX8_cut 28 = .ok (.lload_n 0, 1) := by decide +kernel
theorem dX8_cut_29 : decode cX8_cut 29 = .ok (.l2i, 1) := by decide +kernel
theorem dX8_cut_30 : decode cX8_cut 30 = .ok (.i2b, 1) := by decide +kernel
theorem dX8_cut_31 : decode cX8_cut 31 = .ok (.i2l, 1) := by decide +kernel
theorem dX8_cut_32 : decode cX8_cut 32 = .ok (.lreturn, 1) := by decide +kernel
theorem dX8_cut_33 : decode cX8_cut 33 = .ok (.lload_n 0, 1) := by decide +kernel
theorem dX8_cut_34 : decode cX8_cut 34 = .ok (.l2i, 1) := by decide +kernel
theorem dX8_cut_35 : decode cX8_cut 35 = .ok (.i2s, 1) := by decide +kernel
theorem dX8_cut_36 : decode cX8_cut 36 = .ok (.i2l, 1) := by decide +kernel
theorem dX8_cut_37 : decode cX8_cut 37 = .ok (.lreturn, 1) := by decide +kernel
theorem dX8_cut_38 : decode cX8_cut 38 = .ok (.lload_n 0, 1) := by decide +kernel
theorem dX8_cut_39 : decode cX8_cut 39 = .ok (.l2i, 1) := by decide +kernel
theorem dX8_cut_40 : decode cX8_cut 40 = .ok (.i2l, 1) := by decide +kernel
theorem dX8_cut_41 : decode cX8_cut 41 = .ok (.lreturn, 1) := by decide +kernel
theorem dX8_cut_42 : decode cX8_cut 42 = .ok (.lload_n 0, 1) := by decide +kernel
theorem dX8_cut_43 : decode cX8_cut 43 = .ok (.lreturn, 1) := by decide +kernel
def F_X8_cut (w : Nat) (M : z_Mem) (a0 : Int64) (a2 : Int32) : Option (Int64 × z_Mem) :=
  if a2 = (0 : Int32) then
  some (a0.toInt32.toInt8.toInt32.toInt64, M)
  else
  if a2 = (1 : Int32) then
  some (a0.toInt32.toInt16.toInt32.toInt64, M)
  else
  if a2 = (2 : Int32) then
  some (a0.toInt32.toInt64, M)
  else
  some (a0, M)
set_option maxHeartbeats 4000000 in
theorem A_X8_cut {w : Nat} {M : z_Mem} {a0 : Int64} {a2 : Int32} {r : Int64} {M' : z_Mem} {Q : Option Value → z_Mem → Prop} (h : F_X8_cut w M a0 a2 = some (r, M')) (hq : Q (some (.long r)) M') : z_Cl 0 mX8_cut [.long a0, .int a2] M Q := by
  refine g_in (ls := [some (.long a0), none, some (.int a2)]) rfl ?_
  unfold F_X8_cut at h
  refine g_iload_n dX8_cut_0 rfl rfl ?_
  by_cases s1 : a2 = (0 : Int32)
  · replace h := z_ift s1 h
    refine g_top (v := (0 : Int32)) s1 ?_
    refine g_tsIn (off := 27) (t := 28) dX8_cut_1 (by decide) (by decide) (by decide) ?_
    refine g_lload_n dX8_cut_28 rfl rfl ?_
    refine g_l2i dX8_cut_29 ?_
    refine g_i2b dX8_cut_30 ?_
    refine g_i2l dX8_cut_31 ?_
    cases h
    exact g_lret dX8_cut_32 rfl hq
  replace h := z_iff s1 h
  by_cases s2 : a2 = (1 : Int32)
  · replace h := z_ift s2 h
    refine g_top (v := (1 : Int32)) s2 ?_
    refine g_tsIn (off := 32) (t := 33) dX8_cut_1 (by decide) (by decide) (by decide) ?_
    refine g_lload_n dX8_cut_33 rfl rfl ?_
    refine g_l2i dX8_cut_34 ?_
    refine g_i2s dX8_cut_35 ?_
    refine g_i2l dX8_cut_36 ?_
    cases h
    exact g_lret dX8_cut_37 rfl hq
  replace h := z_iff s2 h
  by_cases s3 : a2 = (2 : Int32)
  · replace h := z_ift s3 h
    refine g_top (v := (2 : Int32)) s3 ?_
    refine g_tsIn (off := 37) (t := 38) dX8_cut_1 (by decide) (by decide) (by decide) ?_
    refine g_lload_n dX8_cut_38 rfl rfl ?_
    refine g_l2i dX8_cut_39 ?_
    refine g_i2l dX8_cut_40 ?_
    cases h
    exact g_lret dX8_cut_41 rfl hq
  replace h := z_iff s3 h
  refine g_tsOut (t := 42) dX8_cut_1 (by have t0 := z_neL (n := 0) (by decide) s1; have t1 := z_neL (n := 1) (by decide) s2; have t2 := z_neL (n := 2) (by decide) s3; omega) (by decide) ?_
  refine g_lload_n dX8_cut_42 rfl rfl ?_
  cases h
  exact g_lret dX8_cut_43 rfl hq
theorem dX8_put_0 : decode cX8_put 0 = .ok (.aload_n 0, 1) := by decide +kernel
theorem dX8_put_1 : decode cX8_put 1 = .ok (.getfield 11, 3) := by decide +kernel
theorem dX8_put_4 : decode cX8_put 4 = .ok (.iload_n 1, 1) := by decide +kernel
theorem dX8_put_5 : decode cX8_put 5 = .ok (.bipush 60, 2) := by decide +kernel
theorem dX8_put_7 : decode cX8_put 7 = .ok (.imul, 1) := by decide +kernel
theorem dX8_put_8 : decode cX8_put 8 = .ok (.iload_n 2, 1) := by decide +kernel
theorem dX8_put_9 : decode cX8_put 9 = .ok (.iadd, 1) := by decide +kernel
theorem dX8_put_10 : decode cX8_put 10 = .ok (.lload_n 3, 1) := by decide +kernel
theorem dX8_put_11 : decode cX8_put 11 = .ok (.aload_n 0, 1) := by decide +kernel
theorem dX8_put_12 : decode cX8_put 12 = .ok (.getfield 19, 3) := by decide +kernel
theorem dX8_put_15 : decode cX8_put 15 = .ok (.iload_n 1, 1) := by decide +kernel
theorem dX8_put_16 : decode cX8_put 16 = .ok (.iaload, 1) := by decide +kernel
theorem dX8_put_17 : decode cX8_put 17 = .ok (.invokestatic 33, 3) := by decide +kernel
theorem dX8_put_20 : decode cX8_put 20 = .ok (.lastore, 1) := by decide +kernel
theorem dX8_put_21 : decode cX8_put 21 = .ok (.return_, 1) := by decide +kernel
def F_X8_put (w : Nat) (M : z_Mem) (a1 : Int32) (a2 : Int32) (a3 : Int64) : Option (Unit × z_Mem) :=
  if a1 < 0 ∨ 4 ≤ a1.toNatClampNeg then none else
  (F_X8_cut w M a3 (M.1 4 a1.toNatClampNeg)).bind fun q2 =>
  if ((a1 * (60 : Int32)) + a2) < 0 ∨ 240 ≤ ((a1 * (60 : Int32)) + a2).toNatClampNeg then none else
  some ((), (z_wL q2.2 2 (((a1 * (60 : Int32)) + a2).toNatClampNeg) q2.1))
set_option maxHeartbeats 4000000 in
theorem A_X8_put {w : Nat} {M : z_Mem} {a1 : Int32} {a2 : Int32} {a3 : Int64} {r : Unit} {M' : z_Mem} {Q : Option Value → z_Mem → Prop} (h : F_X8_put w M a1 a2 a3 = some (r, M')) (hq : Q none M') : z_Cl 1 mX8_put [.ref 3, .int a1, .int a2, .long a3] M Q := by
  refine g_in (ls := [some (.ref 3), some (.int a1), some (.int a2), some (.long a3), none]) rfl ?_
  unfold F_X8_put at h
  refine g_aload_n dX8_put_0 rfl rfl ?_
  refine g_get (a := 1) (v := .ref 4) dX8_put_1 f_8_11 sh_1 rfl rfl ?_
  refine g_iload_n dX8_put_4 rfl rfl ?_
  refine g_bipush (v := (60 : Int32)) dX8_put_5 (by decide) ?_
  refine g_imul dX8_put_7 ?_
  refine g_iload_n dX8_put_8 rfl rfl ?_
  refine g_iadd dX8_put_9 ?_
  refine g_lload_n dX8_put_10 rfl rfl ?_
  refine g_aload_n dX8_put_11 rfl rfl ?_
  refine g_get (a := 1) (v := .ref 6) dX8_put_12 f_8_19 sh_1 rfl rfl ?_
  refine g_iload_n dX8_put_15 rfl rfl ?_
  by_cases g1 : a1 < 0 ∨ 4 ≤ a1.toNatClampNeg
  · rw [if_pos g1] at h; cases h
  replace h := z_iff g1 h
  refine g_iald (a := 4) dX8_put_16 sh_4 g1 ?_
  obtain ⟨q2, e3, h⟩ := z_bd h
  refine g_callS (as := [.long a3, .int (M.1 4 a1.toNatClampNeg)]) (rest := [.int ((a1 * (60 : Int32)) + a2), .ref 4]) (c := mX8_cut) (k1 := 0) dX8_put_17 rfl rfl rfl rfl rfl (Nat.le_of_ble_eq_true rfl) (Nat.le_of_ble_eq_true rfl) (by decide) ?_
  refine A_X8_cut e3 ?_
  show z_G none 1 mX8_put 20 [some (.ref 3), some (.int a1), some (.int a2), some (.long a3), none] [.long q2.1, .int ((a1 * (60 : Int32)) + a2), .ref 4] q2.2 Q
  by_cases g4 : ((a1 * (60 : Int32)) + a2) < 0 ∨ 240 ≤ ((a1 * (60 : Int32)) + a2).toNatClampNeg
  · rw [if_pos g4] at h; cases h
  replace h := z_iff g4 h
  refine g_last (a := 2) dX8_put_20 sh_2 g4 ?_
  cases h
  exact g_vret dX8_put_21 rfl hq
theorem dX8_look_0 : decode cX8_look 0 = .ok (.aload_n 0, 1) := by decide +kernel
theorem dX8_look_1 : decode cX8_look 1 = .ok (.getfield 11, 3) := by decide +kernel
theorem dX8_look_4 : decode cX8_look 4 = .ok (.iload_n 1, 1) := by decide +kernel
theorem dX8_look_5 : decode cX8_look 5 = .ok (.bipush 60, 2) := by decide +kernel
theorem dX8_look_7 : decode cX8_look 7 = .ok (.imul, 1) := by decide +kernel
theorem dX8_look_8 : decode cX8_look 8 = .ok (.iload_n 2, 1) := by decide +kernel
theorem dX8_look_9 : decode cX8_look 9 = .ok (.iadd, 1) := by decide +kernel
theorem dX8_look_10 : decode cX8_look 10 = .ok (.laload, 1) := by decide +kernel
theorem dX8_look_11 : decode cX8_look 11 = .ok (.lreturn, 1) := by decide +kernel
def F_X8_look (w : Nat) (M : z_Mem) (a1 : Int32) (a2 : Int32) : Option (Int64 × z_Mem) :=
  if ((a1 * (60 : Int32)) + a2) < 0 ∨ 240 ≤ ((a1 * (60 : Int32)) + a2).toNatClampNeg then none else
  some (M.2 2 ((a1 * (60 : Int32)) + a2).toNatClampNeg, M)
set_option maxHeartbeats 4000000 in
theorem A_X8_look {w : Nat} {M : z_Mem} {a1 : Int32} {a2 : Int32} {r : Int64} {M' : z_Mem} {Q : Option Value → z_Mem → Prop} (h : F_X8_look w M a1 a2 = some (r, M')) (hq : Q (some (.long r)) M') : z_Cl 0 mX8_look [.ref 3, .int a1, .int a2] M Q := by
  refine g_in (ls := [some (.ref 3), some (.int a1), some (.int a2)]) rfl ?_
  unfold F_X8_look at h
  refine g_aload_n dX8_look_0 rfl rfl ?_
  refine g_get (a := 1) (v := .ref 4) dX8_look_1 f_8_11 sh_1 rfl rfl ?_
  refine g_iload_n dX8_look_4 rfl rfl ?_
  refine g_bipush (v := (60 : Int32)) dX8_look_5 (by decide) ?_
  refine g_imul dX8_look_7 ?_
  refine g_iload_n dX8_look_8 rfl rfl ?_
  refine g_iadd dX8_look_9 ?_
  by_cases g1 : ((a1 * (60 : Int32)) + a2) < 0 ∨ 240 ≤ ((a1 * (60 : Int32)) + a2).toNatClampNeg
  · rw [if_pos g1] at h; cases h
  replace h := z_iff g1 h
  refine g_lald (a := 2) dX8_look_10 sh_2 g1 ?_
  cases h
  exact g_lret dX8_look_11 rfl hq
theorem dX8_move_0 : decode cX8_move 0 = .ok (.aload_n 0, 1) := by decide +kernel
theorem dX8_move_1 : decode cX8_move 1 = .ok (.getfield 11, 3) := by decide +kernel
theorem dX8_move_4 : decode cX8_move 4 = .ok (.iload_n 1, 1) := by decide +kernel
theorem dX8_move_5 : decode cX8_move 5 = .ok (.bipush 60, 2) := by decide +kernel
theorem dX8_move_7 : decode cX8_move 7 = .ok (.imul, 1) := by decide +kernel
theorem dX8_move_8 : decode cX8_move 8 = .ok (.iload_n 2, 1) := by decide +kernel
theorem dX8_move_9 : decode cX8_move 9 = .ok (.iadd, 1) := by decide +kernel
theorem dX8_move_10 : decode cX8_move 10 = .ok (.aload_n 0, 1) := by decide +kernel
theorem dX8_move_11 : decode cX8_move 11 = .ok (.getfield 11, 3) := by decide +kernel
theorem dX8_move_14 : decode cX8_move 14 = .ok (.iload_n 3, 1) := by decide +kernel
theorem dX8_move_15 : decode cX8_move 15 = .ok (.bipush 60, 2) := by decide +kernel
theorem dX8_move_17 : decode cX8_move 17 = .ok (.imul, 1) := by decide +kernel
theorem dX8_move_18 : decode cX8_move 18 = .ok (.iload 4, 2) := by decide +kernel
theorem dX8_move_20 : decode cX8_move 20 = .ok (.iadd, 1) := by decide +kernel
theorem dX8_move_21 : decode cX8_move 21 = .ok (.iload 5, 2) := by decide +kernel
theorem dX8_move_23 : decode cX8_move 23 = .ok (.invokestatic 37, 3) := by decide +kernel
theorem dX8_move_26 : decode cX8_move 26 = .ok (.return_, 1) := by decide +kernel
def F_X8_move (w : Nat) (M : z_Mem) (a1 : Int32) (a2 : Int32) (a3 : Int32) (a4 : Int32) (a5 : Int32) : Option (Unit × z_Mem) :=
  if ¬ ((a1 * (60 : Int32)) + a2) < 0 ∧ ¬ ((a3 * (60 : Int32)) + a4) < 0 ∧ ¬ a5 < 0 ∧ ((a1 * (60 : Int32)) + a2).toNatClampNeg + a5.toNatClampNeg ≤ 240 ∧ ((a3 * (60 : Int32)) + a4).toNatClampNeg + a5.toNatClampNeg ≤ 240 then
  some ((), (z_wLs M 2 (va_cpy (M.2 2) (M.2 2) ((a1 * (60 : Int32)) + a2).toNatClampNeg ((a3 * (60 : Int32)) + a4).toNatClampNeg a5.toNatClampNeg)))
  else none
set_option maxHeartbeats 4000000 in
theorem A_X8_move {w : Nat} {M : z_Mem} {a1 : Int32} {a2 : Int32} {a3 : Int32} {a4 : Int32} {a5 : Int32} {r : Unit} {M' : z_Mem} {Q : Option Value → z_Mem → Prop} (h : F_X8_move w M a1 a2 a3 a4 a5 = some (r, M')) (hq : Q none M') : z_Cl 0 mX8_move [.ref 3, .int a1, .int a2, .int a3, .int a4, .int a5] M Q := by
  refine g_in (ls := [some (.ref 3), some (.int a1), some (.int a2), some (.int a3), some (.int a4), some (.int a5)]) rfl ?_
  unfold F_X8_move at h
  refine g_aload_n dX8_move_0 rfl rfl ?_
  refine g_get (a := 1) (v := .ref 4) dX8_move_1 f_8_11 sh_1 rfl rfl ?_
  refine g_iload_n dX8_move_4 rfl rfl ?_
  refine g_bipush (v := (60 : Int32)) dX8_move_5 (by decide) ?_
  refine g_imul dX8_move_7 ?_
  refine g_iload_n dX8_move_8 rfl rfl ?_
  refine g_iadd dX8_move_9 ?_
  refine g_aload_n dX8_move_10 rfl rfl ?_
  refine g_get (a := 1) (v := .ref 4) dX8_move_11 f_8_11 sh_1 rfl rfl ?_
  refine g_iload_n dX8_move_14 rfl rfl ?_
  refine g_bipush (v := (60 : Int32)) dX8_move_15 (by decide) ?_
  refine g_imul dX8_move_17 ?_
  refine g_iload dX8_move_18 rfl ?_
  refine g_iadd dX8_move_20 ?_
  refine g_iload dX8_move_21 rfl ?_
  by_cases g1 : ¬ ((a1 * (60 : Int32)) + a2) < 0 ∧ ¬ ((a3 * (60 : Int32)) + a4) < 0 ∧ ¬ a5 < 0 ∧ ((a1 * (60 : Int32)) + a2).toNatClampNeg + a5.toNatClampNeg ≤ 240 ∧ ((a3 * (60 : Int32)) + a4).toNatClampNeg + a5.toNatClampNeg ≤ 240
  · skip
    replace h := z_ift g1 h
    refine g_copy (a := 2) dX8_move_23 rfl sh_2 g1.1 g1.2.1 g1.2.2.1 g1.2.2.2.1 g1.2.2.2.2 (Nat.le_of_ble_eq_true rfl) ?_
    cases h
    exact g_vret dX8_move_26 rfl hq
  · rw [if_neg g1] at h; cases h
theorem dX9_add_0 : decode cX9_add 0 = .ok (.aload_n 0, 1) := by decide +kernel
theorem dX9_add_1 : decode cX9_add 1 = .ok (.getfield 25, 3) := by decide +kernel
theorem dX9_add_4 : decode cX9_add 4 = .ok (.bipush 60, 2) := by decide +kernel
theorem dX9_add_6 : decode cX9_add 6 = .ok (.if_icmp .lt 5, 3) := by decide +kernel
theorem dX9_add_9 : decode cX9_add 9 = .ok (.iconst 0, 1) := by decide +kernel
theorem dX9_add_10 : decode cX9_add 10 = .ok (.ireturn, 1) := by decide +kernel
theorem dX9_add_11 : decode cX9_add 11 = .ok (.aload_n 0, 1) := by decide +kernel
theorem dX9_add_12 : decode cX9_add 12 = .ok (.getfield 9, 3) := by decide +kernel
theorem dX9_add_15 : decode cX9_add 15 = .ok (.aload_n 0, 1) := by decide +kernel
theorem dX9_add_16 : decode cX9_add 16 = .ok (.getfield 25, 3) := by decide +kernel
theorem dX9_add_19 : decode cX9_add 19 = .ok (.iload_n 1, 1) := by decide +kernel
theorem dX9_add_20 : decode cX9_add 20 = .ok (.iastore, 1) := by decide +kernel
theorem dX9_add_21 : decode cX9_add 21 = .ok (.aload_n 0, 1) := by decide +kernel
theorem dX9_add_22 : decode cX9_add 22 = .ok (.getfield 13, 3) := by decide +kernel
theorem dX9_add_25 : decode cX9_add 25 = .ok (.aload_n 0, 1) := by decide +kernel
theorem dX9_add_26 : decode cX9_add 26 = .ok (.getfield 25, 3) := by decide +kernel
theorem dX9_add_29 : decode cX9_add 29 = .ok (.iload_n 2, 1) := by decide +kernel
theorem dX9_add_30 : decode cX9_add 30 = .ok (.iastore, 1) := by decide +kernel
theorem dX9_add_31 : decode cX9_add 31 = .ok (.aload_n 0, 1) := by decide +kernel
theorem dX9_add_32 : decode cX9_add 32 = .ok (.getfield 16, 3) := by decide +kernel
theorem dX9_add_35 : decode cX9_add 35 = .ok (.aload_n 0, 1) := by decide +kernel
theorem dX9_add_36 : decode cX9_add 36 = .ok (.getfield 25, 3) := by decide +kernel
theorem dX9_add_39 : decode cX9_add 39 = .ok (.iload_n 3, 1) := by decide +kernel
theorem dX9_add_40 : decode cX9_add 40 = .ok (.iastore, 1) := by decide +kernel
theorem dX9_add_41 : decode cX9_add 41 = .ok (.aload_n 0, 1) := by decide +kernel
theorem dX9_add_42 : decode cX9_add 42 = .ok (.getfield 19, 3) := by decide +kernel
theorem dX9_add_45 : decode cX9_add 45 = .ok (.aload_n 0, 1) := by decide +kernel
theorem dX9_add_46 : decode cX9_add 46 = .ok (.getfield 25, 3) := by decide +kernel
theorem dX9_add_49 : decode cX9_add 49 = .ok (.iload 4, 2) := by decide +kernel
theorem dX9_add_51 : decode cX9_add 51 = .ok (.iastore, 1) := by decide +kernel
theorem dX9_add_52 : decode cX9_add 52 = .ok (.aload_n 0, 1) := by decide +kernel
theorem dX9_add_53 : decode cX9_add 53 = .ok (.getfield 22, 3) := by decide +kernel
theorem dX9_add_56 : decode cX9_add 56 = .ok (.aload_n 0, 1) := by decide +kernel
theorem dX9_add_57 : decode cX9_add 57 = .ok (.getfield 25, 3) := by decide +kernel
theorem dX9_add_60 : decode cX9_add 60 = .ok (.aload_n 0, 1) := by decide +kernel
theorem dX9_add_61 : decode cX9_add 61 = .ok (.getfield 25, 3) := by decide +kernel
theorem dX9_add_64 : decode cX9_add 64 = .ok (.iastore, 1) := by decide +kernel
theorem dX9_add_65 : decode cX9_add 65 = .ok (.aload_n 0, 1) := by decide +kernel
theorem dX9_add_66 : decode cX9_add 66 = .ok (.dup, 1) := by decide +kernel
theorem dX9_add_67 : decode cX9_add 67 = .ok (.getfield 25, 3) := by decide +kernel
theorem dX9_add_70 : decode cX9_add 70 = .ok (.iconst 1, 1) := by decide +kernel
theorem dX9_add_71 : decode cX9_add 71 = .ok (.iadd, 1) := by decide +kernel
theorem dX9_add_72 : decode cX9_add 72 = .ok (.putfield 25, 3) := by decide +kernel
theorem dX9_add_75 : decode cX9_add 75 = .ok (.iload_n 1, 1) := by decide +kernel
theorem dX9_add_76 : decode cX9_add 76 = .ok (.bipush 28, 2) := by decide +kernel
theorem dX9_add_78 : decode cX9_add 78 = .ok (.if_icmp .eq 13, 3) := by decide +kernel
theorem dX9_add_81 : decode cX9_add 81 = .ok (.aload_n 0, 1) := by decide +kernel
theorem dX9_add_82 : decode cX9_add 82 = .ok (.dup, 1) := by decide +kernel
theorem dX9_add_83 : decode cX9_add 83 = .ok (.getfield 29, 3) := by decide +kernel
theorem dX9_add_86 : decode cX9_add 86 = .ok (.iconst 1, 1) := by decide +kernel
theorem dX9_add_87 : decode cX9_add 87 = .ok (.iadd, 1) := by decide +kernel
theorem dX9_add_88 : decode cX9_add 88 = .ok (.putfield 29, 3) := by decide +kernel
theorem dX9_add_91 : decode cX9_add 91 = .ok (.iconst 1, 1) := by decide +kernel
theorem dX9_add_92 : decode cX9_add 92 = .ok (.ireturn, 1) := by decide +kernel
def F_X9_add (w : Nat) (M : z_Mem) (p : Nat) (a1 : Int32) (a2 : Int32) (a3 : Int32) (a4 : Int32) : Option (Bool × z_Mem) :=
  if (M.1 (p + 17) 5) < (60 : Int32) then
  if (M.1 (p + 17) 5) < 0 ∨ 60 ≤ (M.1 (p + 17) 5).toNatClampNeg then none else
  if (M.1 (p + 17) 5) < 0 ∨ 60 ≤ (M.1 (p + 17) 5).toNatClampNeg then none else
  if (M.1 (p + 17) 5) < 0 ∨ 60 ≤ (M.1 (p + 17) 5).toNatClampNeg then none else
  if (M.1 (p + 17) 5) < 0 ∨ 60 ≤ (M.1 (p + 17) 5).toNatClampNeg then none else
  if (M.1 (p + 17) 5) < 0 ∨ 60 ≤ (M.1 (p + 17) 5).toNatClampNeg then none else
  if a1 = (28 : Int32) then
  some (true, (z_wI (z_wI (z_wI (z_wI (z_wI (z_wI M (p + 18) ((M.1 (p + 17) 5).toNatClampNeg) a1) (p + 19) ((M.1 (p + 17) 5).toNatClampNeg) a2) (p + 20) ((M.1 (p + 17) 5).toNatClampNeg) a3) (p + 21) ((M.1 (p + 17) 5).toNatClampNeg) a4) (p + 22) ((M.1 (p + 17) 5).toNatClampNeg) (M.1 (p + 17) 5)) (p + 17) 5 ((M.1 (p + 17) 5) + (1 : Int32))))
  else
  some (true, (z_wI (z_wI (z_wI (z_wI (z_wI (z_wI (z_wI M (p + 18) ((M.1 (p + 17) 5).toNatClampNeg) a1) (p + 19) ((M.1 (p + 17) 5).toNatClampNeg) a2) (p + 20) ((M.1 (p + 17) 5).toNatClampNeg) a3) (p + 21) ((M.1 (p + 17) 5).toNatClampNeg) a4) (p + 22) ((M.1 (p + 17) 5).toNatClampNeg) (M.1 (p + 17) 5)) (p + 17) 5 ((M.1 (p + 17) 5) + (1 : Int32))) (p + 17) 6 ((M.1 (p + 17) 6) + (1 : Int32))))
  else
  some (false, M)
set_option maxHeartbeats 4000000 in
theorem A_X9_add {w : Nat} {M : z_Mem} {p : Nat} (hp : z_par p) {a1 : Int32} {a2 : Int32} {a3 : Int32} {a4 : Int32} {r : Bool} {M' : z_Mem} {Q : Option Value → z_Mem → Prop} (h : F_X9_add w M p a1 a2 a3 a4 = some (r, M')) (hq : Q (some (.int (z_tb r))) M') : z_Cl 0 mX9_add [.ref (p + 19), .int a1, .int a2, .int a3, .int a4] M Q := by
  refine g_in (ls := [some (.ref (p + 19)), some (.int a1), some (.int a2), some (.int a3), some (.int a4)]) rfl ?_
  unfold F_X9_add at h
  refine g_aload_n dX9_add_0 rfl rfl ?_
  refine g_get (a := p + 17) (v := .int (M.1 (p + 17) 5)) dX9_add_1 f_9_25 (shp_17 hp) rfl rfl ?_
  refine g_bipush (v := (60 : Int32)) dX9_add_4 (by decide) ?_
  refine g_ic_lt (t := 11) dX9_add_6 (by decide) (fun c1 => ?_) (fun c1 => ?_)
  · replace h := z_ift c1 h
    refine g_aload_n dX9_add_11 rfl rfl ?_
    refine g_get (a := p + 17) (v := .ref (p + 20)) dX9_add_12 f_9_9 (shp_17 hp) rfl rfl ?_
    refine g_aload_n dX9_add_15 rfl rfl ?_
    refine g_get (a := p + 17) (v := .int (M.1 (p + 17) 5)) dX9_add_16 f_9_25 (shp_17 hp) rfl rfl ?_
    refine g_iload_n dX9_add_19 rfl rfl ?_
    by_cases g2 : (M.1 (p + 17) 5) < 0 ∨ 60 ≤ (M.1 (p + 17) 5).toNatClampNeg
    · rw [if_pos g2] at h; cases h
    replace h := z_iff g2 h
    refine g_iast (a := p + 18) dX9_add_20 (shp_18 hp) g2 ?_
    refine g_aload_n dX9_add_21 rfl rfl ?_
    refine g_get (a := p + 17) (v := .ref (p + 21)) dX9_add_22 f_9_13 (shp_17 hp) rfl rfl ?_
    refine g_aload_n dX9_add_25 rfl rfl ?_
    refine g_get (a := p + 17) (v := .int (M.1 (p + 17) 5)) dX9_add_26 f_9_25 (shp_17 hp) rfl (by simp [z_fv, z_wI, z_wL, z_wLs, upd, vp_updL]) ?_
    refine g_iload_n dX9_add_29 rfl rfl ?_
    by_cases g3 : (M.1 (p + 17) 5) < 0 ∨ 60 ≤ (M.1 (p + 17) 5).toNatClampNeg
    · rw [if_pos g3] at h; cases h
    replace h := z_iff g3 h
    refine g_iast (a := p + 19) dX9_add_30 (shp_19 hp) g3 ?_
    refine g_aload_n dX9_add_31 rfl rfl ?_
    refine g_get (a := p + 17) (v := .ref (p + 22)) dX9_add_32 f_9_16 (shp_17 hp) rfl rfl ?_
    refine g_aload_n dX9_add_35 rfl rfl ?_
    refine g_get (a := p + 17) (v := .int (M.1 (p + 17) 5)) dX9_add_36 f_9_25 (shp_17 hp) rfl (by simp [z_fv, z_wI, z_wL, z_wLs, upd, vp_updL]) ?_
    refine g_iload_n dX9_add_39 rfl rfl ?_
    by_cases g4 : (M.1 (p + 17) 5) < 0 ∨ 60 ≤ (M.1 (p + 17) 5).toNatClampNeg
    · rw [if_pos g4] at h; cases h
    replace h := z_iff g4 h
    refine g_iast (a := p + 20) dX9_add_40 (shp_20 hp) g4 ?_
    refine g_aload_n dX9_add_41 rfl rfl ?_
    refine g_get (a := p + 17) (v := .ref (p + 23)) dX9_add_42 f_9_19 (shp_17 hp) rfl rfl ?_
    refine g_aload_n dX9_add_45 rfl rfl ?_
    refine g_get (a := p + 17) (v := .int (M.1 (p + 17) 5)) dX9_add_46 f_9_25 (shp_17 hp) rfl (by simp [z_fv, z_wI, z_wL, z_wLs, upd, vp_updL]) ?_
    refine g_iload dX9_add_49 rfl ?_
    by_cases g5 : (M.1 (p + 17) 5) < 0 ∨ 60 ≤ (M.1 (p + 17) 5).toNatClampNeg
    · rw [if_pos g5] at h; cases h
    replace h := z_iff g5 h
    refine g_iast (a := p + 21) dX9_add_51 (shp_21 hp) g5 ?_
    refine g_aload_n dX9_add_52 rfl rfl ?_
    refine g_get (a := p + 17) (v := .ref (p + 24)) dX9_add_53 f_9_22 (shp_17 hp) rfl rfl ?_
    refine g_aload_n dX9_add_56 rfl rfl ?_
    refine g_get (a := p + 17) (v := .int (M.1 (p + 17) 5)) dX9_add_57 f_9_25 (shp_17 hp) rfl (by simp [z_fv, z_wI, z_wL, z_wLs, upd, vp_updL]) ?_
    refine g_aload_n dX9_add_60 rfl rfl ?_
    refine g_get (a := p + 17) (v := .int (M.1 (p + 17) 5)) dX9_add_61 f_9_25 (shp_17 hp) rfl (by simp [z_fv, z_wI, z_wL, z_wLs, upd, vp_updL]) ?_
    by_cases g6 : (M.1 (p + 17) 5) < 0 ∨ 60 ≤ (M.1 (p + 17) 5).toNatClampNeg
    · rw [if_pos g6] at h; cases h
    replace h := z_iff g6 h
    refine g_iast (a := p + 22) dX9_add_64 (shp_22 hp) g6 ?_
    refine g_aload_n dX9_add_65 rfl rfl ?_
    refine g_dup dX9_add_66 rfl ?_
    refine g_get (a := p + 17) (v := .int (M.1 (p + 17) 5)) dX9_add_67 f_9_25 (shp_17 hp) rfl (by simp [z_fv, z_wI, z_wL, z_wLs, upd, vp_updL]) ?_
    refine g_iconst (v := (1 : Int32)) dX9_add_70 (by decide) ?_
    refine g_iadd dX9_add_71 ?_
    refine g_putI (a := p + 17) dX9_add_72 f_9_25 (shp_17 hp) rfl rfl rfl ?_
    refine g_iload_n dX9_add_75 rfl rfl ?_
    refine g_bipush (v := (28 : Int32)) dX9_add_76 (by decide) ?_
    refine g_ic_eq (t := 91) dX9_add_78 (by decide) (fun c7 => ?_) (fun c7 => ?_)
    · replace h := z_ift c7 h
      refine g_iconst (v := (1 : Int32)) dX9_add_91 (by decide) ?_
      cases h
      exact g_iret dX9_add_92 rfl rfl hq
    · replace h := z_iff c7 h
      refine g_aload_n dX9_add_81 rfl rfl ?_
      refine g_dup dX9_add_82 rfl ?_
      refine g_get (a := p + 17) (v := .int (M.1 (p + 17) 6)) dX9_add_83 f_9_29 (shp_17 hp) rfl (by simp [z_fv, z_wI, z_wL, z_wLs, upd, vp_updL]) ?_
      refine g_iconst (v := (1 : Int32)) dX9_add_86 (by decide) ?_
      refine g_iadd dX9_add_87 ?_
      refine g_putI (a := p + 17) dX9_add_88 f_9_29 (shp_17 hp) rfl rfl rfl ?_
      refine g_iconst (v := (1 : Int32)) dX9_add_91 (by decide) ?_
      cases h
      exact g_iret dX9_add_92 rfl rfl hq
  · replace h := z_iff c1 h
    refine g_iconst (v := (0 : Int32)) dX9_add_9 (by decide) ?_
    cases h
    exact g_iret dX9_add_10 rfl rfl hq
theorem dX9_join_0 : decode cX9_join 0 = .ok (.aload_n 0, 1) := by decide +kernel
theorem dX9_join_1 : decode cX9_join 1 = .ok (.getfield 22, 3) := by decide +kernel
theorem dX9_join_4 : decode cX9_join 4 = .ok (.iload_n 1, 1) := by decide +kernel
theorem dX9_join_5 : decode cX9_join 5 = .ok (.iload_n 2, 1) := by decide +kernel
theorem dX9_join_6 : decode cX9_join 6 = .ok (.iastore, 1) := by decide +kernel
theorem dX9_join_7 : decode cX9_join 7 = .ok (.aload_n 0, 1) := by decide +kernel
theorem dX9_join_8 : decode cX9_join 8 = .ok (.getfield 22, 3) := by decide +kernel
theorem dX9_join_11 : decode cX9_join 11 = .ok (.iload_n 2, 1) := by decide +kernel
theorem dX9_join_12 : decode cX9_join 12 = .ok (.iload_n 1, 1) := by decide +kernel
theorem dX9_join_13 : decode cX9_join 13 = .ok (.iastore, 1) := by decide +kernel
theorem dX9_join_14 : decode cX9_join 14 = .ok (.return_, 1) := by decide +kernel
def F_X9_join (w : Nat) (M : z_Mem) (p : Nat) (a1 : Int32) (a2 : Int32) : Option (Unit × z_Mem) :=
  if a1 < 0 ∨ 60 ≤ a1.toNatClampNeg then none else
  if a2 < 0 ∨ 60 ≤ a2.toNatClampNeg then none else
  some ((), (z_wI (z_wI M (p + 22) a1.toNatClampNeg a2) (p + 22) a2.toNatClampNeg a1))
set_option maxHeartbeats 4000000 in
theorem A_X9_join {w : Nat} {M : z_Mem} {p : Nat} (hp : z_par p) {a1 : Int32} {a2 : Int32} {r : Unit} {M' : z_Mem} {Q : Option Value → z_Mem → Prop} (h : F_X9_join w M p a1 a2 = some (r, M')) (hq : Q none M') : z_Cl 0 mX9_join [.ref (p + 19), .int a1, .int a2] M Q := by
  refine g_in (ls := [some (.ref (p + 19)), some (.int a1), some (.int a2)]) rfl ?_
  unfold F_X9_join at h
  refine g_aload_n dX9_join_0 rfl rfl ?_
  refine g_get (a := p + 17) (v := .ref (p + 24)) dX9_join_1 f_9_22 (shp_17 hp) rfl rfl ?_
  refine g_iload_n dX9_join_4 rfl rfl ?_
  refine g_iload_n dX9_join_5 rfl rfl ?_
  by_cases g1 : a1 < 0 ∨ 60 ≤ a1.toNatClampNeg
  · rw [if_pos g1] at h; cases h
  replace h := z_iff g1 h
  refine g_iast (a := p + 22) dX9_join_6 (shp_22 hp) g1 ?_
  refine g_aload_n dX9_join_7 rfl rfl ?_
  refine g_get (a := p + 17) (v := .ref (p + 24)) dX9_join_8 f_9_22 (shp_17 hp) rfl rfl ?_
  refine g_iload_n dX9_join_11 rfl rfl ?_
  refine g_iload_n dX9_join_12 rfl rfl ?_
  by_cases g2 : a2 < 0 ∨ 60 ≤ a2.toNatClampNeg
  · rw [if_pos g2] at h; cases h
  replace h := z_iff g2 h
  refine g_iast (a := p + 22) dX9_join_13 (shp_22 hp) g2 ?_
  cases h
  exact g_vret dX9_join_14 rfl hq
theorem dX10_readEnd_0 : decode cX10_readEnd 0 = .ok (.aload_n 0, 1) := by decide +kernel
theorem dX10_readEnd_1 : decode cX10_readEnd 1 = .ok (.getfield 28, 3) := by decide +kernel
theorem dX10_readEnd_4 : decode cX10_readEnd 4 = .ok (.ifCond .gt 12, 3) := by decide +kernel
theorem dX10_readEnd_7 : decode cX10_readEnd 7 = .ok (.aload_n 0, 1) := by decide +kernel
theorem dX10_readEnd_8 : decode cX10_readEnd 8 = .ok (.getfield 15, 3) := by decide +kernel
theorem dX10_readEnd_11 : decode cX10_readEnd 11 = .ok (.iconst 2, 1) := by decide +kernel
theorem dX10_readEnd_12 : decode cX10_readEnd 12 = .ok (.invokevirtual 47, 3) := by decide +kernel
theorem dX10_readEnd_15 : decode cX10_readEnd 15 = .ok (.ireturn, 1) := by decide +kernel
theorem dX10_readEnd_16 : decode cX10_readEnd 16 = .ok (.aload_n 0, 1) := by decide +kernel
theorem dX10_readEnd_17 : decode cX10_readEnd 17 = .ok (.getfield 15, 3) := by decide +kernel
theorem dX10_readEnd_20 : decode cX10_readEnd 20 = .ok (.invokevirtual 55, 3) := by decide +kernel
theorem dX10_readEnd_23 : decode cX10_readEnd 23 = .ok (.aload_n 0, 1) := by decide +kernel
theorem dX10_readEnd_24 : decode cX10_readEnd 24 = .ok (.getfield 15, 3) := by decide +kernel
theorem dX10_readEnd_27 : decode cX10_readEnd 27 = .ok (.bipush 33, 2) := by decide +kernel
theorem dX10_readEnd_29 : decode cX10_readEnd 29 = .ok (.invokevirtual 58, 3) := by decide +kernel
theorem dX10_readEnd_32 : decode cX10_readEnd 32 = .ok (.ifCond .eq 18, 3) := by decide +kernel
theorem dX10_readEnd_35 : decode cX10_readEnd 35 = .ok (.aload_n 0, 1) := by decide +kernel
theorem dX10_readEnd_36 : decode cX10_readEnd 36 = .ok (.getfield 19, 3) := by decide +kernel
theorem dX10_readEnd_39 : decode cX10_readEnd 39 = .ok (.bipush 28, 2) := by decide +kernel
theorem dX10_readEnd_41 : decode cX10_readEnd 41 = .ok (.iconst 0, 1) := by decide +kernel
theorem dX10_readEnd_42 : decode cX10_readEnd 42 = .ok (.iconst 0, 1) := by decide +kernel
theorem dX10_readEnd_43 : decode cX10_readEnd 43 = .ok (.iconst 0, 1) := by decide +kernel
theorem dX10_readEnd_44 : decode cX10_readEnd 44 = .ok (.invokevirtual 61, 3) := by decide +kernel
theorem dX10_readEnd_47 : decode cX10_readEnd 47 = .ok (.ifCond .ne 5, 3) := by decide +kernel
theorem dX10_readEnd_50 : decode cX10_readEnd 50 = .ok (.iconst 0, 1) := by decide +kernel
theorem dX10_readEnd_51 : decode cX10_readEnd 51 = .ok (.ireturn, 1) := by decide +kernel
theorem dX10_readEnd_52 : decode cX10_readEnd 52 = .ok (.aload_n 0, 1) := by decide +kernel
theorem dX10_readEnd_53 : decode cX10_readEnd 53 = .ok (.dup, 1) := by decide +kernel
theorem dX10_readEnd_54 : decode cX10_readEnd 54 = .ok (.getfield 28, 3) := by decide +kernel
theorem dX10_readEnd_57 : decode cX10_readEnd 57 = .ok (.iconst 1, 1) := by decide +kernel
theorem dX10_readEnd_58 : decode cX10_readEnd 58 = .ok (.isub, 1) := by decide +kernel
theorem dX10_readEnd_59 : decode cX10_readEnd 59 = .ok (.putfield 28, 3) := by decide +kernel
theorem dX10_readEnd_62 : decode cX10_readEnd 62 = .ok (.aload_n 0, 1) := by decide +kernel
theorem dX10_readEnd_63 : decode cX10_readEnd 63 = .ok (.getfield 19, 3) := by decide +kernel
theorem dX10_readEnd_66 : decode cX10_readEnd 66 = .ok (.aload_n 0, 1) := by decide +kernel
theorem dX10_readEnd_67 : decode cX10_readEnd 67 = .ok (.getfield 11, 3) := by decide +kernel
theorem dX10_readEnd_70 : decode cX10_readEnd 70 = .ok (.aload_n 0, 1) := by decide +kernel
theorem dX10_readEnd_71 : decode cX10_readEnd 71 = .ok (.getfield 28, 3) := by decide +kernel
theorem dX10_readEnd_74 : decode cX10_readEnd 74 = .ok (.iaload, 1) := by decide +kernel
theorem dX10_readEnd_75 : decode cX10_readEnd 75 = .ok (.aload_n 0, 1) := by decide +kernel
theorem dX10_readEnd_76 : decode cX10_readEnd 76 = .ok (.getfield 19, 3) := by decide +kernel
theorem dX10_readEnd_79 : decode cX10_readEnd 79 = .ok (.getfield 65, 3) := by decide +kernel
theorem dX10_readEnd_82 : decode cX10_readEnd 82 = .ok (.iconst 1, 1) := by decide +kernel
theorem dX10_readEnd_83 : decode cX10_readEnd 83 = .ok (.isub, 1) := by decide +kernel
theorem dX10_readEnd_84 : decode cX10_readEnd 84 = .ok (.invokevirtual 68, 3) := by decide +kernel
theorem dX10_readEnd_87 : decode cX10_readEnd 87 = .ok (.iconst 1, 1) := by decide +kernel
theorem dX10_readEnd_88 : decode cX10_readEnd 88 = .ok (.ireturn, 1) := by decide +kernel
def F_X10_readEnd (w : Nat) (M : z_Mem) : Option (Bool × z_Mem) :=
  if (0 : Int32) < (M.1 56 3) then
  (F_X7_advance w M).bind fun q2 =>
  (F_X7_take w q2.2 (33 : Int32)).bind fun q4 =>
  if q4.1 = true then
  (F_X9_add w q4.2 30 (28 : Int32) (0 : Int32) (0 : Int32) (0 : Int32)).bind fun q7 =>
  if q7.1 = true then
  if ((q7.2.1 56 3) - (1 : Int32)) < 0 ∨ 3 ≤ ((q7.2.1 56 3) - (1 : Int32)).toNatClampNeg then none else
  (F_X9_join w (z_wI q7.2 56 3 ((q7.2.1 56 3) - (1 : Int32))) 30 ((z_wI q7.2 56 3 ((q7.2.1 56 3) - (1 : Int32))).1 57 ((q7.2.1 56 3) - (1 : Int32)).toNatClampNeg) ((q7.2.1 47 5) - (1 : Int32))).bind fun q11 =>
  some (true, q11.2)
  else
  some (false, q7.2)
  else
  some (false, q4.2)
  else
  (F_X7_fail w M (2 : Int32)).bind fun q13 =>
  some (q13.1, q13.2)
set_option maxHeartbeats 4000000 in
theorem A_X10_readEnd {w : Nat} {M : z_Mem} {r : Bool} {M' : z_Mem} {Q : Option Value → z_Mem → Prop} (h : F_X10_readEnd w M = some (r, M')) (hq : Q (some (.int (z_tb r))) M') : z_Cl 4 mX10_readEnd [.ref 58] M Q := by
  refine g_in (ls := [some (.ref 58)]) rfl ?_
  unfold F_X10_readEnd at h
  refine g_aload_n dX10_readEnd_0 rfl rfl ?_
  refine g_get (a := 56) (v := .int (M.1 56 3)) dX10_readEnd_1 f_10_28 sh_56 rfl rfl ?_
  refine g_if_gt (t := 16) dX10_readEnd_4 (by decide) (fun c1 => ?_) (fun c1 => ?_)
  · replace h := z_ift c1 h
    refine g_aload_n dX10_readEnd_16 rfl rfl ?_
    refine g_get (a := 56) (v := .ref 7) dX10_readEnd_17 f_10_15 sh_56 rfl rfl ?_
    obtain ⟨q2, e3, h⟩ := z_bd h
    refine g_callV (a := 5) (as := []) (rest := []) (c := mX7_advance) (k1 := 2) dX10_readEnd_20 rfl rfl rfl sh_5 rfl rfl (Nat.le_of_ble_eq_true rfl) (Nat.le_of_ble_eq_true rfl) (by decide) ?_
    refine A_X7_advance e3 ?_
    show z_G none 4 mX10_readEnd 23 [some (.ref 58)] [] q2.2 Q
    refine g_aload_n dX10_readEnd_23 rfl rfl ?_
    refine g_get (a := 56) (v := .ref 7) dX10_readEnd_24 f_10_15 sh_56 rfl rfl ?_
    refine g_bipush (v := (33 : Int32)) dX10_readEnd_27 (by decide) ?_
    obtain ⟨q4, e5, h⟩ := z_bd h
    refine g_callV (a := 5) (as := [.int (33 : Int32)]) (rest := []) (c := mX7_take) (k1 := 3) dX10_readEnd_29 rfl rfl rfl sh_5 rfl rfl (Nat.le_of_ble_eq_true rfl) (Nat.le_of_ble_eq_true rfl) (by decide) ?_
    refine A_X7_take e5 ?_
    show z_G none 4 mX10_readEnd 32 [some (.ref 58)] [.int (z_tb q4.1)] q4.2 Q
    refine g_if_eq (t := 50) dX10_readEnd_32 (by decide) (fun c6 => ?_) (fun c6 => ?_)
    · replace h := z_iff (z_tb0.mp c6) h
      refine g_iconst (v := (0 : Int32)) dX10_readEnd_50 (by decide) ?_
      cases h
      exact g_iret dX10_readEnd_51 rfl rfl hq
    · replace h := z_ift (z_tbn.mp c6) h
      refine g_aload_n dX10_readEnd_35 rfl rfl ?_
      refine g_get (a := 56) (v := .ref 49) dX10_readEnd_36 f_10_19 sh_56 rfl rfl ?_
      refine g_bipush (v := (28 : Int32)) dX10_readEnd_39 (by decide) ?_
      refine g_iconst (v := (0 : Int32)) dX10_readEnd_41 (by decide) ?_
      refine g_iconst (v := (0 : Int32)) dX10_readEnd_42 (by decide) ?_
      refine g_iconst (v := (0 : Int32)) dX10_readEnd_43 (by decide) ?_
      obtain ⟨q7, e8, h⟩ := z_bd h
      refine g_callV (a := 47) (as := [.int (28 : Int32), .int (0 : Int32), .int (0 : Int32), .int (0 : Int32)]) (rest := []) (c := mX9_add) (k1 := 0) dX10_readEnd_44 rfl rfl rfl sh_47 rfl rfl (Nat.le_of_ble_eq_true rfl) (Nat.le_of_ble_eq_true rfl) (by decide) ?_
      refine A_X9_add z_par_30 e8 ?_
      show z_G none 4 mX10_readEnd 47 [some (.ref 58)] [.int (z_tb q7.1)] q7.2 Q
      refine g_if_ne (t := 52) dX10_readEnd_47 (by decide) (fun c9 => ?_) (fun c9 => ?_)
      · replace h := z_ift (z_tbn.mp c9) h
        refine g_aload_n dX10_readEnd_52 rfl rfl ?_
        refine g_dup dX10_readEnd_53 rfl ?_
        refine g_get (a := 56) (v := .int (q7.2.1 56 3)) dX10_readEnd_54 f_10_28 sh_56 rfl rfl ?_
        refine g_iconst (v := (1 : Int32)) dX10_readEnd_57 (by decide) ?_
        refine g_isub dX10_readEnd_58 ?_
        refine g_putI (a := 56) dX10_readEnd_59 f_10_28 sh_56 rfl rfl rfl ?_
        refine g_aload_n dX10_readEnd_62 rfl rfl ?_
        refine g_get (a := 56) (v := .ref 49) dX10_readEnd_63 f_10_19 sh_56 rfl rfl ?_
        refine g_aload_n dX10_readEnd_66 rfl rfl ?_
        refine g_get (a := 56) (v := .ref 59) dX10_readEnd_67 f_10_11 sh_56 rfl rfl ?_
        refine g_aload_n dX10_readEnd_70 rfl rfl ?_
        refine g_get (a := 56) (v := .int ((q7.2.1 56 3) - (1 : Int32))) dX10_readEnd_71 f_10_28 sh_56 rfl (by simp [z_fv, z_wI, z_wL, z_wLs, upd, vp_updL]) ?_
        by_cases g10 : ((q7.2.1 56 3) - (1 : Int32)) < 0 ∨ 3 ≤ ((q7.2.1 56 3) - (1 : Int32)).toNatClampNeg
        · rw [if_pos g10] at h; cases h
        replace h := z_iff g10 h
        refine g_iald (a := 57) dX10_readEnd_74 sh_57 g10 ?_
        refine g_aload_n dX10_readEnd_75 rfl rfl ?_
        refine g_get (a := 56) (v := .ref 49) dX10_readEnd_76 f_10_19 sh_56 rfl rfl ?_
        refine g_get (a := 47) (v := .int (q7.2.1 47 5)) dX10_readEnd_79 f_10_65 sh_47 rfl (by simp [z_fv, z_wI, z_wL, z_wLs, upd, vp_updL]) ?_
        refine g_iconst (v := (1 : Int32)) dX10_readEnd_82 (by decide) ?_
        refine g_isub dX10_readEnd_83 ?_
        obtain ⟨q11, e12, h⟩ := z_bd h
        refine g_callV (a := 47) (as := [.int ((z_wI q7.2 56 3 ((q7.2.1 56 3) - (1 : Int32))).1 57 ((q7.2.1 56 3) - (1 : Int32)).toNatClampNeg), .int ((q7.2.1 47 5) - (1 : Int32))]) (rest := []) (c := mX9_join) (k1 := 0) dX10_readEnd_84 rfl rfl rfl sh_47 rfl rfl (Nat.le_of_ble_eq_true rfl) (Nat.le_of_ble_eq_true rfl) (by decide) ?_
        refine A_X9_join z_par_30 e12 ?_
        show z_G none 4 mX10_readEnd 87 [some (.ref 58)] [] q11.2 Q
        refine g_iconst (v := (1 : Int32)) dX10_readEnd_87 (by decide) ?_
        cases h
        exact g_iret dX10_readEnd_88 rfl rfl hq
      · replace h := z_iff (z_tb0.mp c9) h
        refine g_iconst (v := (0 : Int32)) dX10_readEnd_50 (by decide) ?_
        cases h
        exact g_iret dX10_readEnd_51 rfl rfl hq
  · replace h := z_iff c1 h
    refine g_aload_n dX10_readEnd_7 rfl rfl ?_
    refine g_get (a := 56) (v := .ref 7) dX10_readEnd_8 f_10_15 sh_56 rfl rfl ?_
    refine g_iconst (v := (2 : Int32)) dX10_readEnd_11 (by decide) ?_
    obtain ⟨q13, e14, h⟩ := z_bd h
    refine g_callV (a := 5) (as := [.int (2 : Int32)]) (rest := []) (c := mX7_fail) (k1 := 0) dX10_readEnd_12 rfl rfl rfl sh_5 rfl rfl (Nat.le_of_ble_eq_true rfl) (Nat.le_of_ble_eq_true rfl) (by decide) ?_
    refine A_X7_fail e14 ?_
    show z_G none 4 mX10_readEnd 15 [some (.ref 58)] [.int (z_tb q13.1)] q13.2 Q
    cases h
    exact g_iret dX10_readEnd_15 rfl nb_tb hq
theorem dX10_takeTest_0 : decode cX10_takeTest 0 = .ok (.aload_n 0, 1) := by decide +kernel
theorem dX10_takeTest_1 : decode cX10_takeTest 1 = .ok (.getfield 15, 3) := by decide +kernel
theorem dX10_takeTest_4 : decode cX10_takeTest 4 = .ok (.getfield 37, 3) := by decide +kernel
theorem dX10_takeTest_7 : decode cX10_takeTest 7 = .ok (.istore_n 1, 1) := by decide +kernel
theorem dX10_takeTest_8 : decode cX10_takeTest 8 = .ok (.iload_n 1, 1) := by decide +kernel
theorem dX10_takeTest_9 : decode cX10_takeTest 9 = .ok (.iconst 3, 1) := by decide +kernel
theorem dX10_takeTest_10 : decode cX10_takeTest 10 = .ok (.if_icmp .eq 23, 3) := by decide +kernel
theorem dX10_takeTest_13 : decode cX10_takeTest 13 = .ok (.iload_n 1, 1) := by decide +kernel
theorem dX10_takeTest_14 : decode cX10_takeTest 14 = .ok (.bipush 26, 2) := by decide +kernel
theorem dX10_takeTest_16 : decode cX10_takeTest 16 = .ok (.if_icmp .eq 17, 3) := by decide +kernel
theorem dX10_takeTest_19 : decode cX10_takeTest 19 = .ok (.iload_n 1, 1) := by decide +kernel
theorem dX10_takeTest_20 : decode cX10_takeTest 20 = .ok (.iconst 4, 1) := by decide +kernel
theorem dX10_takeTest_21 : decode cX10_takeTest 21 = .ok (.if_icmp .eq 12, 3) := by decide +kernel
theorem dX10_takeTest_24 : decode cX10_takeTest 24 = .ok (.aload_n 0, 1) := by decide +kernel
theorem dX10_takeTest_25 : decode cX10_takeTest 25 = .ok (.getfield 15, 3) := by decide +kernel
theorem dX10_takeTest_28 : decode cX10_takeTest 28 = .ok (.iconst 2, 1) := by decide +kernel
theorem dX10_takeTest_29 : decode cX10_takeTest 29 = .ok (.invokevirtual 47, 3) := by decide +kernel
theorem dX10_takeTest_32 : decode cX10_takeTest 32 = .ok (.ireturn, 1) := by decide +kernel
theorem dX10_takeTest_33 : decode cX10_takeTest 33 = .ok (.aload_n 0, 1) := by decide +kernel
theorem dX10_takeTest_34 : decode cX10_takeTest 34 = .ok (.iload_n 1, 1) := by decide +kernel
theorem dX10_takeTest_35 : decode cX10_takeTest 35 = .ok (.putfield 75, 3) := by decide +kernel
theorem dX10_takeTest_38 : decode cX10_takeTest 38 = .ok (.aload_n 0, 1) := by decide +kernel
theorem dX10_takeTest_39 : decode cX10_takeTest 39 = .ok (.getfield 15, 3) := by decide +kernel
theorem dX10_takeTest_42 : decode cX10_takeTest 42 = .ok (.invokevirtual 55, 3) := by decide +kernel
theorem dX10_takeTest_45 : decode cX10_takeTest 45 = .ok (.aload_n 0, 1) := by decide +kernel
theorem dX10_takeTest_46 : decode cX10_takeTest 46 = .ok (.aload_n 0, 1) := by decide +kernel
theorem dX10_takeTest_47 : decode cX10_takeTest 47 = .ok (.getfield 15, 3) := by decide +kernel
theorem dX10_takeTest_50 : decode cX10_takeTest 50 = .ok (.invokevirtual 99, 3) := by decide +kernel
theorem dX10_takeTest_53 : decode cX10_takeTest 53 = .ok (.putfield 78, 3) := by decide +kernel
theorem dX10_takeTest_56 : decode cX10_takeTest 56 = .ok (.aload_n 0, 1) := by decide +kernel
theorem dX10_takeTest_57 : decode cX10_takeTest 57 = .ok (.getfield 78, 3) := by decide +kernel
theorem dX10_takeTest_60 : decode cX10_takeTest 60 = .ok (.iconst (-1), 1) := by decide +kernel
theorem dX10_takeTest_61 : decode cX10_takeTest 61 = .ok (.if_icmp .eq 8, 3) := by decide +kernel
theorem dX10_takeTest_64 : decode cX10_takeTest 64 = .ok (.iload_n 1, 1) := by decide +kernel
theorem dX10_takeTest_65 : decode cX10_takeTest 65 = .ok (.iconst 4, 1) := by decide +kernel
theorem dX10_takeTest_66 : decode cX10_takeTest 66 = .ok (.if_icmp .eq 17, 3) := by decide +kernel
theorem dX10_takeTest_69 : decode cX10_takeTest 69 = .ok (.aload_n 0, 1) := by decide +kernel
theorem dX10_takeTest_70 : decode cX10_takeTest 70 = .ok (.getfield 78, 3) := by decide +kernel
theorem dX10_takeTest_73 : decode cX10_takeTest 73 = .ok (.iconst (-1), 1) := by decide +kernel
theorem dX10_takeTest_74 : decode cX10_takeTest 74 = .ok (.if_icmp .eq 7, 3) := by decide +kernel
theorem dX10_takeTest_77 : decode cX10_takeTest 77 = .ok (.iconst 1, 1) := by decide +kernel
theorem dX10_takeTest_78 : decode cX10_takeTest 78 = .ok (.goto 4, 3) := by decide +kernel
theorem dX10_takeTest_81 : decode cX10_takeTest 81 = .ok (.iconst 0, 1) := by decide +kernel
theorem dX10_takeTest_82 : decode cX10_takeTest 82 = .ok (.ireturn, 1) := by decide +kernel
theorem dX10_takeTest_83 : decode cX10_takeTest 83 = .ok (.aload_n 0, 1) := by decide +kernel
theorem dX10_takeTest_84 : decode cX10_takeTest 84 = .ok (.aload_n 0, 1) := by decide +kernel
theorem dX10_takeTest_85 : decode cX10_takeTest 85 = .ok (.getfield 15, 3) := by decide +kernel
theorem dX10_takeTest_88 : decode cX10_takeTest 88 = .ok (.getfield 37, 3) := by decide +kernel
theorem dX10_takeTest_91 : decode cX10_takeTest 91 = .ok (.putfield 75, 3) := by decide +kernel
theorem dX10_takeTest_94 : decode cX10_takeTest 94 = .ok (.aload_n 0, 1) := by decide +kernel
theorem dX10_takeTest_95 : decode cX10_takeTest 95 = .ok (.getfield 75, 3) := by decide +kernel
theorem dX10_takeTest_98 : decode cX10_takeTest 98 = .ok (.bipush 34, 2) := by decide +kernel
theorem dX10_takeTest_100 : decode cX10_takeTest 100 = .ok (.if_icmp .eq 30, 3) := by decide +kernel
theorem dX10_takeTest_103 : decode cX10_takeTest 103 = .ok (.aload_n 0, 1) := by decide +kernel
theorem dX10_takeTest_104 : decode cX10_takeTest 104 = .ok (.getfield 75, 3) := by decide +kernel
theorem dX10_takeTest_107 : decode cX10_takeTest 107 = .ok (.bipush 35, 2) := by decide +kernel
theorem dX10_takeTest_109 : decode cX10_takeTest 109 = .ok (.if_icmp .eq 21, 3) := by decide +kernel
theorem dX10_takeTest_112 : decode cX10_takeTest 112 = .ok (.aload_n 0, 1) := by decide +kernel
theorem dX10_takeTest_113 : decode cX10_takeTest 113 = .ok (.getfield 75, 3) := by decide +kernel
theorem dX10_takeTest_116 : decode cX10_takeTest 116 = .ok (.bipush 36, 2) := by decide +kernel
theorem dX10_takeTest_118 : decode cX10_takeTest 118 = .ok (.if_icmp .eq 12, 3) := by decide +kernel
theorem dX10_takeTest_121 : decode cX10_takeTest 121 = .ok (.aload_n 0, 1) := by decide +kernel
theorem dX10_takeTest_122 : decode cX10_takeTest 122 = .ok (.getfield 15, 3) := by decide +kernel
theorem dX10_takeTest_125 : decode cX10_takeTest 125 = .ok (.iconst 2, 1) := by decide +kernel
theorem dX10_takeTest_126 : decode cX10_takeTest 126 = .ok (.invokevirtual 47, 3) := by decide +kernel
theorem dX10_takeTest_129 : decode cX10_takeTest 129 = .ok (.ireturn, 1) := by decide +kernel
theorem dX10_takeTest_130 : decode cX10_takeTest 130 = .ok (.aload_n 0, 1) := by decide +kernel
theorem dX10_takeTest_131 : decode cX10_takeTest 131 = .ok (.getfield 15, 3) := by decide +kernel
theorem dX10_takeTest_134 : decode cX10_takeTest 134 = .ok (.invokevirtual 55, 3) := by decide +kernel
theorem dX10_takeTest_137 : decode cX10_takeTest 137 = .ok (.aload_n 0, 1) := by decide +kernel
theorem dX10_takeTest_138 : decode cX10_takeTest 138 = .ok (.aload_n 0, 1) := by decide +kernel
theorem dX10_takeTest_139 : decode cX10_takeTest 139 = .ok (.getfield 15, 3) := by decide +kernel
theorem dX10_takeTest_142 : decode cX10_takeTest 142 = .ok (.iconst 0, 1) := by decide +kernel
theorem dX10_takeTest_143 : decode cX10_takeTest 143 = .ok (.sipush 9999, 3) := by decide +kernel
theorem dX10_takeTest_146 : decode cX10_takeTest 146 = .ok (.invokevirtual 93, 3) := by decide +kernel
theorem dX10_takeTest_149 : decode cX10_takeTest 149 = .ok (.putfield 81, 3) := by decide +kernel
theorem dX10_takeTest_152 : decode cX10_takeTest 152 = .ok (.aload_n 0, 1) := by decide +kernel
theorem dX10_takeTest_153 : decode cX10_takeTest 153 = .ok (.getfield 81, 3) := by decide +kernel
theorem dX10_takeTest_156 : decode cX10_takeTest 156 = .ok (.iconst (-1), 1) := by decide +kernel
theorem dX10_takeTest_157 : decode cX10_takeTest 157 = .ok (.if_icmp .eq 7, 3) := by decide +kernel
theorem dX10_takeTest_160 : decode cX10_takeTest 160 = .ok (.iconst 1, 1) := by decide +kernel
theorem dX10_takeTest_161 : decode cX10_takeTest 161 = .ok (.goto 4, 3) := by decide +kernel
theorem dX10_takeTest_164 : decode cX10_takeTest 164 = .ok (.iconst 0, 1) := by decide +kernel
theorem dX10_takeTest_165 : decode cX10_takeTest 165 = .ok (.ireturn, 1) := by decide +kernel
def F_X10_takeTest (w : Nat) (M : z_Mem) : Option (Bool × z_Mem) :=
  if (M.1 5 3) = (3 : Int32) then
  (F_X7_advance w (z_wI M 56 4 (M.1 5 3))).bind fun q2 =>
  (F_X7_takeSide w q2.2).bind fun q4 =>
  if q4.1 = (-1 : Int32) then
  if q4.1 = (-1 : Int32) then
  some (false, (z_wI q4.2 56 5 q4.1))
  else
  some (true, (z_wI q4.2 56 5 q4.1))
  else
  if (M.1 5 3) = (4 : Int32) then
  if (q4.2.1 5 3) = (34 : Int32) then
  (F_X7_advance w (z_wI (z_wI q4.2 56 5 q4.1) 56 4 (q4.2.1 5 3))).bind fun q10 =>
  (F_X7_takeNumber w q10.2 (0 : Int32) (9999 : Int32)).bind fun q12 =>
  if q12.1 = (-1 : Int32) then
  some (false, (z_wI q12.2 56 6 q12.1))
  else
  some (true, (z_wI q12.2 56 6 q12.1))
  else
  if (q4.2.1 5 3) = (35 : Int32) then
  (F_X7_advance w (z_wI (z_wI q4.2 56 5 q4.1) 56 4 (q4.2.1 5 3))).bind fun q16 =>
  (F_X7_takeNumber w q16.2 (0 : Int32) (9999 : Int32)).bind fun q18 =>
  if q18.1 = (-1 : Int32) then
  some (false, (z_wI q18.2 56 6 q18.1))
  else
  some (true, (z_wI q18.2 56 6 q18.1))
  else
  if (q4.2.1 5 3) = (36 : Int32) then
  (F_X7_advance w (z_wI (z_wI q4.2 56 5 q4.1) 56 4 (q4.2.1 5 3))).bind fun q22 =>
  (F_X7_takeNumber w q22.2 (0 : Int32) (9999 : Int32)).bind fun q24 =>
  if q24.1 = (-1 : Int32) then
  some (false, (z_wI q24.2 56 6 q24.1))
  else
  some (true, (z_wI q24.2 56 6 q24.1))
  else
  (F_X7_fail w (z_wI (z_wI q4.2 56 5 q4.1) 56 4 (q4.2.1 5 3)) (2 : Int32)).bind fun q27 =>
  some (q27.1, q27.2)
  else
  if q4.1 = (-1 : Int32) then
  some (false, (z_wI q4.2 56 5 q4.1))
  else
  some (true, (z_wI q4.2 56 5 q4.1))
  else
  if (M.1 5 3) = (26 : Int32) then
  (F_X7_advance w (z_wI M 56 4 (M.1 5 3))).bind fun q31 =>
  (F_X7_takeSide w q31.2).bind fun q33 =>
  if q33.1 = (-1 : Int32) then
  if q33.1 = (-1 : Int32) then
  some (false, (z_wI q33.2 56 5 q33.1))
  else
  some (true, (z_wI q33.2 56 5 q33.1))
  else
  if (M.1 5 3) = (4 : Int32) then
  if (q33.2.1 5 3) = (34 : Int32) then
  (F_X7_advance w (z_wI (z_wI q33.2 56 5 q33.1) 56 4 (q33.2.1 5 3))).bind fun q39 =>
  (F_X7_takeNumber w q39.2 (0 : Int32) (9999 : Int32)).bind fun q41 =>
  if q41.1 = (-1 : Int32) then
  some (false, (z_wI q41.2 56 6 q41.1))
  else
  some (true, (z_wI q41.2 56 6 q41.1))
  else
  if (q33.2.1 5 3) = (35 : Int32) then
  (F_X7_advance w (z_wI (z_wI q33.2 56 5 q33.1) 56 4 (q33.2.1 5 3))).bind fun q45 =>
  (F_X7_takeNumber w q45.2 (0 : Int32) (9999 : Int32)).bind fun q47 =>
  if q47.1 = (-1 : Int32) then
  some (false, (z_wI q47.2 56 6 q47.1))
  else
  some (true, (z_wI q47.2 56 6 q47.1))
  else
  if (q33.2.1 5 3) = (36 : Int32) then
  (F_X7_advance w (z_wI (z_wI q33.2 56 5 q33.1) 56 4 (q33.2.1 5 3))).bind fun q51 =>
  (F_X7_takeNumber w q51.2 (0 : Int32) (9999 : Int32)).bind fun q53 =>
  if q53.1 = (-1 : Int32) then
  some (false, (z_wI q53.2 56 6 q53.1))
  else
  some (true, (z_wI q53.2 56 6 q53.1))
  else
  (F_X7_fail w (z_wI (z_wI q33.2 56 5 q33.1) 56 4 (q33.2.1 5 3)) (2 : Int32)).bind fun q56 =>
  some (q56.1, q56.2)
  else
  if q33.1 = (-1 : Int32) then
  some (false, (z_wI q33.2 56 5 q33.1))
  else
  some (true, (z_wI q33.2 56 5 q33.1))
  else
  if (M.1 5 3) = (4 : Int32) then
  (F_X7_advance w (z_wI M 56 4 (M.1 5 3))).bind fun q60 =>
  (F_X7_takeSide w q60.2).bind fun q62 =>
  if q62.1 = (-1 : Int32) then
  if q62.1 = (-1 : Int32) then
  some (false, (z_wI q62.2 56 5 q62.1))
  else
  some (true, (z_wI q62.2 56 5 q62.1))
  else
  if (M.1 5 3) = (4 : Int32) then
  if (q62.2.1 5 3) = (34 : Int32) then
  (F_X7_advance w (z_wI (z_wI q62.2 56 5 q62.1) 56 4 (q62.2.1 5 3))).bind fun q68 =>
  (F_X7_takeNumber w q68.2 (0 : Int32) (9999 : Int32)).bind fun q70 =>
  if q70.1 = (-1 : Int32) then
  some (false, (z_wI q70.2 56 6 q70.1))
  else
  some (true, (z_wI q70.2 56 6 q70.1))
  else
  if (q62.2.1 5 3) = (35 : Int32) then
  (F_X7_advance w (z_wI (z_wI q62.2 56 5 q62.1) 56 4 (q62.2.1 5 3))).bind fun q74 =>
  (F_X7_takeNumber w q74.2 (0 : Int32) (9999 : Int32)).bind fun q76 =>
  if q76.1 = (-1 : Int32) then
  some (false, (z_wI q76.2 56 6 q76.1))
  else
  some (true, (z_wI q76.2 56 6 q76.1))
  else
  if (q62.2.1 5 3) = (36 : Int32) then
  (F_X7_advance w (z_wI (z_wI q62.2 56 5 q62.1) 56 4 (q62.2.1 5 3))).bind fun q80 =>
  (F_X7_takeNumber w q80.2 (0 : Int32) (9999 : Int32)).bind fun q82 =>
  if q82.1 = (-1 : Int32) then
  some (false, (z_wI q82.2 56 6 q82.1))
  else
  some (true, (z_wI q82.2 56 6 q82.1))
  else
  (F_X7_fail w (z_wI (z_wI q62.2 56 5 q62.1) 56 4 (q62.2.1 5 3)) (2 : Int32)).bind fun q85 =>
  some (q85.1, q85.2)
  else
  if q62.1 = (-1 : Int32) then
  some (false, (z_wI q62.2 56 5 q62.1))
  else
  some (true, (z_wI q62.2 56 5 q62.1))
  else
  (F_X7_fail w M (2 : Int32)).bind fun q88 =>
  some (q88.1, q88.2)
set_option maxHeartbeats 4000000 in
theorem A_X10_takeTest {w : Nat} {M : z_Mem} {r : Bool} {M' : z_Mem} {Q : Option Value → z_Mem → Prop} (h : F_X10_takeTest w M = some (r, M')) (hq : Q (some (.int (z_tb r))) M') : z_Cl 4 mX10_takeTest [.ref 58] M Q := by
  refine g_in (ls := [some (.ref 58), none]) rfl ?_
  unfold F_X10_takeTest at h
  refine g_aload_n dX10_takeTest_0 rfl rfl ?_
  refine g_get (a := 56) (v := .ref 7) dX10_takeTest_1 f_10_15 sh_56 rfl rfl ?_
  refine g_get (a := 5) (v := .int (M.1 5 3)) dX10_takeTest_4 f_10_37 sh_5 rfl rfl ?_
  refine g_istore_n (ls' := [some (.ref 58), some (.int (M.1 5 3))]) dX10_takeTest_7 rfl (Nat.le_of_ble_eq_true rfl) rfl ?_
  refine g_iload_n dX10_takeTest_8 rfl rfl ?_
  refine g_iconst (v := (3 : Int32)) dX10_takeTest_9 (by decide) ?_
  refine g_ic_eq (t := 33) dX10_takeTest_10 (by decide) (fun c1 => ?_) (fun c1 => ?_)
  · replace h := z_ift c1 h
    refine g_aload_n dX10_takeTest_33 rfl rfl ?_
    refine g_iload_n dX10_takeTest_34 rfl rfl ?_
    refine g_putI (a := 56) dX10_takeTest_35 f_10_75 sh_56 rfl rfl rfl ?_
    refine g_aload_n dX10_takeTest_38 rfl rfl ?_
    refine g_get (a := 56) (v := .ref 7) dX10_takeTest_39 f_10_15 sh_56 rfl rfl ?_
    obtain ⟨q2, e3, h⟩ := z_bd h
    refine g_callV (a := 5) (as := []) (rest := []) (c := mX7_advance) (k1 := 2) dX10_takeTest_42 rfl rfl rfl sh_5 rfl rfl (Nat.le_of_ble_eq_true rfl) (Nat.le_of_ble_eq_true rfl) (by decide) ?_
    refine A_X7_advance e3 ?_
    show z_G none 4 mX10_takeTest 45 [some (.ref 58), some (.int (M.1 5 3))] [] q2.2 Q
    refine g_aload_n dX10_takeTest_45 rfl rfl ?_
    refine g_aload_n dX10_takeTest_46 rfl rfl ?_
    refine g_get (a := 56) (v := .ref 7) dX10_takeTest_47 f_10_15 sh_56 rfl rfl ?_
    obtain ⟨q4, e5, h⟩ := z_bd h
    refine g_callV (a := 5) (as := []) (rest := [.ref 58]) (c := mX7_takeSide) (k1 := 3) dX10_takeTest_50 rfl rfl rfl sh_5 rfl rfl (Nat.le_of_ble_eq_true rfl) (Nat.le_of_ble_eq_true rfl) (by decide) ?_
    refine A_X7_takeSide e5 ?_
    show z_G none 4 mX10_takeTest 53 [some (.ref 58), some (.int (M.1 5 3))] [.int q4.1, .ref 58] q4.2 Q
    refine g_putI (a := 56) dX10_takeTest_53 f_10_78 sh_56 rfl rfl rfl ?_
    refine g_aload_n dX10_takeTest_56 rfl rfl ?_
    refine g_get (a := 56) (v := .int q4.1) dX10_takeTest_57 f_10_78 sh_56 rfl (by simp [z_fv, z_wI, z_wL, z_wLs, upd, vp_updL]) ?_
    refine g_iconst (v := (-1 : Int32)) dX10_takeTest_60 (by decide) ?_
    refine g_ic_eq (t := 69) dX10_takeTest_61 (by decide) (fun c6 => ?_) (fun c6 => ?_)
    · replace h := z_ift c6 h
      refine g_aload_n dX10_takeTest_69 rfl rfl ?_
      refine g_get (a := 56) (v := .int q4.1) dX10_takeTest_70 f_10_78 sh_56 rfl (by simp [z_fv, z_wI, z_wL, z_wLs, upd, vp_updL]) ?_
      refine g_iconst (v := (-1 : Int32)) dX10_takeTest_73 (by decide) ?_
      refine g_ic_eq (t := 81) dX10_takeTest_74 (by decide) (fun c7 => ?_) (fun c7 => ?_)
      · replace h := z_ift c7 h
        refine g_iconst (v := (0 : Int32)) dX10_takeTest_81 (by decide) ?_
        cases h
        exact g_iret dX10_takeTest_82 rfl rfl hq
      · replace h := z_iff c7 h
        refine g_iconst (v := (1 : Int32)) dX10_takeTest_77 (by decide) ?_
        refine g_goto (t := 82) dX10_takeTest_78 (by decide) ?_
        cases h
        exact g_iret dX10_takeTest_82 rfl rfl hq
    · replace h := z_iff c6 h
      refine g_iload_n dX10_takeTest_64 rfl rfl ?_
      refine g_iconst (v := (4 : Int32)) dX10_takeTest_65 (by decide) ?_
      refine g_ic_eq (t := 83) dX10_takeTest_66 (by decide) (fun c8 => ?_) (fun c8 => ?_)
      · replace h := z_ift c8 h
        refine g_aload_n dX10_takeTest_83 rfl rfl ?_
        refine g_aload_n dX10_takeTest_84 rfl rfl ?_
        refine g_get (a := 56) (v := .ref 7) dX10_takeTest_85 f_10_15 sh_56 rfl rfl ?_
        refine g_get (a := 5) (v := .int (q4.2.1 5 3)) dX10_takeTest_88 f_10_37 sh_5 rfl (by simp [z_fv, z_wI, z_wL, z_wLs, upd, vp_updL]) ?_
        refine g_putI (a := 56) dX10_takeTest_91 f_10_75 sh_56 rfl rfl rfl ?_
        refine g_aload_n dX10_takeTest_94 rfl rfl ?_
        refine g_get (a := 56) (v := .int (q4.2.1 5 3)) dX10_takeTest_95 f_10_75 sh_56 rfl (by simp [z_fv, z_wI, z_wL, z_wLs, upd, vp_updL]) ?_
        refine g_bipush (v := (34 : Int32)) dX10_takeTest_98 (by decide) ?_
        refine g_ic_eq (t := 130) dX10_takeTest_100 (by decide) (fun c9 => ?_) (fun c9 => ?_)
        · replace h := z_ift c9 h
          refine g_aload_n dX10_takeTest_130 rfl rfl ?_
          refine g_get (a := 56) (v := .ref 7) dX10_takeTest_131 f_10_15 sh_56 rfl rfl ?_
          obtain ⟨q10, e11, h⟩ := z_bd h
          refine g_callV (a := 5) (as := []) (rest := []) (c := mX7_advance) (k1 := 2) dX10_takeTest_134 rfl rfl rfl sh_5 rfl rfl (Nat.le_of_ble_eq_true rfl) (Nat.le_of_ble_eq_true rfl) (by decide) ?_
          refine A_X7_advance e11 ?_
          show z_G none 4 mX10_takeTest 137 [some (.ref 58), some (.int (M.1 5 3))] [] q10.2 Q
          refine g_aload_n dX10_takeTest_137 rfl rfl ?_
          refine g_aload_n dX10_takeTest_138 rfl rfl ?_
          refine g_get (a := 56) (v := .ref 7) dX10_takeTest_139 f_10_15 sh_56 rfl rfl ?_
          refine g_iconst (v := (0 : Int32)) dX10_takeTest_142 (by decide) ?_
          refine g_sipush (v := (9999 : Int32)) dX10_takeTest_143 (by decide) ?_
          obtain ⟨q12, e13, h⟩ := z_bd h
          refine g_callV (a := 5) (as := [.int (0 : Int32), .int (9999 : Int32)]) (rest := [.ref 58]) (c := mX7_takeNumber) (k1 := 3) dX10_takeTest_146 rfl rfl rfl sh_5 rfl rfl (Nat.le_of_ble_eq_true rfl) (Nat.le_of_ble_eq_true rfl) (by decide) ?_
          refine A_X7_takeNumber e13 ?_
          show z_G none 4 mX10_takeTest 149 [some (.ref 58), some (.int (M.1 5 3))] [.int q12.1, .ref 58] q12.2 Q
          refine g_putI (a := 56) dX10_takeTest_149 f_10_81 sh_56 rfl rfl rfl ?_
          refine g_aload_n dX10_takeTest_152 rfl rfl ?_
          refine g_get (a := 56) (v := .int q12.1) dX10_takeTest_153 f_10_81 sh_56 rfl (by simp [z_fv, z_wI, z_wL, z_wLs, upd, vp_updL]) ?_
          refine g_iconst (v := (-1 : Int32)) dX10_takeTest_156 (by decide) ?_
          refine g_ic_eq (t := 164) dX10_takeTest_157 (by decide) (fun c14 => ?_) (fun c14 => ?_)
          · replace h := z_ift c14 h
            refine g_iconst (v := (0 : Int32)) dX10_takeTest_164 (by decide) ?_
            cases h
            exact g_iret dX10_takeTest_165 rfl rfl hq
          · replace h := z_iff c14 h
            refine g_iconst (v := (1 : Int32)) dX10_takeTest_160 (by decide) ?_
            refine g_goto (t := 165) dX10_takeTest_161 (by decide) ?_
            cases h
            exact g_iret dX10_takeTest_165 rfl rfl hq
        · replace h := z_iff c9 h
          refine g_aload_n dX10_takeTest_103 rfl rfl ?_
          refine g_get (a := 56) (v := .int (q4.2.1 5 3)) dX10_takeTest_104 f_10_75 sh_56 rfl (by simp [z_fv, z_wI, z_wL, z_wLs, upd, vp_updL]) ?_
          refine g_bipush (v := (35 : Int32)) dX10_takeTest_107 (by decide) ?_
          refine g_ic_eq (t := 130) dX10_takeTest_109 (by decide) (fun c15 => ?_) (fun c15 => ?_)
          · replace h := z_ift c15 h
            refine g_aload_n dX10_takeTest_130 rfl rfl ?_
            refine g_get (a := 56) (v := .ref 7) dX10_takeTest_131 f_10_15 sh_56 rfl rfl ?_
            obtain ⟨q16, e17, h⟩ := z_bd h
            refine g_callV (a := 5) (as := []) (rest := []) (c := mX7_advance) (k1 := 2) dX10_takeTest_134 rfl rfl rfl sh_5 rfl rfl (Nat.le_of_ble_eq_true rfl) (Nat.le_of_ble_eq_true rfl) (by decide) ?_
            refine A_X7_advance e17 ?_
            show z_G none 4 mX10_takeTest 137 [some (.ref 58), some (.int (M.1 5 3))] [] q16.2 Q
            refine g_aload_n dX10_takeTest_137 rfl rfl ?_
            refine g_aload_n dX10_takeTest_138 rfl rfl ?_
            refine g_get (a := 56) (v := .ref 7) dX10_takeTest_139 f_10_15 sh_56 rfl rfl ?_
            refine g_iconst (v := (0 : Int32)) dX10_takeTest_142 (by decide) ?_
            refine g_sipush (v := (9999 : Int32)) dX10_takeTest_143 (by decide) ?_
            obtain ⟨q18, e19, h⟩ := z_bd h
            refine g_callV (a := 5) (as := [.int (0 : Int32), .int (9999 : Int32)]) (rest := [.ref 58]) (c := mX7_takeNumber) (k1 := 3) dX10_takeTest_146 rfl rfl rfl sh_5 rfl rfl (Nat.le_of_ble_eq_true rfl) (Nat.le_of_ble_eq_true rfl) (by decide) ?_
            refine A_X7_takeNumber e19 ?_
            show z_G none 4 mX10_takeTest 149 [some (.ref 58), some (.int (M.1 5 3))] [.int q18.1, .ref 58] q18.2 Q
            refine g_putI (a := 56) dX10_takeTest_149 f_10_81 sh_56 rfl rfl rfl ?_
            refine g_aload_n dX10_takeTest_152 rfl rfl ?_
            refine g_get (a := 56) (v := .int q18.1) dX10_takeTest_153 f_10_81 sh_56 rfl (by simp [z_fv, z_wI, z_wL, z_wLs, upd, vp_updL]) ?_
            refine g_iconst (v := (-1 : Int32)) dX10_takeTest_156 (by decide) ?_
            refine g_ic_eq (t := 164) dX10_takeTest_157 (by decide) (fun c20 => ?_) (fun c20 => ?_)
            · replace h := z_ift c20 h
              refine g_iconst (v := (0 : Int32)) dX10_takeTest_164 (by decide) ?_
              cases h
              exact g_iret dX10_takeTest_165 rfl rfl hq
            · replace h := z_iff c20 h
              refine g_iconst (v := (1 : Int32)) dX10_takeTest_160 (by decide) ?_
              refine g_goto (t := 165) dX10_takeTest_161 (by decide) ?_
              cases h
              exact g_iret dX10_takeTest_165 rfl rfl hq
          · replace h := z_iff c15 h
            refine g_aload_n dX10_takeTest_112 rfl rfl ?_
            refine g_get (a := 56) (v := .int (q4.2.1 5 3)) dX10_takeTest_113 f_10_75 sh_56 rfl (by simp [z_fv, z_wI, z_wL, z_wLs, upd, vp_updL]) ?_
            refine g_bipush (v := (36 : Int32)) dX10_takeTest_116 (by decide) ?_
            refine g_ic_eq (t := 130) dX10_takeTest_118 (by decide) (fun c21 => ?_) (fun c21 => ?_)
            · replace h := z_ift c21 h
              refine g_aload_n dX10_takeTest_130 rfl rfl ?_
              refine g_get (a := 56) (v := .ref 7) dX10_takeTest_131 f_10_15 sh_56 rfl rfl ?_
              obtain ⟨q22, e23, h⟩ := z_bd h
              refine g_callV (a := 5) (as := []) (rest := []) (c := mX7_advance) (k1 := 2) dX10_takeTest_134 rfl rfl rfl sh_5 rfl rfl (Nat.le_of_ble_eq_true rfl) (Nat.le_of_ble_eq_true rfl) (by decide) ?_
              refine A_X7_advance e23 ?_
              show z_G none 4 mX10_takeTest 137 [some (.ref 58), some (.int (M.1 5 3))] [] q22.2 Q
              refine g_aload_n dX10_takeTest_137 rfl rfl ?_
              refine g_aload_n dX10_takeTest_138 rfl rfl ?_
              refine g_get (a := 56) (v := .ref 7) dX10_takeTest_139 f_10_15 sh_56 rfl rfl ?_
              refine g_iconst (v := (0 : Int32)) dX10_takeTest_142 (by decide) ?_
              refine g_sipush (v := (9999 : Int32)) dX10_takeTest_143 (by decide) ?_
              obtain ⟨q24, e25, h⟩ := z_bd h
              refine g_callV (a := 5) (as := [.int (0 : Int32), .int (9999 : Int32)]) (rest := [.ref 58]) (c := mX7_takeNumber) (k1 := 3) dX10_takeTest_146 rfl rfl rfl sh_5 rfl rfl (Nat.le_of_ble_eq_true rfl) (Nat.le_of_ble_eq_true rfl) (by decide) ?_
              refine A_X7_takeNumber e25 ?_
              show z_G none 4 mX10_takeTest 149 [some (.ref 58), some (.int (M.1 5 3))] [.int q24.1, .ref 58] q24.2 Q
              refine g_putI (a := 56) dX10_takeTest_149 f_10_81 sh_56 rfl rfl rfl ?_
              refine g_aload_n dX10_takeTest_152 rfl rfl ?_
              refine g_get (a := 56) (v := .int q24.1) dX10_takeTest_153 f_10_81 sh_56 rfl (by simp [z_fv, z_wI, z_wL, z_wLs, upd, vp_updL]) ?_
              refine g_iconst (v := (-1 : Int32)) dX10_takeTest_156 (by decide) ?_
              refine g_ic_eq (t := 164) dX10_takeTest_157 (by decide) (fun c26 => ?_) (fun c26 => ?_)
              · replace h := z_ift c26 h
                refine g_iconst (v := (0 : Int32)) dX10_takeTest_164 (by decide) ?_
                cases h
                exact g_iret dX10_takeTest_165 rfl rfl hq
              · replace h := z_iff c26 h
                refine g_iconst (v := (1 : Int32)) dX10_takeTest_160 (by decide) ?_
                refine g_goto (t := 165) dX10_takeTest_161 (by decide) ?_
                cases h
                exact g_iret dX10_takeTest_165 rfl rfl hq
            · replace h := z_iff c21 h
              refine g_aload_n dX10_takeTest_121 rfl rfl ?_
              refine g_get (a := 56) (v := .ref 7) dX10_takeTest_122 f_10_15 sh_56 rfl rfl ?_
              refine g_iconst (v := (2 : Int32)) dX10_takeTest_125 (by decide) ?_
              obtain ⟨q27, e28, h⟩ := z_bd h
              refine g_callV (a := 5) (as := [.int (2 : Int32)]) (rest := []) (c := mX7_fail) (k1 := 0) dX10_takeTest_126 rfl rfl rfl sh_5 rfl rfl (Nat.le_of_ble_eq_true rfl) (Nat.le_of_ble_eq_true rfl) (by decide) ?_
              refine A_X7_fail e28 ?_
              show z_G none 4 mX10_takeTest 129 [some (.ref 58), some (.int (M.1 5 3))] [.int (z_tb q27.1)] q27.2 Q
              cases h
              exact g_iret dX10_takeTest_129 rfl nb_tb hq
      · replace h := z_iff c8 h
        refine g_aload_n dX10_takeTest_69 rfl rfl ?_
        refine g_get (a := 56) (v := .int q4.1) dX10_takeTest_70 f_10_78 sh_56 rfl (by simp [z_fv, z_wI, z_wL, z_wLs, upd, vp_updL]) ?_
        refine g_iconst (v := (-1 : Int32)) dX10_takeTest_73 (by decide) ?_
        refine g_ic_eq (t := 81) dX10_takeTest_74 (by decide) (fun c29 => ?_) (fun c29 => ?_)
        · replace h := z_ift c29 h
          refine g_iconst (v := (0 : Int32)) dX10_takeTest_81 (by decide) ?_
          cases h
          exact g_iret dX10_takeTest_82 rfl rfl hq
        · replace h := z_iff c29 h
          refine g_iconst (v := (1 : Int32)) dX10_takeTest_77 (by decide) ?_
          refine g_goto (t := 82) dX10_takeTest_78 (by decide) ?_
          cases h
          exact g_iret dX10_takeTest_82 rfl rfl hq
  · replace h := z_iff c1 h
    refine g_iload_n dX10_takeTest_13 rfl rfl ?_
    refine g_bipush (v := (26 : Int32)) dX10_takeTest_14 (by decide) ?_
    refine g_ic_eq (t := 33) dX10_takeTest_16 (by decide) (fun c30 => ?_) (fun c30 => ?_)
    · replace h := z_ift c30 h
      refine g_aload_n dX10_takeTest_33 rfl rfl ?_
      refine g_iload_n dX10_takeTest_34 rfl rfl ?_
      refine g_putI (a := 56) dX10_takeTest_35 f_10_75 sh_56 rfl rfl rfl ?_
      refine g_aload_n dX10_takeTest_38 rfl rfl ?_
      refine g_get (a := 56) (v := .ref 7) dX10_takeTest_39 f_10_15 sh_56 rfl rfl ?_
      obtain ⟨q31, e32, h⟩ := z_bd h
      refine g_callV (a := 5) (as := []) (rest := []) (c := mX7_advance) (k1 := 2) dX10_takeTest_42 rfl rfl rfl sh_5 rfl rfl (Nat.le_of_ble_eq_true rfl) (Nat.le_of_ble_eq_true rfl) (by decide) ?_
      refine A_X7_advance e32 ?_
      show z_G none 4 mX10_takeTest 45 [some (.ref 58), some (.int (M.1 5 3))] [] q31.2 Q
      refine g_aload_n dX10_takeTest_45 rfl rfl ?_
      refine g_aload_n dX10_takeTest_46 rfl rfl ?_
      refine g_get (a := 56) (v := .ref 7) dX10_takeTest_47 f_10_15 sh_56 rfl rfl ?_
      obtain ⟨q33, e34, h⟩ := z_bd h
      refine g_callV (a := 5) (as := []) (rest := [.ref 58]) (c := mX7_takeSide) (k1 := 3) dX10_takeTest_50 rfl rfl rfl sh_5 rfl rfl (Nat.le_of_ble_eq_true rfl) (Nat.le_of_ble_eq_true rfl) (by decide) ?_
      refine A_X7_takeSide e34 ?_
      show z_G none 4 mX10_takeTest 53 [some (.ref 58), some (.int (M.1 5 3))] [.int q33.1, .ref 58] q33.2 Q
      refine g_putI (a := 56) dX10_takeTest_53 f_10_78 sh_56 rfl rfl rfl ?_
      refine g_aload_n dX10_takeTest_56 rfl rfl ?_
      refine g_get (a := 56) (v := .int q33.1) dX10_takeTest_57 f_10_78 sh_56 rfl (by simp [z_fv, z_wI, z_wL, z_wLs, upd, vp_updL]) ?_
      refine g_iconst (v := (-1 : Int32)) dX10_takeTest_60 (by decide) ?_
      refine g_ic_eq (t := 69) dX10_takeTest_61 (by decide) (fun c35 => ?_) (fun c35 => ?_)
      · replace h := z_ift c35 h
        refine g_aload_n dX10_takeTest_69 rfl rfl ?_
        refine g_get (a := 56) (v := .int q33.1) dX10_takeTest_70 f_10_78 sh_56 rfl (by simp [z_fv, z_wI, z_wL, z_wLs, upd, vp_updL]) ?_
        refine g_iconst (v := (-1 : Int32)) dX10_takeTest_73 (by decide) ?_
        refine g_ic_eq (t := 81) dX10_takeTest_74 (by decide) (fun c36 => ?_) (fun c36 => ?_)
        · replace h := z_ift c36 h
          refine g_iconst (v := (0 : Int32)) dX10_takeTest_81 (by decide) ?_
          cases h
          exact g_iret dX10_takeTest_82 rfl rfl hq
        · replace h := z_iff c36 h
          refine g_iconst (v := (1 : Int32)) dX10_takeTest_77 (by decide) ?_
          refine g_goto (t := 82) dX10_takeTest_78 (by decide) ?_
          cases h
          exact g_iret dX10_takeTest_82 rfl rfl hq
      · replace h := z_iff c35 h
        refine g_iload_n dX10_takeTest_64 rfl rfl ?_
        refine g_iconst (v := (4 : Int32)) dX10_takeTest_65 (by decide) ?_
        refine g_ic_eq (t := 83) dX10_takeTest_66 (by decide) (fun c37 => ?_) (fun c37 => ?_)
        · replace h := z_ift c37 h
          refine g_aload_n dX10_takeTest_83 rfl rfl ?_
          refine g_aload_n dX10_takeTest_84 rfl rfl ?_
          refine g_get (a := 56) (v := .ref 7) dX10_takeTest_85 f_10_15 sh_56 rfl rfl ?_
          refine g_get (a := 5) (v := .int (q33.2.1 5 3)) dX10_takeTest_88 f_10_37 sh_5 rfl (by simp [z_fv, z_wI, z_wL, z_wLs, upd, vp_updL]) ?_
          refine g_putI (a := 56) dX10_takeTest_91 f_10_75 sh_56 rfl rfl rfl ?_
          refine g_aload_n dX10_takeTest_94 rfl rfl ?_
          refine g_get (a := 56) (v := .int (q33.2.1 5 3)) dX10_takeTest_95 f_10_75 sh_56 rfl (by simp [z_fv, z_wI, z_wL, z_wLs, upd, vp_updL]) ?_
          refine g_bipush (v := (34 : Int32)) dX10_takeTest_98 (by decide) ?_
          refine g_ic_eq (t := 130) dX10_takeTest_100 (by decide) (fun c38 => ?_) (fun c38 => ?_)
          · replace h := z_ift c38 h
            refine g_aload_n dX10_takeTest_130 rfl rfl ?_
            refine g_get (a := 56) (v := .ref 7) dX10_takeTest_131 f_10_15 sh_56 rfl rfl ?_
            obtain ⟨q39, e40, h⟩ := z_bd h
            refine g_callV (a := 5) (as := []) (rest := []) (c := mX7_advance) (k1 := 2) dX10_takeTest_134 rfl rfl rfl sh_5 rfl rfl (Nat.le_of_ble_eq_true rfl) (Nat.le_of_ble_eq_true rfl) (by decide) ?_
            refine A_X7_advance e40 ?_
            show z_G none 4 mX10_takeTest 137 [some (.ref 58), some (.int (M.1 5 3))] [] q39.2 Q
            refine g_aload_n dX10_takeTest_137 rfl rfl ?_
            refine g_aload_n dX10_takeTest_138 rfl rfl ?_
            refine g_get (a := 56) (v := .ref 7) dX10_takeTest_139 f_10_15 sh_56 rfl rfl ?_
            refine g_iconst (v := (0 : Int32)) dX10_takeTest_142 (by decide) ?_
            refine g_sipush (v := (9999 : Int32)) dX10_takeTest_143 (by decide) ?_
            obtain ⟨q41, e42, h⟩ := z_bd h
            refine g_callV (a := 5) (as := [.int (0 : Int32), .int (9999 : Int32)]) (rest := [.ref 58]) (c := mX7_takeNumber) (k1 := 3) dX10_takeTest_146 rfl rfl rfl sh_5 rfl rfl (Nat.le_of_ble_eq_true rfl) (Nat.le_of_ble_eq_true rfl) (by decide) ?_
            refine A_X7_takeNumber e42 ?_
            show z_G none 4 mX10_takeTest 149 [some (.ref 58), some (.int (M.1 5 3))] [.int q41.1, .ref 58] q41.2 Q
            refine g_putI (a := 56) dX10_takeTest_149 f_10_81 sh_56 rfl rfl rfl ?_
            refine g_aload_n dX10_takeTest_152 rfl rfl ?_
            refine g_get (a := 56) (v := .int q41.1) dX10_takeTest_153 f_10_81 sh_56 rfl (by simp [z_fv, z_wI, z_wL, z_wLs, upd, vp_updL]) ?_
            refine g_iconst (v := (-1 : Int32)) dX10_takeTest_156 (by decide) ?_
            refine g_ic_eq (t := 164) dX10_takeTest_157 (by decide) (fun c43 => ?_) (fun c43 => ?_)
            · replace h := z_ift c43 h
              refine g_iconst (v := (0 : Int32)) dX10_takeTest_164 (by decide) ?_
              cases h
              exact g_iret dX10_takeTest_165 rfl rfl hq
            · replace h := z_iff c43 h
              refine g_iconst (v := (1 : Int32)) dX10_takeTest_160 (by decide) ?_
              refine g_goto (t := 165) dX10_takeTest_161 (by decide) ?_
              cases h
              exact g_iret dX10_takeTest_165 rfl rfl hq
          · replace h := z_iff c38 h
            refine g_aload_n dX10_takeTest_103 rfl rfl ?_
            refine g_get (a := 56) (v := .int (q33.2.1 5 3)) dX10_takeTest_104 f_10_75 sh_56 rfl (by simp [z_fv, z_wI, z_wL, z_wLs, upd, vp_updL]) ?_
            refine g_bipush (v := (35 : Int32)) dX10_takeTest_107 (by decide) ?_
            refine g_ic_eq (t := 130) dX10_takeTest_109 (by decide) (fun c44 => ?_) (fun c44 => ?_)
            · replace h := z_ift c44 h
              refine g_aload_n dX10_takeTest_130 rfl rfl ?_
              refine g_get (a := 56) (v := .ref 7) dX10_takeTest_131 f_10_15 sh_56 rfl rfl ?_
              obtain ⟨q45, e46, h⟩ := z_bd h
              refine g_callV (a := 5) (as := []) (rest := []) (c := mX7_advance) (k1 := 2) dX10_takeTest_134 rfl rfl rfl sh_5 rfl rfl (Nat.le_of_ble_eq_true rfl) (Nat.le_of_ble_eq_true rfl) (by decide) ?_
              refine A_X7_advance e46 ?_
              show z_G none 4 mX10_takeTest 137 [some (.ref 58), some (.int (M.1 5 3))] [] q45.2 Q
              refine g_aload_n dX10_takeTest_137 rfl rfl ?_
              refine g_aload_n dX10_takeTest_138 rfl rfl ?_
              refine g_get (a := 56) (v := .ref 7) dX10_takeTest_139 f_10_15 sh_56 rfl rfl ?_
              refine g_iconst (v := (0 : Int32)) dX10_takeTest_142 (by decide) ?_
              refine g_sipush (v := (9999 : Int32)) dX10_takeTest_143 (by decide) ?_
              obtain ⟨q47, e48, h⟩ := z_bd h
              refine g_callV (a := 5) (as := [.int (0 : Int32), .int (9999 : Int32)]) (rest := [.ref 58]) (c := mX7_takeNumber) (k1 := 3) dX10_takeTest_146 rfl rfl rfl sh_5 rfl rfl (Nat.le_of_ble_eq_true rfl) (Nat.le_of_ble_eq_true rfl) (by decide) ?_
              refine A_X7_takeNumber e48 ?_
              show z_G none 4 mX10_takeTest 149 [some (.ref 58), some (.int (M.1 5 3))] [.int q47.1, .ref 58] q47.2 Q
              refine g_putI (a := 56) dX10_takeTest_149 f_10_81 sh_56 rfl rfl rfl ?_
              refine g_aload_n dX10_takeTest_152 rfl rfl ?_
              refine g_get (a := 56) (v := .int q47.1) dX10_takeTest_153 f_10_81 sh_56 rfl (by simp [z_fv, z_wI, z_wL, z_wLs, upd, vp_updL]) ?_
              refine g_iconst (v := (-1 : Int32)) dX10_takeTest_156 (by decide) ?_
              refine g_ic_eq (t := 164) dX10_takeTest_157 (by decide) (fun c49 => ?_) (fun c49 => ?_)
              · replace h := z_ift c49 h
                refine g_iconst (v := (0 : Int32)) dX10_takeTest_164 (by decide) ?_
                cases h
                exact g_iret dX10_takeTest_165 rfl rfl hq
              · replace h := z_iff c49 h
                refine g_iconst (v := (1 : Int32)) dX10_takeTest_160 (by decide) ?_
                refine g_goto (t := 165) dX10_takeTest_161 (by decide) ?_
                cases h
                exact g_iret dX10_takeTest_165 rfl rfl hq
            · replace h := z_iff c44 h
              refine g_aload_n dX10_takeTest_112 rfl rfl ?_
              refine g_get (a := 56) (v := .int (q33.2.1 5 3)) dX10_takeTest_113 f_10_75 sh_56 rfl (by simp [z_fv, z_wI, z_wL, z_wLs, upd, vp_updL]) ?_
              refine g_bipush (v := (36 : Int32)) dX10_takeTest_116 (by decide) ?_
              refine g_ic_eq (t := 130) dX10_takeTest_118 (by decide) (fun c50 => ?_) (fun c50 => ?_)
              · replace h := z_ift c50 h
                refine g_aload_n dX10_takeTest_130 rfl rfl ?_
                refine g_get (a := 56) (v := .ref 7) dX10_takeTest_131 f_10_15 sh_56 rfl rfl ?_
                obtain ⟨q51, e52, h⟩ := z_bd h
                refine g_callV (a := 5) (as := []) (rest := []) (c := mX7_advance) (k1 := 2) dX10_takeTest_134 rfl rfl rfl sh_5 rfl rfl (Nat.le_of_ble_eq_true rfl) (Nat.le_of_ble_eq_true rfl) (by decide) ?_
                refine A_X7_advance e52 ?_
                show z_G none 4 mX10_takeTest 137 [some (.ref 58), some (.int (M.1 5 3))] [] q51.2 Q
                refine g_aload_n dX10_takeTest_137 rfl rfl ?_
                refine g_aload_n dX10_takeTest_138 rfl rfl ?_
                refine g_get (a := 56) (v := .ref 7) dX10_takeTest_139 f_10_15 sh_56 rfl rfl ?_
                refine g_iconst (v := (0 : Int32)) dX10_takeTest_142 (by decide) ?_
                refine g_sipush (v := (9999 : Int32)) dX10_takeTest_143 (by decide) ?_
                obtain ⟨q53, e54, h⟩ := z_bd h
                refine g_callV (a := 5) (as := [.int (0 : Int32), .int (9999 : Int32)]) (rest := [.ref 58]) (c := mX7_takeNumber) (k1 := 3) dX10_takeTest_146 rfl rfl rfl sh_5 rfl rfl (Nat.le_of_ble_eq_true rfl) (Nat.le_of_ble_eq_true rfl) (by decide) ?_
                refine A_X7_takeNumber e54 ?_
                show z_G none 4 mX10_takeTest 149 [some (.ref 58), some (.int (M.1 5 3))] [.int q53.1, .ref 58] q53.2 Q
                refine g_putI (a := 56) dX10_takeTest_149 f_10_81 sh_56 rfl rfl rfl ?_
                refine g_aload_n dX10_takeTest_152 rfl rfl ?_
                refine g_get (a := 56) (v := .int q53.1) dX10_takeTest_153 f_10_81 sh_56 rfl (by simp [z_fv, z_wI, z_wL, z_wLs, upd, vp_updL]) ?_
                refine g_iconst (v := (-1 : Int32)) dX10_takeTest_156 (by decide) ?_
                refine g_ic_eq (t := 164) dX10_takeTest_157 (by decide) (fun c55 => ?_) (fun c55 => ?_)
                · replace h := z_ift c55 h
                  refine g_iconst (v := (0 : Int32)) dX10_takeTest_164 (by decide) ?_
                  cases h
                  exact g_iret dX10_takeTest_165 rfl rfl hq
                · replace h := z_iff c55 h
                  refine g_iconst (v := (1 : Int32)) dX10_takeTest_160 (by decide) ?_
                  refine g_goto (t := 165) dX10_takeTest_161 (by decide) ?_
                  cases h
                  exact g_iret dX10_takeTest_165 rfl rfl hq
              · replace h := z_iff c50 h
                refine g_aload_n dX10_takeTest_121 rfl rfl ?_
                refine g_get (a := 56) (v := .ref 7) dX10_takeTest_122 f_10_15 sh_56 rfl rfl ?_
                refine g_iconst (v := (2 : Int32)) dX10_takeTest_125 (by decide) ?_
                obtain ⟨q56, e57, h⟩ := z_bd h
                refine g_callV (a := 5) (as := [.int (2 : Int32)]) (rest := []) (c := mX7_fail) (k1 := 0) dX10_takeTest_126 rfl rfl rfl sh_5 rfl rfl (Nat.le_of_ble_eq_true rfl) (Nat.le_of_ble_eq_true rfl) (by decide) ?_
                refine A_X7_fail e57 ?_
                show z_G none 4 mX10_takeTest 129 [some (.ref 58), some (.int (M.1 5 3))] [.int (z_tb q56.1)] q56.2 Q
                cases h
                exact g_iret dX10_takeTest_129 rfl nb_tb hq
        · replace h := z_iff c37 h
          refine g_aload_n dX10_takeTest_69 rfl rfl ?_
          refine g_get (a := 56) (v := .int q33.1) dX10_takeTest_70 f_10_78 sh_56 rfl (by simp [z_fv, z_wI, z_wL, z_wLs, upd, vp_updL]) ?_
          refine g_iconst (v := (-1 : Int32)) dX10_takeTest_73 (by decide) ?_
          refine g_ic_eq (t := 81) dX10_takeTest_74 (by decide) (fun c58 => ?_) (fun c58 => ?_)
          · replace h := z_ift c58 h
            refine g_iconst (v := (0 : Int32)) dX10_takeTest_81 (by decide) ?_
            cases h
            exact g_iret dX10_takeTest_82 rfl rfl hq
          · replace h := z_iff c58 h
            refine g_iconst (v := (1 : Int32)) dX10_takeTest_77 (by decide) ?_
            refine g_goto (t := 82) dX10_takeTest_78 (by decide) ?_
            cases h
            exact g_iret dX10_takeTest_82 rfl rfl hq
    · replace h := z_iff c30 h
      refine g_iload_n dX10_takeTest_19 rfl rfl ?_
      refine g_iconst (v := (4 : Int32)) dX10_takeTest_20 (by decide) ?_
      refine g_ic_eq (t := 33) dX10_takeTest_21 (by decide) (fun c59 => ?_) (fun c59 => ?_)
      · replace h := z_ift c59 h
        refine g_aload_n dX10_takeTest_33 rfl rfl ?_
        refine g_iload_n dX10_takeTest_34 rfl rfl ?_
        refine g_putI (a := 56) dX10_takeTest_35 f_10_75 sh_56 rfl rfl rfl ?_
        refine g_aload_n dX10_takeTest_38 rfl rfl ?_
        refine g_get (a := 56) (v := .ref 7) dX10_takeTest_39 f_10_15 sh_56 rfl rfl ?_
        obtain ⟨q60, e61, h⟩ := z_bd h
        refine g_callV (a := 5) (as := []) (rest := []) (c := mX7_advance) (k1 := 2) dX10_takeTest_42 rfl rfl rfl sh_5 rfl rfl (Nat.le_of_ble_eq_true rfl) (Nat.le_of_ble_eq_true rfl) (by decide) ?_
        refine A_X7_advance e61 ?_
        show z_G none 4 mX10_takeTest 45 [some (.ref 58), some (.int (M.1 5 3))] [] q60.2 Q
        refine g_aload_n dX10_takeTest_45 rfl rfl ?_
        refine g_aload_n dX10_takeTest_46 rfl rfl ?_
        refine g_get (a := 56) (v := .ref 7) dX10_takeTest_47 f_10_15 sh_56 rfl rfl ?_
        obtain ⟨q62, e63, h⟩ := z_bd h
        refine g_callV (a := 5) (as := []) (rest := [.ref 58]) (c := mX7_takeSide) (k1 := 3) dX10_takeTest_50 rfl rfl rfl sh_5 rfl rfl (Nat.le_of_ble_eq_true rfl) (Nat.le_of_ble_eq_true rfl) (by decide) ?_
        refine A_X7_takeSide e63 ?_
        show z_G none 4 mX10_takeTest 53 [some (.ref 58), some (.int (M.1 5 3))] [.int q62.1, .ref 58] q62.2 Q
        refine g_putI (a := 56) dX10_takeTest_53 f_10_78 sh_56 rfl rfl rfl ?_
        refine g_aload_n dX10_takeTest_56 rfl rfl ?_
        refine g_get (a := 56) (v := .int q62.1) dX10_takeTest_57 f_10_78 sh_56 rfl (by simp [z_fv, z_wI, z_wL, z_wLs, upd, vp_updL]) ?_
        refine g_iconst (v := (-1 : Int32)) dX10_takeTest_60 (by decide) ?_
        refine g_ic_eq (t := 69) dX10_takeTest_61 (by decide) (fun c64 => ?_) (fun c64 => ?_)
        · replace h := z_ift c64 h
          refine g_aload_n dX10_takeTest_69 rfl rfl ?_
          refine g_get (a := 56) (v := .int q62.1) dX10_takeTest_70 f_10_78 sh_56 rfl (by simp [z_fv, z_wI, z_wL, z_wLs, upd, vp_updL]) ?_
          refine g_iconst (v := (-1 : Int32)) dX10_takeTest_73 (by decide) ?_
          refine g_ic_eq (t := 81) dX10_takeTest_74 (by decide) (fun c65 => ?_) (fun c65 => ?_)
          · replace h := z_ift c65 h
            refine g_iconst (v := (0 : Int32)) dX10_takeTest_81 (by decide) ?_
            cases h
            exact g_iret dX10_takeTest_82 rfl rfl hq
          · replace h := z_iff c65 h
            refine g_iconst (v := (1 : Int32)) dX10_takeTest_77 (by decide) ?_
            refine g_goto (t := 82) dX10_takeTest_78 (by decide) ?_
            cases h
            exact g_iret dX10_takeTest_82 rfl rfl hq
        · replace h := z_iff c64 h
          refine g_iload_n dX10_takeTest_64 rfl rfl ?_
          refine g_iconst (v := (4 : Int32)) dX10_takeTest_65 (by decide) ?_
          refine g_ic_eq (t := 83) dX10_takeTest_66 (by decide) (fun c66 => ?_) (fun c66 => ?_)
          · replace h := z_ift c66 h
            refine g_aload_n dX10_takeTest_83 rfl rfl ?_
            refine g_aload_n dX10_takeTest_84 rfl rfl ?_
            refine g_get (a := 56) (v := .ref 7) dX10_takeTest_85 f_10_15 sh_56 rfl rfl ?_
            refine g_get (a := 5) (v := .int (q62.2.1 5 3)) dX10_takeTest_88 f_10_37 sh_5 rfl (by simp [z_fv, z_wI, z_wL, z_wLs, upd, vp_updL]) ?_
            refine g_putI (a := 56) dX10_takeTest_91 f_10_75 sh_56 rfl rfl rfl ?_
            refine g_aload_n dX10_takeTest_94 rfl rfl ?_
            refine g_get (a := 56) (v := .int (q62.2.1 5 3)) dX10_takeTest_95 f_10_75 sh_56 rfl (by simp [z_fv, z_wI, z_wL, z_wLs, upd, vp_updL]) ?_
            refine g_bipush (v := (34 : Int32)) dX10_takeTest_98 (by decide) ?_
            refine g_ic_eq (t := 130) dX10_takeTest_100 (by decide) (fun c67 => ?_) (fun c67 => ?_)
            · replace h := z_ift c67 h
              refine g_aload_n dX10_takeTest_130 rfl rfl ?_
              refine g_get (a := 56) (v := .ref 7) dX10_takeTest_131 f_10_15 sh_56 rfl rfl ?_
              obtain ⟨q68, e69, h⟩ := z_bd h
              refine g_callV (a := 5) (as := []) (rest := []) (c := mX7_advance) (k1 := 2) dX10_takeTest_134 rfl rfl rfl sh_5 rfl rfl (Nat.le_of_ble_eq_true rfl) (Nat.le_of_ble_eq_true rfl) (by decide) ?_
              refine A_X7_advance e69 ?_
              show z_G none 4 mX10_takeTest 137 [some (.ref 58), some (.int (M.1 5 3))] [] q68.2 Q
              refine g_aload_n dX10_takeTest_137 rfl rfl ?_
              refine g_aload_n dX10_takeTest_138 rfl rfl ?_
              refine g_get (a := 56) (v := .ref 7) dX10_takeTest_139 f_10_15 sh_56 rfl rfl ?_
              refine g_iconst (v := (0 : Int32)) dX10_takeTest_142 (by decide) ?_
              refine g_sipush (v := (9999 : Int32)) dX10_takeTest_143 (by decide) ?_
              obtain ⟨q70, e71, h⟩ := z_bd h
              refine g_callV (a := 5) (as := [.int (0 : Int32), .int (9999 : Int32)]) (rest := [.ref 58]) (c := mX7_takeNumber) (k1 := 3) dX10_takeTest_146 rfl rfl rfl sh_5 rfl rfl (Nat.le_of_ble_eq_true rfl) (Nat.le_of_ble_eq_true rfl) (by decide) ?_
              refine A_X7_takeNumber e71 ?_
              show z_G none 4 mX10_takeTest 149 [some (.ref 58), some (.int (M.1 5 3))] [.int q70.1, .ref 58] q70.2 Q
              refine g_putI (a := 56) dX10_takeTest_149 f_10_81 sh_56 rfl rfl rfl ?_
              refine g_aload_n dX10_takeTest_152 rfl rfl ?_
              refine g_get (a := 56) (v := .int q70.1) dX10_takeTest_153 f_10_81 sh_56 rfl (by simp [z_fv, z_wI, z_wL, z_wLs, upd, vp_updL]) ?_
              refine g_iconst (v := (-1 : Int32)) dX10_takeTest_156 (by decide) ?_
              refine g_ic_eq (t := 164) dX10_takeTest_157 (by decide) (fun c72 => ?_) (fun c72 => ?_)
              · replace h := z_ift c72 h
                refine g_iconst (v := (0 : Int32)) dX10_takeTest_164 (by decide) ?_
                cases h
                exact g_iret dX10_takeTest_165 rfl rfl hq
              · replace h := z_iff c72 h
                refine g_iconst (v := (1 : Int32)) dX10_takeTest_160 (by decide) ?_
                refine g_goto (t := 165) dX10_takeTest_161 (by decide) ?_
                cases h
                exact g_iret dX10_takeTest_165 rfl rfl hq
            · replace h := z_iff c67 h
              refine g_aload_n dX10_takeTest_103 rfl rfl ?_
              refine g_get (a := 56) (v := .int (q62.2.1 5 3)) dX10_takeTest_104 f_10_75 sh_56 rfl (by simp [z_fv, z_wI, z_wL, z_wLs, upd, vp_updL]) ?_
              refine g_bipush (v := (35 : Int32)) dX10_takeTest_107 (by decide) ?_
              refine g_ic_eq (t := 130) dX10_takeTest_109 (by decide) (fun c73 => ?_) (fun c73 => ?_)
              · replace h := z_ift c73 h
                refine g_aload_n dX10_takeTest_130 rfl rfl ?_
                refine g_get (a := 56) (v := .ref 7) dX10_takeTest_131 f_10_15 sh_56 rfl rfl ?_
                obtain ⟨q74, e75, h⟩ := z_bd h
                refine g_callV (a := 5) (as := []) (rest := []) (c := mX7_advance) (k1 := 2) dX10_takeTest_134 rfl rfl rfl sh_5 rfl rfl (Nat.le_of_ble_eq_true rfl) (Nat.le_of_ble_eq_true rfl) (by decide) ?_
                refine A_X7_advance e75 ?_
                show z_G none 4 mX10_takeTest 137 [some (.ref 58), some (.int (M.1 5 3))] [] q74.2 Q
                refine g_aload_n dX10_takeTest_137 rfl rfl ?_
                refine g_aload_n dX10_takeTest_138 rfl rfl ?_
                refine g_get (a := 56) (v := .ref 7) dX10_takeTest_139 f_10_15 sh_56 rfl rfl ?_
                refine g_iconst (v := (0 : Int32)) dX10_takeTest_142 (by decide) ?_
                refine g_sipush (v := (9999 : Int32)) dX10_takeTest_143 (by decide) ?_
                obtain ⟨q76, e77, h⟩ := z_bd h
                refine g_callV (a := 5) (as := [.int (0 : Int32), .int (9999 : Int32)]) (rest := [.ref 58]) (c := mX7_takeNumber) (k1 := 3) dX10_takeTest_146 rfl rfl rfl sh_5 rfl rfl (Nat.le_of_ble_eq_true rfl) (Nat.le_of_ble_eq_true rfl) (by decide) ?_
                refine A_X7_takeNumber e77 ?_
                show z_G none 4 mX10_takeTest 149 [some (.ref 58), some (.int (M.1 5 3))] [.int q76.1, .ref 58] q76.2 Q
                refine g_putI (a := 56) dX10_takeTest_149 f_10_81 sh_56 rfl rfl rfl ?_
                refine g_aload_n dX10_takeTest_152 rfl rfl ?_
                refine g_get (a := 56) (v := .int q76.1) dX10_takeTest_153 f_10_81 sh_56 rfl (by simp [z_fv, z_wI, z_wL, z_wLs, upd, vp_updL]) ?_
                refine g_iconst (v := (-1 : Int32)) dX10_takeTest_156 (by decide) ?_
                refine g_ic_eq (t := 164) dX10_takeTest_157 (by decide) (fun c78 => ?_) (fun c78 => ?_)
                · replace h := z_ift c78 h
                  refine g_iconst (v := (0 : Int32)) dX10_takeTest_164 (by decide) ?_
                  cases h
                  exact g_iret dX10_takeTest_165 rfl rfl hq
                · replace h := z_iff c78 h
                  refine g_iconst (v := (1 : Int32)) dX10_takeTest_160 (by decide) ?_
                  refine g_goto (t := 165) dX10_takeTest_161 (by decide) ?_
                  cases h
                  exact g_iret dX10_takeTest_165 rfl rfl hq
              · replace h := z_iff c73 h
                refine g_aload_n dX10_takeTest_112 rfl rfl ?_
                refine g_get (a := 56) (v := .int (q62.2.1 5 3)) dX10_takeTest_113 f_10_75 sh_56 rfl (by simp [z_fv, z_wI, z_wL, z_wLs, upd, vp_updL]) ?_
                refine g_bipush (v := (36 : Int32)) dX10_takeTest_116 (by decide) ?_
                refine g_ic_eq (t := 130) dX10_takeTest_118 (by decide) (fun c79 => ?_) (fun c79 => ?_)
                · replace h := z_ift c79 h
                  refine g_aload_n dX10_takeTest_130 rfl rfl ?_
                  refine g_get (a := 56) (v := .ref 7) dX10_takeTest_131 f_10_15 sh_56 rfl rfl ?_
                  obtain ⟨q80, e81, h⟩ := z_bd h
                  refine g_callV (a := 5) (as := []) (rest := []) (c := mX7_advance) (k1 := 2) dX10_takeTest_134 rfl rfl rfl sh_5 rfl rfl (Nat.le_of_ble_eq_true rfl) (Nat.le_of_ble_eq_true rfl) (by decide) ?_
                  refine A_X7_advance e81 ?_
                  show z_G none 4 mX10_takeTest 137 [some (.ref 58), some (.int (M.1 5 3))] [] q80.2 Q
                  refine g_aload_n dX10_takeTest_137 rfl rfl ?_
                  refine g_aload_n dX10_takeTest_138 rfl rfl ?_
                  refine g_get (a := 56) (v := .ref 7) dX10_takeTest_139 f_10_15 sh_56 rfl rfl ?_
                  refine g_iconst (v := (0 : Int32)) dX10_takeTest_142 (by decide) ?_
                  refine g_sipush (v := (9999 : Int32)) dX10_takeTest_143 (by decide) ?_
                  obtain ⟨q82, e83, h⟩ := z_bd h
                  refine g_callV (a := 5) (as := [.int (0 : Int32), .int (9999 : Int32)]) (rest := [.ref 58]) (c := mX7_takeNumber) (k1 := 3) dX10_takeTest_146 rfl rfl rfl sh_5 rfl rfl (Nat.le_of_ble_eq_true rfl) (Nat.le_of_ble_eq_true rfl) (by decide) ?_
                  refine A_X7_takeNumber e83 ?_
                  show z_G none 4 mX10_takeTest 149 [some (.ref 58), some (.int (M.1 5 3))] [.int q82.1, .ref 58] q82.2 Q
                  refine g_putI (a := 56) dX10_takeTest_149 f_10_81 sh_56 rfl rfl rfl ?_
                  refine g_aload_n dX10_takeTest_152 rfl rfl ?_
                  refine g_get (a := 56) (v := .int q82.1) dX10_takeTest_153 f_10_81 sh_56 rfl (by simp [z_fv, z_wI, z_wL, z_wLs, upd, vp_updL]) ?_
                  refine g_iconst (v := (-1 : Int32)) dX10_takeTest_156 (by decide) ?_
                  refine g_ic_eq (t := 164) dX10_takeTest_157 (by decide) (fun c84 => ?_) (fun c84 => ?_)
                  · replace h := z_ift c84 h
                    refine g_iconst (v := (0 : Int32)) dX10_takeTest_164 (by decide) ?_
                    cases h
                    exact g_iret dX10_takeTest_165 rfl rfl hq
                  · replace h := z_iff c84 h
                    refine g_iconst (v := (1 : Int32)) dX10_takeTest_160 (by decide) ?_
                    refine g_goto (t := 165) dX10_takeTest_161 (by decide) ?_
                    cases h
                    exact g_iret dX10_takeTest_165 rfl rfl hq
                · replace h := z_iff c79 h
                  refine g_aload_n dX10_takeTest_121 rfl rfl ?_
                  refine g_get (a := 56) (v := .ref 7) dX10_takeTest_122 f_10_15 sh_56 rfl rfl ?_
                  refine g_iconst (v := (2 : Int32)) dX10_takeTest_125 (by decide) ?_
                  obtain ⟨q85, e86, h⟩ := z_bd h
                  refine g_callV (a := 5) (as := [.int (2 : Int32)]) (rest := []) (c := mX7_fail) (k1 := 0) dX10_takeTest_126 rfl rfl rfl sh_5 rfl rfl (Nat.le_of_ble_eq_true rfl) (Nat.le_of_ble_eq_true rfl) (by decide) ?_
                  refine A_X7_fail e86 ?_
                  show z_G none 4 mX10_takeTest 129 [some (.ref 58), some (.int (M.1 5 3))] [.int (z_tb q85.1)] q85.2 Q
                  cases h
                  exact g_iret dX10_takeTest_129 rfl nb_tb hq
          · replace h := z_iff c66 h
            refine g_aload_n dX10_takeTest_69 rfl rfl ?_
            refine g_get (a := 56) (v := .int q62.1) dX10_takeTest_70 f_10_78 sh_56 rfl (by simp [z_fv, z_wI, z_wL, z_wLs, upd, vp_updL]) ?_
            refine g_iconst (v := (-1 : Int32)) dX10_takeTest_73 (by decide) ?_
            refine g_ic_eq (t := 81) dX10_takeTest_74 (by decide) (fun c87 => ?_) (fun c87 => ?_)
            · replace h := z_ift c87 h
              refine g_iconst (v := (0 : Int32)) dX10_takeTest_81 (by decide) ?_
              cases h
              exact g_iret dX10_takeTest_82 rfl rfl hq
            · replace h := z_iff c87 h
              refine g_iconst (v := (1 : Int32)) dX10_takeTest_77 (by decide) ?_
              refine g_goto (t := 82) dX10_takeTest_78 (by decide) ?_
              cases h
              exact g_iret dX10_takeTest_82 rfl rfl hq
      · replace h := z_iff c59 h
        refine g_aload_n dX10_takeTest_24 rfl rfl ?_
        refine g_get (a := 56) (v := .ref 7) dX10_takeTest_25 f_10_15 sh_56 rfl rfl ?_
        refine g_iconst (v := (2 : Int32)) dX10_takeTest_28 (by decide) ?_
        obtain ⟨q88, e89, h⟩ := z_bd h
        refine g_callV (a := 5) (as := [.int (2 : Int32)]) (rest := []) (c := mX7_fail) (k1 := 0) dX10_takeTest_29 rfl rfl rfl sh_5 rfl rfl (Nat.le_of_ble_eq_true rfl) (Nat.le_of_ble_eq_true rfl) (by decide) ?_
        refine A_X7_fail e89 ?_
        show z_G none 4 mX10_takeTest 32 [some (.ref 58), some (.int (M.1 5 3))] [.int (z_tb q88.1)] q88.2 Q
        cases h
        exact g_iret dX10_takeTest_32 rfl nb_tb hq
theorem dX10_takeSworn_0 : decode cX10_takeSworn 0 = .ok (.aload_n 0, 1) := by decide +kernel
theorem dX10_takeSworn_1 : decode cX10_takeSworn 1 = .ok (.aload_n 0, 1) := by decide +kernel
theorem dX10_takeSworn_2 : decode cX10_takeSworn 2 = .ok (.getfield 15, 3) := by decide +kernel
theorem dX10_takeSworn_5 : decode cX10_takeSworn 5 = .ok (.invokevirtual 99, 3) := by decide +kernel
theorem dX10_takeSworn_8 : decode cX10_takeSworn 8 = .ok (.putfield 75, 3) := by decide +kernel
theorem dX10_takeSworn_11 : decode cX10_takeSworn 11 = .ok (.aload_n 0, 1) := by decide +kernel
theorem dX10_takeSworn_12 : decode cX10_takeSworn 12 = .ok (.aload_n 0, 1) := by decide +kernel
theorem dX10_takeSworn_13 : decode cX10_takeSworn 13 = .ok (.getfield 75, 3) := by decide +kernel
theorem dX10_takeSworn_16 : decode cX10_takeSworn 16 = .ok (.iconst (-1), 1) := by decide +kernel
theorem dX10_takeSworn_17 : decode cX10_takeSworn 17 = .ok (.if_icmp .ne 7, 3) := by decide +kernel
theorem dX10_takeSworn_20 : decode cX10_takeSworn 20 = .ok (.iconst (-1), 1) := by decide +kernel
theorem dX10_takeSworn_21 : decode cX10_takeSworn 21 = .ok (.goto 13, 3) := by decide +kernel
theorem dX10_takeSworn_24 : decode cX10_takeSworn 24 = .ok (.aload_n 0, 1) := by decide +kernel
theorem dX10_takeSworn_25 : decode cX10_takeSworn 25 = .ok (.getfield 15, 3) := by decide +kernel
theorem dX10_takeSworn_28 : decode cX10_takeSworn 28 = .ok (.iconst 1, 1) := by decide +kernel
theorem dX10_takeSworn_29 : decode cX10_takeSworn 29 = .ok (.bipush 99, 2) := by decide +kernel
theorem dX10_takeSworn_31 : decode cX10_takeSworn 31 = .ok (.invokevirtual 93, 3) := by decide +kernel
theorem dX10_takeSworn_34 : decode cX10_takeSworn 34 = .ok (.putfield 78, 3) := by decide +kernel
theorem dX10_takeSworn_37 : decode cX10_takeSworn 37 = .ok (.aload_n 0, 1) := by decide +kernel
theorem dX10_takeSworn_38 : decode cX10_takeSworn 38 = .ok (.aload_n 0, 1) := by decide +kernel
theorem dX10_takeSworn_39 : decode cX10_takeSworn 39 = .ok (.getfield 78, 3) := by decide +kernel
theorem dX10_takeSworn_42 : decode cX10_takeSworn 42 = .ok (.iconst (-1), 1) := by decide +kernel
theorem dX10_takeSworn_43 : decode cX10_takeSworn 43 = .ok (.if_icmp .ne 7, 3) := by decide +kernel
theorem dX10_takeSworn_46 : decode cX10_takeSworn 46 = .ok (.iconst (-1), 1) := by decide +kernel
theorem dX10_takeSworn_47 : decode cX10_takeSworn 47 = .ok (.goto 13, 3) := by decide +kernel
theorem dX10_takeSworn_50 : decode cX10_takeSworn 50 = .ok (.aload_n 0, 1) := by decide +kernel
theorem dX10_takeSworn_51 : decode cX10_takeSworn 51 = .ok (.getfield 15, 3) := by decide +kernel
theorem dX10_takeSworn_54 : decode cX10_takeSworn 54 = .ok (.iconst 1, 1) := by decide +kernel
theorem dX10_takeSworn_55 : decode cX10_takeSworn 55 = .ok (.bipush 24, 2) := by decide +kernel
theorem dX10_takeSworn_57 : decode cX10_takeSworn 57 = .ok (.invokevirtual 93, 3) := by decide +kernel
theorem dX10_takeSworn_60 : decode cX10_takeSworn 60 = .ok (.putfield 81, 3) := by decide +kernel
theorem dX10_takeSworn_63 : decode cX10_takeSworn 63 = .ok (.aload_n 0, 1) := by decide +kernel
theorem dX10_takeSworn_64 : decode cX10_takeSworn 64 = .ok (.getfield 81, 3) := by decide +kernel
theorem dX10_takeSworn_67 : decode cX10_takeSworn 67 = .ok (.iconst (-1), 1) := by decide +kernel
theorem dX10_takeSworn_68 : decode cX10_takeSworn 68 = .ok (.if_icmp .eq 7, 3) := by decide +kernel
theorem dX10_takeSworn_71 : decode cX10_takeSworn 71 = .ok (.iconst 1, 1) := by decide +kernel
theorem dX10_takeSworn_72 : decode cX10_takeSworn 72 = .ok (.goto 4, 3) := by decide +kernel
theorem dX10_takeSworn_75 : decode cX10_takeSworn 75 = .ok (.iconst 0, 1) := by decide +kernel
theorem dX10_takeSworn_76 : decode cX10_takeSworn 76 = .ok (.ireturn, 1) := by decide +kernel
def F_X10_takeSworn (w : Nat) (M : z_Mem) : Option (Bool × z_Mem) :=
  (F_X7_takeSide w M).bind fun q1 =>
  if q1.1 = (-1 : Int32) then
  some (false, (z_wI (z_wI (z_wI q1.2 56 4 q1.1) 56 5 (-1 : Int32)) 56 6 (-1 : Int32)))
  else
  (F_X7_takeNumber w (z_wI q1.2 56 4 q1.1) (1 : Int32) (99 : Int32)).bind fun q4 =>
  if q4.1 = (-1 : Int32) then
  some (false, (z_wI (z_wI q4.2 56 5 q4.1) 56 6 (-1 : Int32)))
  else
  (F_X7_takeNumber w (z_wI q4.2 56 5 q4.1) (1 : Int32) (24 : Int32)).bind fun q7 =>
  if q7.1 = (-1 : Int32) then
  some (false, (z_wI q7.2 56 6 q7.1))
  else
  some (true, (z_wI q7.2 56 6 q7.1))
set_option maxHeartbeats 4000000 in
theorem A_X10_takeSworn {w : Nat} {M : z_Mem} {r : Bool} {M' : z_Mem} {Q : Option Value → z_Mem → Prop} (h : F_X10_takeSworn w M = some (r, M')) (hq : Q (some (.int (z_tb r))) M') : z_Cl 4 mX10_takeSworn [.ref 58] M Q := by
  refine g_in (ls := [some (.ref 58)]) rfl ?_
  unfold F_X10_takeSworn at h
  refine g_aload_n dX10_takeSworn_0 rfl rfl ?_
  refine g_aload_n dX10_takeSworn_1 rfl rfl ?_
  refine g_get (a := 56) (v := .ref 7) dX10_takeSworn_2 f_10_15 sh_56 rfl rfl ?_
  obtain ⟨q1, e2, h⟩ := z_bd h
  refine g_callV (a := 5) (as := []) (rest := [.ref 58]) (c := mX7_takeSide) (k1 := 3) dX10_takeSworn_5 rfl rfl rfl sh_5 rfl rfl (Nat.le_of_ble_eq_true rfl) (Nat.le_of_ble_eq_true rfl) (by decide) ?_
  refine A_X7_takeSide e2 ?_
  show z_G none 4 mX10_takeSworn 8 [some (.ref 58)] [.int q1.1, .ref 58] q1.2 Q
  refine g_putI (a := 56) dX10_takeSworn_8 f_10_75 sh_56 rfl rfl rfl ?_
  refine g_aload_n dX10_takeSworn_11 rfl rfl ?_
  refine g_aload_n dX10_takeSworn_12 rfl rfl ?_
  refine g_get (a := 56) (v := .int q1.1) dX10_takeSworn_13 f_10_75 sh_56 rfl (by simp [z_fv, z_wI, z_wL, z_wLs, upd, vp_updL]) ?_
  refine g_iconst (v := (-1 : Int32)) dX10_takeSworn_16 (by decide) ?_
  refine g_ic_ne (t := 24) dX10_takeSworn_17 (by decide) (fun c3 => ?_) (fun c3 => ?_)
  · replace h := z_iff c3 h
    refine g_aload_n dX10_takeSworn_24 rfl rfl ?_
    refine g_get (a := 56) (v := .ref 7) dX10_takeSworn_25 f_10_15 sh_56 rfl rfl ?_
    refine g_iconst (v := (1 : Int32)) dX10_takeSworn_28 (by decide) ?_
    refine g_bipush (v := (99 : Int32)) dX10_takeSworn_29 (by decide) ?_
    obtain ⟨q4, e5, h⟩ := z_bd h
    refine g_callV (a := 5) (as := [.int (1 : Int32), .int (99 : Int32)]) (rest := [.ref 58]) (c := mX7_takeNumber) (k1 := 3) dX10_takeSworn_31 rfl rfl rfl sh_5 rfl rfl (Nat.le_of_ble_eq_true rfl) (Nat.le_of_ble_eq_true rfl) (by decide) ?_
    refine A_X7_takeNumber e5 ?_
    show z_G none 4 mX10_takeSworn 34 [some (.ref 58)] [.int q4.1, .ref 58] q4.2 Q
    refine g_putI (a := 56) dX10_takeSworn_34 f_10_78 sh_56 rfl rfl rfl ?_
    refine g_aload_n dX10_takeSworn_37 rfl rfl ?_
    refine g_aload_n dX10_takeSworn_38 rfl rfl ?_
    refine g_get (a := 56) (v := .int q4.1) dX10_takeSworn_39 f_10_78 sh_56 rfl (by simp [z_fv, z_wI, z_wL, z_wLs, upd, vp_updL]) ?_
    refine g_iconst (v := (-1 : Int32)) dX10_takeSworn_42 (by decide) ?_
    refine g_ic_ne (t := 50) dX10_takeSworn_43 (by decide) (fun c6 => ?_) (fun c6 => ?_)
    · replace h := z_iff c6 h
      refine g_aload_n dX10_takeSworn_50 rfl rfl ?_
      refine g_get (a := 56) (v := .ref 7) dX10_takeSworn_51 f_10_15 sh_56 rfl rfl ?_
      refine g_iconst (v := (1 : Int32)) dX10_takeSworn_54 (by decide) ?_
      refine g_bipush (v := (24 : Int32)) dX10_takeSworn_55 (by decide) ?_
      obtain ⟨q7, e8, h⟩ := z_bd h
      refine g_callV (a := 5) (as := [.int (1 : Int32), .int (24 : Int32)]) (rest := [.ref 58]) (c := mX7_takeNumber) (k1 := 3) dX10_takeSworn_57 rfl rfl rfl sh_5 rfl rfl (Nat.le_of_ble_eq_true rfl) (Nat.le_of_ble_eq_true rfl) (by decide) ?_
      refine A_X7_takeNumber e8 ?_
      show z_G none 4 mX10_takeSworn 60 [some (.ref 58)] [.int q7.1, .ref 58] q7.2 Q
      refine g_putI (a := 56) dX10_takeSworn_60 f_10_81 sh_56 rfl rfl rfl ?_
      refine g_aload_n dX10_takeSworn_63 rfl rfl ?_
      refine g_get (a := 56) (v := .int q7.1) dX10_takeSworn_64 f_10_81 sh_56 rfl (by simp [z_fv, z_wI, z_wL, z_wLs, upd, vp_updL]) ?_
      refine g_iconst (v := (-1 : Int32)) dX10_takeSworn_67 (by decide) ?_
      refine g_ic_eq (t := 75) dX10_takeSworn_68 (by decide) (fun c9 => ?_) (fun c9 => ?_)
      · replace h := z_ift c9 h
        refine g_iconst (v := (0 : Int32)) dX10_takeSworn_75 (by decide) ?_
        cases h
        exact g_iret dX10_takeSworn_76 rfl rfl hq
      · replace h := z_iff c9 h
        refine g_iconst (v := (1 : Int32)) dX10_takeSworn_71 (by decide) ?_
        refine g_goto (t := 76) dX10_takeSworn_72 (by decide) ?_
        cases h
        exact g_iret dX10_takeSworn_76 rfl rfl hq
    · replace h := z_ift c6 h
      refine g_iconst (v := (-1 : Int32)) dX10_takeSworn_46 (by decide) ?_
      refine g_goto (t := 60) dX10_takeSworn_47 (by decide) ?_
      refine g_putI (a := 56) dX10_takeSworn_60 f_10_81 sh_56 rfl rfl rfl ?_
      refine g_aload_n dX10_takeSworn_63 rfl rfl ?_
      refine g_get (a := 56) (v := .int (-1 : Int32)) dX10_takeSworn_64 f_10_81 sh_56 rfl (by simp [z_fv, z_wI, z_wL, z_wLs, upd, vp_updL]) ?_
      refine g_iconst (v := (-1 : Int32)) dX10_takeSworn_67 (by decide) ?_
      refine g_ic_eq (t := 75) dX10_takeSworn_68 (by decide) (fun c10 => ?_) (fun c10 => ?_)
      · skip
        refine g_iconst (v := (0 : Int32)) dX10_takeSworn_75 (by decide) ?_
        cases h
        exact g_iret dX10_takeSworn_76 rfl rfl hq
      · exact absurd c10 (by decide)
  · replace h := z_ift c3 h
    refine g_iconst (v := (-1 : Int32)) dX10_takeSworn_20 (by decide) ?_
    refine g_goto (t := 34) dX10_takeSworn_21 (by decide) ?_
    refine g_putI (a := 56) dX10_takeSworn_34 f_10_78 sh_56 rfl rfl rfl ?_
    refine g_aload_n dX10_takeSworn_37 rfl rfl ?_
    refine g_aload_n dX10_takeSworn_38 rfl rfl ?_
    refine g_get (a := 56) (v := .int (-1 : Int32)) dX10_takeSworn_39 f_10_78 sh_56 rfl (by simp [z_fv, z_wI, z_wL, z_wLs, upd, vp_updL]) ?_
    refine g_iconst (v := (-1 : Int32)) dX10_takeSworn_42 (by decide) ?_
    refine g_ic_ne (t := 50) dX10_takeSworn_43 (by decide) (fun c11 => ?_) (fun c11 => ?_)
    · exact absurd c11 (by decide)
    · skip
      refine g_iconst (v := (-1 : Int32)) dX10_takeSworn_46 (by decide) ?_
      refine g_goto (t := 60) dX10_takeSworn_47 (by decide) ?_
      refine g_putI (a := 56) dX10_takeSworn_60 f_10_81 sh_56 rfl rfl rfl ?_
      refine g_aload_n dX10_takeSworn_63 rfl rfl ?_
      refine g_get (a := 56) (v := .int (-1 : Int32)) dX10_takeSworn_64 f_10_81 sh_56 rfl (by simp [z_fv, z_wI, z_wL, z_wLs, upd, vp_updL]) ?_
      refine g_iconst (v := (-1 : Int32)) dX10_takeSworn_67 (by decide) ?_
      refine g_ic_eq (t := 75) dX10_takeSworn_68 (by decide) (fun c12 => ?_) (fun c12 => ?_)
      · skip
        refine g_iconst (v := (0 : Int32)) dX10_takeSworn_75 (by decide) ?_
        cases h
        exact g_iret dX10_takeSworn_76 rfl rfl hq
      · exact absurd c12 (by decide)
theorem dX10_takeNumbers_0 : decode cX10_takeNumbers 0 = .ok (.iload_n 1, 1) := by decide +kernel
theorem dX10_takeNumbers_1 : decode cX10_takeNumbers 1 = .ok (.tableswitch 140 20 27 #[47, 64, 140, 107, 140, 140, 140, 123], 47) := by decide +kernel
theorem dX10_takeNumbers_48 : decode cX10_takeNumbers 48 = .ok (.aload_n 0, 1) := by decide +kernel
theorem dX10_takeNumbers_49 : decode cX10_takeNumbers 49 = .ok (.aload_n 0, 1) := by decide +kernel
theorem dX10_takeNumbers_50 : decode cX10_takeNumbers 50 = .ok (.getfield 15, 3) := by decide +kernel
theorem dX10_takeNumbers_53 : decode cX10_takeNumbers 53 = .ok (.iconst 1, 1) := by decide +kernel
theorem dX10_takeNumbers_54 : decode cX10_takeNumbers 54 = .ok (.bipush 24, 2) := by decide +kernel
theorem dX10_takeNumbers_56 : decode cX10_takeNumbers 56 = .ok (.invokevirtual 93, 3) := by decide +kernel
theorem dX10_takeNumbers_59 : decode cX10_takeNumbers 59 = .ok (.putfield 75, 3) := by decide +kernel
theorem dX10_takeNumbers_62 : decode cX10_takeNumbers 62 = .ok (.goto 79, 3) := by decide +kernel
theorem dX10_takeNumbers_65 : decode cX10_takeNumbers 65 = .ok (.aload_n 0, 1) := by decide +kernel
theorem dX10_takeNumbers_66 : decode cX10_takeNumbers 66 = .ok (.aload_n 0, 1) := by decide +kernel
theorem dX10_takeNumbers_67 : decode cX10_takeNumbers 67 = .ok (.getfield 15, 3) := by decide +kernel
theorem dX10_takeNumbers_70 : decode cX10_takeNumbers 70 = .ok (.iconst 1, 1) := by decide +kernel
theorem dX10_takeNumbers_71 : decode cX10_takeNumbers 71 = .ok (.bipush 20, 2) := by decide +kernel
theorem dX10_takeNumbers_73 : decode cX10_takeNumbers 73 = .ok (.invokevirtual 93, 3) := by decide +kernel
theorem dX10_takeNumbers_76 : decode cX10_takeNumbers 76 = .ok (.putfield 75, 3) := by decide +kernel
theorem dX10_takeNumbers_79 : decode cX10_takeNumbers 79 = .ok (.aload_n 0, 1) := by decide +kernel
theorem dX10_takeNumbers_80 : decode cX10_takeNumbers 80 = .ok (.aload_n 0, 1) := by decide +kernel
theorem dX10_takeNumbers_81 : decode cX10_takeNumbers 81 = .ok (.getfield 75, 3) := by decide +kernel
theorem dX10_takeNumbers_84 : decode cX10_takeNumbers 84 = .ok (.iconst (-1), 1) := by decide +kernel
theorem dX10_takeNumbers_85 : decode cX10_takeNumbers 85 = .ok (.if_icmp .ne 7, 3) := by decide +kernel
theorem dX10_takeNumbers_88 : decode cX10_takeNumbers 88 = .ok (.iconst (-1), 1) := by decide +kernel
theorem dX10_takeNumbers_89 : decode cX10_takeNumbers 89 = .ok (.goto 13, 3) := by decide +kernel
theorem dX10_takeNumbers_92 : decode cX10_takeNumbers 92 = .ok (.aload_n 0, 1) := by decide +kernel
theorem dX10_takeNumbers_93 : decode cX10_takeNumbers 93 = .ok (.getfield 15, 3) := by decide +kernel
theorem dX10_takeNumbers_96 : decode cX10_takeNumbers 96 = .ok (.iconst 1, 1) := by decide +kernel
theorem dX10_takeNumbers_97 : decode cX10_takeNumbers 97 = .ok (.bipush 20, 2) := by decide +kernel
theorem dX10_takeNumbers_99 : decode cX10_takeNumbers 99 = .ok (.invokevirtual 93, 3) := by decide +kernel
theorem dX10_takeNumbers_102 : decode cX10_takeNumbers 102 = .ok (.putfield 78, 3) := by decide +kernel
theorem dX10_takeNumbers_105 : decode cX10_takeNumbers 105 = .ok (.goto 36, 3) := by decide +kernel
theorem dX10_takeNumbers_108 : decode cX10_takeNumbers 108 = .ok (.aload_n 0, 1) := by decide +kernel
theorem dX10_takeNumbers_109 : decode cX10_takeNumbers 109 = .ok (.aload_n 0, 1) := by decide +kernel
theorem dX10_takeNumbers_110 : decode cX10_takeNumbers 110 = .ok (.getfield 15, 3) := by decide +kernel
theorem dX10_takeNumbers_113 : decode cX10_takeNumbers 113 = .ok (.iconst 0, 1) := by decide +kernel
theorem dX10_takeNumbers_114 : decode cX10_takeNumbers 114 = .ok (.iconst 4, 1) := by decide +kernel
theorem dX10_takeNumbers_115 : decode cX10_takeNumbers 115 = .ok (.invokevirtual 93, 3) := by decide +kernel
theorem dX10_takeNumbers_118 : decode cX10_takeNumbers 118 = .ok (.putfield 75, 3) := by decide +kernel
theorem dX10_takeNumbers_121 : decode cX10_takeNumbers 121 = .ok (.goto 20, 3) := by decide +kernel
theorem dX10_takeNumbers_124 : decode cX10_takeNumbers 124 = .ok (.aload_n 0, 1) := by decide +kernel
theorem dX10_takeNumbers_125 : decode cX10_takeNumbers 125 = .ok (.aload_n 0, 1) := by decide +kernel
theorem dX10_takeNumbers_126 : decode cX10_takeNumbers 126 = .ok (.getfield 15, 3) := by decide +kernel
theorem dX10_takeNumbers_129 : decode cX10_takeNumbers 129 = .ok (.iconst 1, 1) := by decide +kernel
theorem dX10_takeNumbers_130 : decode cX10_takeNumbers 130 = .ok (.bipush 99, 2) := by decide +kernel
theorem dX10_takeNumbers_132 : decode cX10_takeNumbers 132 = .ok (.invokevirtual 93, 3) := by decide +kernel
theorem dX10_takeNumbers_135 : decode cX10_takeNumbers 135 = .ok (.putfield 75, 3) := by decide +kernel
theorem dX10_takeNumbers_138 : decode cX10_takeNumbers 138 = .ok (.goto 3, 3) := by decide +kernel
theorem dX10_takeNumbers_141 : decode cX10_takeNumbers 141 = .ok (.aload_n 0, 1) := by decide +kernel
theorem dX10_takeNumbers_142 : decode cX10_takeNumbers 142 = .ok (.getfield 75, 3) := by decide +kernel
theorem dX10_takeNumbers_145 : decode cX10_takeNumbers 145 = .ok (.iconst (-1), 1) := by decide +kernel
theorem dX10_takeNumbers_146 : decode cX10_takeNumbers 146 = .ok (.if_icmp .eq 15, 3) := by decide +kernel
theorem dX10_takeNumbers_149 : decode cX10_takeNumbers 149 = .ok (.aload_n 0, 1) := by decide +kernel
theorem dX10_takeNumbers_150 : decode cX10_takeNumbers 150 = .ok (.getfield 78, 3) := by decide +kernel
theorem dX10_takeNumbers_153 : decode cX10_takeNumbers 153 = .ok (.iconst (-1), 1) := by decide +kernel
theorem dX10_takeNumbers_154 : decode cX10_takeNumbers 154 = .ok (.if_icmp .eq 7, 3) := by decide +kernel
theorem dX10_takeNumbers_157 : decode cX10_takeNumbers 157 = .ok (.iconst 1, 1) := by decide +kernel
theorem dX10_takeNumbers_158 : decode cX10_takeNumbers 158 = .ok (.goto 4, 3) := by decide +kernel
theorem dX10_takeNumbers_161 : decode cX10_takeNumbers 161 = .ok (.iconst 0, 1) := by decide +kernel
theorem dX10_takeNumbers_162 : decode cX10_takeNumbers 162 = .ok (.ireturn, 1) := by decide +kernel
def F_X10_takeNumbers (w : Nat) (M : z_Mem) (a1 : Int32) : Option (Bool × z_Mem) :=
  if a1 = (20 : Int32) then
  (F_X7_takeNumber w M (1 : Int32) (24 : Int32)).bind fun q2 =>
  if q2.1 = (-1 : Int32) then
  some (false, (z_wI q2.2 56 4 q2.1))
  else
  if (q2.2.1 56 5) = (-1 : Int32) then
  some (false, (z_wI q2.2 56 4 q2.1))
  else
  some (true, (z_wI q2.2 56 4 q2.1))
  else
  if a1 = (21 : Int32) then
  (F_X7_takeNumber w M (1 : Int32) (20 : Int32)).bind fun q7 =>
  if q7.1 = (-1 : Int32) then
  if q7.1 = (-1 : Int32) then
  some (false, (z_wI (z_wI q7.2 56 4 q7.1) 56 5 (-1 : Int32)))
  else
  some (false, (z_wI (z_wI q7.2 56 4 q7.1) 56 5 (-1 : Int32)))
  else
  (F_X7_takeNumber w (z_wI q7.2 56 4 q7.1) (1 : Int32) (20 : Int32)).bind fun q10 =>
  if (q10.2.1 56 4) = (-1 : Int32) then
  some (false, (z_wI q10.2 56 5 q10.1))
  else
  if q10.1 = (-1 : Int32) then
  some (false, (z_wI q10.2 56 5 q10.1))
  else
  some (true, (z_wI q10.2 56 5 q10.1))
  else
  if a1 = (22 : Int32) then
  if (M.1 56 4) = (-1 : Int32) then
  some (false, M)
  else
  if (M.1 56 5) = (-1 : Int32) then
  some (false, M)
  else
  some (true, M)
  else
  if a1 = (23 : Int32) then
  (F_X7_takeNumber w M (0 : Int32) (4 : Int32)).bind fun q20 =>
  if q20.1 = (-1 : Int32) then
  some (false, (z_wI q20.2 56 4 q20.1))
  else
  if (q20.2.1 56 5) = (-1 : Int32) then
  some (false, (z_wI q20.2 56 4 q20.1))
  else
  some (true, (z_wI q20.2 56 4 q20.1))
  else
  if a1 = (24 : Int32) then
  if (M.1 56 4) = (-1 : Int32) then
  some (false, M)
  else
  if (M.1 56 5) = (-1 : Int32) then
  some (false, M)
  else
  some (true, M)
  else
  if a1 = (25 : Int32) then
  if (M.1 56 4) = (-1 : Int32) then
  some (false, M)
  else
  if (M.1 56 5) = (-1 : Int32) then
  some (false, M)
  else
  some (true, M)
  else
  if a1 = (26 : Int32) then
  if (M.1 56 4) = (-1 : Int32) then
  some (false, M)
  else
  if (M.1 56 5) = (-1 : Int32) then
  some (false, M)
  else
  some (true, M)
  else
  if a1 = (27 : Int32) then
  (F_X7_takeNumber w M (1 : Int32) (99 : Int32)).bind fun q34 =>
  if q34.1 = (-1 : Int32) then
  some (false, (z_wI q34.2 56 4 q34.1))
  else
  if (q34.2.1 56 5) = (-1 : Int32) then
  some (false, (z_wI q34.2 56 4 q34.1))
  else
  some (true, (z_wI q34.2 56 4 q34.1))
  else
  if (M.1 56 4) = (-1 : Int32) then
  some (false, M)
  else
  if (M.1 56 5) = (-1 : Int32) then
  some (false, M)
  else
  some (true, M)
set_option maxHeartbeats 4000000 in
theorem A_X10_takeNumbers {w : Nat} {M : z_Mem} {a1 : Int32} {r : Bool} {M' : z_Mem} {Q : Option Value → z_Mem → Prop} (h : F_X10_takeNumbers w M a1 = some (r, M')) (hq : Q (some (.int (z_tb r))) M') : z_Cl 4 mX10_takeNumbers [.ref 58, .int a1] M Q := by
  refine g_in (ls := [some (.ref 58), some (.int a1)]) rfl ?_
  unfold F_X10_takeNumbers at h
  refine g_iload_n dX10_takeNumbers_0 rfl rfl ?_
  by_cases s1 : a1 = (20 : Int32)
  · replace h := z_ift s1 h
    refine g_top (v := (20 : Int32)) s1 ?_
    refine g_tsIn (off := 47) (t := 48) dX10_takeNumbers_1 (by decide) (by decide) (by decide) ?_
    refine g_aload_n dX10_takeNumbers_48 rfl rfl ?_
    refine g_aload_n dX10_takeNumbers_49 rfl rfl ?_
    refine g_get (a := 56) (v := .ref 7) dX10_takeNumbers_50 f_10_15 sh_56 rfl rfl ?_
    refine g_iconst (v := (1 : Int32)) dX10_takeNumbers_53 (by decide) ?_
    refine g_bipush (v := (24 : Int32)) dX10_takeNumbers_54 (by decide) ?_
    obtain ⟨q2, e3, h⟩ := z_bd h
    refine g_callV (a := 5) (as := [.int (1 : Int32), .int (24 : Int32)]) (rest := [.ref 58]) (c := mX7_takeNumber) (k1 := 3) dX10_takeNumbers_56 rfl rfl rfl sh_5 rfl rfl (Nat.le_of_ble_eq_true rfl) (Nat.le_of_ble_eq_true rfl) (by decide) ?_
    refine A_X7_takeNumber e3 ?_
    show z_G none 4 mX10_takeNumbers 59 [some (.ref 58), some (.int a1)] [.int q2.1, .ref 58] q2.2 Q
    refine g_putI (a := 56) dX10_takeNumbers_59 f_10_75 sh_56 rfl rfl rfl ?_
    refine g_goto (t := 141) dX10_takeNumbers_62 (by decide) ?_
    refine g_aload_n dX10_takeNumbers_141 rfl rfl ?_
    refine g_get (a := 56) (v := .int q2.1) dX10_takeNumbers_142 f_10_75 sh_56 rfl (by simp [z_fv, z_wI, z_wL, z_wLs, upd, vp_updL]) ?_
    refine g_iconst (v := (-1 : Int32)) dX10_takeNumbers_145 (by decide) ?_
    refine g_ic_eq (t := 161) dX10_takeNumbers_146 (by decide) (fun c4 => ?_) (fun c4 => ?_)
    · replace h := z_ift c4 h
      refine g_iconst (v := (0 : Int32)) dX10_takeNumbers_161 (by decide) ?_
      cases h
      exact g_iret dX10_takeNumbers_162 rfl rfl hq
    · replace h := z_iff c4 h
      refine g_aload_n dX10_takeNumbers_149 rfl rfl ?_
      refine g_get (a := 56) (v := .int (q2.2.1 56 5)) dX10_takeNumbers_150 f_10_78 sh_56 rfl (by simp [z_fv, z_wI, z_wL, z_wLs, upd, vp_updL]) ?_
      refine g_iconst (v := (-1 : Int32)) dX10_takeNumbers_153 (by decide) ?_
      refine g_ic_eq (t := 161) dX10_takeNumbers_154 (by decide) (fun c5 => ?_) (fun c5 => ?_)
      · replace h := z_ift c5 h
        refine g_iconst (v := (0 : Int32)) dX10_takeNumbers_161 (by decide) ?_
        cases h
        exact g_iret dX10_takeNumbers_162 rfl rfl hq
      · replace h := z_iff c5 h
        refine g_iconst (v := (1 : Int32)) dX10_takeNumbers_157 (by decide) ?_
        refine g_goto (t := 162) dX10_takeNumbers_158 (by decide) ?_
        cases h
        exact g_iret dX10_takeNumbers_162 rfl rfl hq
  replace h := z_iff s1 h
  by_cases s6 : a1 = (21 : Int32)
  · replace h := z_ift s6 h
    refine g_top (v := (21 : Int32)) s6 ?_
    refine g_tsIn (off := 64) (t := 65) dX10_takeNumbers_1 (by decide) (by decide) (by decide) ?_
    refine g_aload_n dX10_takeNumbers_65 rfl rfl ?_
    refine g_aload_n dX10_takeNumbers_66 rfl rfl ?_
    refine g_get (a := 56) (v := .ref 7) dX10_takeNumbers_67 f_10_15 sh_56 rfl rfl ?_
    refine g_iconst (v := (1 : Int32)) dX10_takeNumbers_70 (by decide) ?_
    refine g_bipush (v := (20 : Int32)) dX10_takeNumbers_71 (by decide) ?_
    obtain ⟨q7, e8, h⟩ := z_bd h
    refine g_callV (a := 5) (as := [.int (1 : Int32), .int (20 : Int32)]) (rest := [.ref 58]) (c := mX7_takeNumber) (k1 := 3) dX10_takeNumbers_73 rfl rfl rfl sh_5 rfl rfl (Nat.le_of_ble_eq_true rfl) (Nat.le_of_ble_eq_true rfl) (by decide) ?_
    refine A_X7_takeNumber e8 ?_
    show z_G none 4 mX10_takeNumbers 76 [some (.ref 58), some (.int a1)] [.int q7.1, .ref 58] q7.2 Q
    refine g_putI (a := 56) dX10_takeNumbers_76 f_10_75 sh_56 rfl rfl rfl ?_
    refine g_aload_n dX10_takeNumbers_79 rfl rfl ?_
    refine g_aload_n dX10_takeNumbers_80 rfl rfl ?_
    refine g_get (a := 56) (v := .int q7.1) dX10_takeNumbers_81 f_10_75 sh_56 rfl (by simp [z_fv, z_wI, z_wL, z_wLs, upd, vp_updL]) ?_
    refine g_iconst (v := (-1 : Int32)) dX10_takeNumbers_84 (by decide) ?_
    refine g_ic_ne (t := 92) dX10_takeNumbers_85 (by decide) (fun c9 => ?_) (fun c9 => ?_)
    · replace h := z_iff c9 h
      refine g_aload_n dX10_takeNumbers_92 rfl rfl ?_
      refine g_get (a := 56) (v := .ref 7) dX10_takeNumbers_93 f_10_15 sh_56 rfl rfl ?_
      refine g_iconst (v := (1 : Int32)) dX10_takeNumbers_96 (by decide) ?_
      refine g_bipush (v := (20 : Int32)) dX10_takeNumbers_97 (by decide) ?_
      obtain ⟨q10, e11, h⟩ := z_bd h
      refine g_callV (a := 5) (as := [.int (1 : Int32), .int (20 : Int32)]) (rest := [.ref 58]) (c := mX7_takeNumber) (k1 := 3) dX10_takeNumbers_99 rfl rfl rfl sh_5 rfl rfl (Nat.le_of_ble_eq_true rfl) (Nat.le_of_ble_eq_true rfl) (by decide) ?_
      refine A_X7_takeNumber e11 ?_
      show z_G none 4 mX10_takeNumbers 102 [some (.ref 58), some (.int a1)] [.int q10.1, .ref 58] q10.2 Q
      refine g_putI (a := 56) dX10_takeNumbers_102 f_10_78 sh_56 rfl rfl rfl ?_
      refine g_goto (t := 141) dX10_takeNumbers_105 (by decide) ?_
      refine g_aload_n dX10_takeNumbers_141 rfl rfl ?_
      refine g_get (a := 56) (v := .int (q10.2.1 56 4)) dX10_takeNumbers_142 f_10_75 sh_56 rfl (by simp [z_fv, z_wI, z_wL, z_wLs, upd, vp_updL]) ?_
      refine g_iconst (v := (-1 : Int32)) dX10_takeNumbers_145 (by decide) ?_
      refine g_ic_eq (t := 161) dX10_takeNumbers_146 (by decide) (fun c12 => ?_) (fun c12 => ?_)
      · replace h := z_ift c12 h
        refine g_iconst (v := (0 : Int32)) dX10_takeNumbers_161 (by decide) ?_
        cases h
        exact g_iret dX10_takeNumbers_162 rfl rfl hq
      · replace h := z_iff c12 h
        refine g_aload_n dX10_takeNumbers_149 rfl rfl ?_
        refine g_get (a := 56) (v := .int q10.1) dX10_takeNumbers_150 f_10_78 sh_56 rfl (by simp [z_fv, z_wI, z_wL, z_wLs, upd, vp_updL]) ?_
        refine g_iconst (v := (-1 : Int32)) dX10_takeNumbers_153 (by decide) ?_
        refine g_ic_eq (t := 161) dX10_takeNumbers_154 (by decide) (fun c13 => ?_) (fun c13 => ?_)
        · replace h := z_ift c13 h
          refine g_iconst (v := (0 : Int32)) dX10_takeNumbers_161 (by decide) ?_
          cases h
          exact g_iret dX10_takeNumbers_162 rfl rfl hq
        · replace h := z_iff c13 h
          refine g_iconst (v := (1 : Int32)) dX10_takeNumbers_157 (by decide) ?_
          refine g_goto (t := 162) dX10_takeNumbers_158 (by decide) ?_
          cases h
          exact g_iret dX10_takeNumbers_162 rfl rfl hq
    · replace h := z_ift c9 h
      refine g_iconst (v := (-1 : Int32)) dX10_takeNumbers_88 (by decide) ?_
      refine g_goto (t := 102) dX10_takeNumbers_89 (by decide) ?_
      refine g_putI (a := 56) dX10_takeNumbers_102 f_10_78 sh_56 rfl rfl rfl ?_
      refine g_goto (t := 141) dX10_takeNumbers_105 (by decide) ?_
      refine g_aload_n dX10_takeNumbers_141 rfl rfl ?_
      refine g_get (a := 56) (v := .int q7.1) dX10_takeNumbers_142 f_10_75 sh_56 rfl (by simp [z_fv, z_wI, z_wL, z_wLs, upd, vp_updL]) ?_
      refine g_iconst (v := (-1 : Int32)) dX10_takeNumbers_145 (by decide) ?_
      refine g_ic_eq (t := 161) dX10_takeNumbers_146 (by decide) (fun c14 => ?_) (fun c14 => ?_)
      · replace h := z_ift c14 h
        refine g_iconst (v := (0 : Int32)) dX10_takeNumbers_161 (by decide) ?_
        cases h
        exact g_iret dX10_takeNumbers_162 rfl rfl hq
      · replace h := z_iff c14 h
        refine g_aload_n dX10_takeNumbers_149 rfl rfl ?_
        refine g_get (a := 56) (v := .int (-1 : Int32)) dX10_takeNumbers_150 f_10_78 sh_56 rfl (by simp [z_fv, z_wI, z_wL, z_wLs, upd, vp_updL]) ?_
        refine g_iconst (v := (-1 : Int32)) dX10_takeNumbers_153 (by decide) ?_
        refine g_ic_eq (t := 161) dX10_takeNumbers_154 (by decide) (fun c15 => ?_) (fun c15 => ?_)
        · skip
          refine g_iconst (v := (0 : Int32)) dX10_takeNumbers_161 (by decide) ?_
          cases h
          exact g_iret dX10_takeNumbers_162 rfl rfl hq
        · exact absurd c15 (by decide)
  replace h := z_iff s6 h
  by_cases s16 : a1 = (22 : Int32)
  · replace h := z_ift s16 h
    refine g_top (v := (22 : Int32)) s16 ?_
    refine g_tsIn (off := 140) (t := 141) dX10_takeNumbers_1 (by decide) (by decide) (by decide) ?_
    refine g_aload_n dX10_takeNumbers_141 rfl rfl ?_
    refine g_get (a := 56) (v := .int (M.1 56 4)) dX10_takeNumbers_142 f_10_75 sh_56 rfl rfl ?_
    refine g_iconst (v := (-1 : Int32)) dX10_takeNumbers_145 (by decide) ?_
    refine g_ic_eq (t := 161) dX10_takeNumbers_146 (by decide) (fun c17 => ?_) (fun c17 => ?_)
    · replace h := z_ift c17 h
      refine g_iconst (v := (0 : Int32)) dX10_takeNumbers_161 (by decide) ?_
      cases h
      exact g_iret dX10_takeNumbers_162 rfl rfl hq
    · replace h := z_iff c17 h
      refine g_aload_n dX10_takeNumbers_149 rfl rfl ?_
      refine g_get (a := 56) (v := .int (M.1 56 5)) dX10_takeNumbers_150 f_10_78 sh_56 rfl rfl ?_
      refine g_iconst (v := (-1 : Int32)) dX10_takeNumbers_153 (by decide) ?_
      refine g_ic_eq (t := 161) dX10_takeNumbers_154 (by decide) (fun c18 => ?_) (fun c18 => ?_)
      · replace h := z_ift c18 h
        refine g_iconst (v := (0 : Int32)) dX10_takeNumbers_161 (by decide) ?_
        cases h
        exact g_iret dX10_takeNumbers_162 rfl rfl hq
      · replace h := z_iff c18 h
        refine g_iconst (v := (1 : Int32)) dX10_takeNumbers_157 (by decide) ?_
        refine g_goto (t := 162) dX10_takeNumbers_158 (by decide) ?_
        cases h
        exact g_iret dX10_takeNumbers_162 rfl rfl hq
  replace h := z_iff s16 h
  by_cases s19 : a1 = (23 : Int32)
  · replace h := z_ift s19 h
    refine g_top (v := (23 : Int32)) s19 ?_
    refine g_tsIn (off := 107) (t := 108) dX10_takeNumbers_1 (by decide) (by decide) (by decide) ?_
    refine g_aload_n dX10_takeNumbers_108 rfl rfl ?_
    refine g_aload_n dX10_takeNumbers_109 rfl rfl ?_
    refine g_get (a := 56) (v := .ref 7) dX10_takeNumbers_110 f_10_15 sh_56 rfl rfl ?_
    refine g_iconst (v := (0 : Int32)) dX10_takeNumbers_113 (by decide) ?_
    refine g_iconst (v := (4 : Int32)) dX10_takeNumbers_114 (by decide) ?_
    obtain ⟨q20, e21, h⟩ := z_bd h
    refine g_callV (a := 5) (as := [.int (0 : Int32), .int (4 : Int32)]) (rest := [.ref 58]) (c := mX7_takeNumber) (k1 := 3) dX10_takeNumbers_115 rfl rfl rfl sh_5 rfl rfl (Nat.le_of_ble_eq_true rfl) (Nat.le_of_ble_eq_true rfl) (by decide) ?_
    refine A_X7_takeNumber e21 ?_
    show z_G none 4 mX10_takeNumbers 118 [some (.ref 58), some (.int a1)] [.int q20.1, .ref 58] q20.2 Q
    refine g_putI (a := 56) dX10_takeNumbers_118 f_10_75 sh_56 rfl rfl rfl ?_
    refine g_goto (t := 141) dX10_takeNumbers_121 (by decide) ?_
    refine g_aload_n dX10_takeNumbers_141 rfl rfl ?_
    refine g_get (a := 56) (v := .int q20.1) dX10_takeNumbers_142 f_10_75 sh_56 rfl (by simp [z_fv, z_wI, z_wL, z_wLs, upd, vp_updL]) ?_
    refine g_iconst (v := (-1 : Int32)) dX10_takeNumbers_145 (by decide) ?_
    refine g_ic_eq (t := 161) dX10_takeNumbers_146 (by decide) (fun c22 => ?_) (fun c22 => ?_)
    · replace h := z_ift c22 h
      refine g_iconst (v := (0 : Int32)) dX10_takeNumbers_161 (by decide) ?_
      cases h
      exact g_iret dX10_takeNumbers_162 rfl rfl hq
    · replace h := z_iff c22 h
      refine g_aload_n dX10_takeNumbers_149 rfl rfl ?_
      refine g_get (a := 56) (v := .int (q20.2.1 56 5)) dX10_takeNumbers_150 f_10_78 sh_56 rfl (by simp [z_fv, z_wI, z_wL, z_wLs, upd, vp_updL]) ?_
      refine g_iconst (v := (-1 : Int32)) dX10_takeNumbers_153 (by decide) ?_
      refine g_ic_eq (t := 161) dX10_takeNumbers_154 (by decide) (fun c23 => ?_) (fun c23 => ?_)
      · replace h := z_ift c23 h
        refine g_iconst (v := (0 : Int32)) dX10_takeNumbers_161 (by decide) ?_
        cases h
        exact g_iret dX10_takeNumbers_162 rfl rfl hq
      · replace h := z_iff c23 h
        refine g_iconst (v := (1 : Int32)) dX10_takeNumbers_157 (by decide) ?_
        refine g_goto (t := 162) dX10_takeNumbers_158 (by decide) ?_
        cases h
        exact g_iret dX10_takeNumbers_162 rfl rfl hq
  replace h := z_iff s19 h
  by_cases s24 : a1 = (24 : Int32)
  · replace h := z_ift s24 h
    refine g_top (v := (24 : Int32)) s24 ?_
    refine g_tsIn (off := 140) (t := 141) dX10_takeNumbers_1 (by decide) (by decide) (by decide) ?_
    refine g_aload_n dX10_takeNumbers_141 rfl rfl ?_
    refine g_get (a := 56) (v := .int (M.1 56 4)) dX10_takeNumbers_142 f_10_75 sh_56 rfl rfl ?_
    refine g_iconst (v := (-1 : Int32)) dX10_takeNumbers_145 (by decide) ?_
    refine g_ic_eq (t := 161) dX10_takeNumbers_146 (by decide) (fun c25 => ?_) (fun c25 => ?_)
    · replace h := z_ift c25 h
      refine g_iconst (v := (0 : Int32)) dX10_takeNumbers_161 (by decide) ?_
      cases h
      exact g_iret dX10_takeNumbers_162 rfl rfl hq
    · replace h := z_iff c25 h
      refine g_aload_n dX10_takeNumbers_149 rfl rfl ?_
      refine g_get (a := 56) (v := .int (M.1 56 5)) dX10_takeNumbers_150 f_10_78 sh_56 rfl rfl ?_
      refine g_iconst (v := (-1 : Int32)) dX10_takeNumbers_153 (by decide) ?_
      refine g_ic_eq (t := 161) dX10_takeNumbers_154 (by decide) (fun c26 => ?_) (fun c26 => ?_)
      · replace h := z_ift c26 h
        refine g_iconst (v := (0 : Int32)) dX10_takeNumbers_161 (by decide) ?_
        cases h
        exact g_iret dX10_takeNumbers_162 rfl rfl hq
      · replace h := z_iff c26 h
        refine g_iconst (v := (1 : Int32)) dX10_takeNumbers_157 (by decide) ?_
        refine g_goto (t := 162) dX10_takeNumbers_158 (by decide) ?_
        cases h
        exact g_iret dX10_takeNumbers_162 rfl rfl hq
  replace h := z_iff s24 h
  by_cases s27 : a1 = (25 : Int32)
  · replace h := z_ift s27 h
    refine g_top (v := (25 : Int32)) s27 ?_
    refine g_tsIn (off := 140) (t := 141) dX10_takeNumbers_1 (by decide) (by decide) (by decide) ?_
    refine g_aload_n dX10_takeNumbers_141 rfl rfl ?_
    refine g_get (a := 56) (v := .int (M.1 56 4)) dX10_takeNumbers_142 f_10_75 sh_56 rfl rfl ?_
    refine g_iconst (v := (-1 : Int32)) dX10_takeNumbers_145 (by decide) ?_
    refine g_ic_eq (t := 161) dX10_takeNumbers_146 (by decide) (fun c28 => ?_) (fun c28 => ?_)
    · replace h := z_ift c28 h
      refine g_iconst (v := (0 : Int32)) dX10_takeNumbers_161 (by decide) ?_
      cases h
      exact g_iret dX10_takeNumbers_162 rfl rfl hq
    · replace h := z_iff c28 h
      refine g_aload_n dX10_takeNumbers_149 rfl rfl ?_
      refine g_get (a := 56) (v := .int (M.1 56 5)) dX10_takeNumbers_150 f_10_78 sh_56 rfl rfl ?_
      refine g_iconst (v := (-1 : Int32)) dX10_takeNumbers_153 (by decide) ?_
      refine g_ic_eq (t := 161) dX10_takeNumbers_154 (by decide) (fun c29 => ?_) (fun c29 => ?_)
      · replace h := z_ift c29 h
        refine g_iconst (v := (0 : Int32)) dX10_takeNumbers_161 (by decide) ?_
        cases h
        exact g_iret dX10_takeNumbers_162 rfl rfl hq
      · replace h := z_iff c29 h
        refine g_iconst (v := (1 : Int32)) dX10_takeNumbers_157 (by decide) ?_
        refine g_goto (t := 162) dX10_takeNumbers_158 (by decide) ?_
        cases h
        exact g_iret dX10_takeNumbers_162 rfl rfl hq
  replace h := z_iff s27 h
  by_cases s30 : a1 = (26 : Int32)
  · replace h := z_ift s30 h
    refine g_top (v := (26 : Int32)) s30 ?_
    refine g_tsIn (off := 140) (t := 141) dX10_takeNumbers_1 (by decide) (by decide) (by decide) ?_
    refine g_aload_n dX10_takeNumbers_141 rfl rfl ?_
    refine g_get (a := 56) (v := .int (M.1 56 4)) dX10_takeNumbers_142 f_10_75 sh_56 rfl rfl ?_
    refine g_iconst (v := (-1 : Int32)) dX10_takeNumbers_145 (by decide) ?_
    refine g_ic_eq (t := 161) dX10_takeNumbers_146 (by decide) (fun c31 => ?_) (fun c31 => ?_)
    · replace h := z_ift c31 h
      refine g_iconst (v := (0 : Int32)) dX10_takeNumbers_161 (by decide) ?_
      cases h
      exact g_iret dX10_takeNumbers_162 rfl rfl hq
    · replace h := z_iff c31 h
      refine g_aload_n dX10_takeNumbers_149 rfl rfl ?_
      refine g_get (a := 56) (v := .int (M.1 56 5)) dX10_takeNumbers_150 f_10_78 sh_56 rfl rfl ?_
      refine g_iconst (v := (-1 : Int32)) dX10_takeNumbers_153 (by decide) ?_
      refine g_ic_eq (t := 161) dX10_takeNumbers_154 (by decide) (fun c32 => ?_) (fun c32 => ?_)
      · replace h := z_ift c32 h
        refine g_iconst (v := (0 : Int32)) dX10_takeNumbers_161 (by decide) ?_
        cases h
        exact g_iret dX10_takeNumbers_162 rfl rfl hq
      · replace h := z_iff c32 h
        refine g_iconst (v := (1 : Int32)) dX10_takeNumbers_157 (by decide) ?_
        refine g_goto (t := 162) dX10_takeNumbers_158 (by decide) ?_
        cases h
        exact g_iret dX10_takeNumbers_162 rfl rfl hq
  replace h := z_iff s30 h
  by_cases s33 : a1 = (27 : Int32)
  · replace h := z_ift s33 h
    refine g_top (v := (27 : Int32)) s33 ?_
    refine g_tsIn (off := 123) (t := 124) dX10_takeNumbers_1 (by decide) (by decide) (by decide) ?_
    refine g_aload_n dX10_takeNumbers_124 rfl rfl ?_
    refine g_aload_n dX10_takeNumbers_125 rfl rfl ?_
    refine g_get (a := 56) (v := .ref 7) dX10_takeNumbers_126 f_10_15 sh_56 rfl rfl ?_
    refine g_iconst (v := (1 : Int32)) dX10_takeNumbers_129 (by decide) ?_
    refine g_bipush (v := (99 : Int32)) dX10_takeNumbers_130 (by decide) ?_
    obtain ⟨q34, e35, h⟩ := z_bd h
    refine g_callV (a := 5) (as := [.int (1 : Int32), .int (99 : Int32)]) (rest := [.ref 58]) (c := mX7_takeNumber) (k1 := 3) dX10_takeNumbers_132 rfl rfl rfl sh_5 rfl rfl (Nat.le_of_ble_eq_true rfl) (Nat.le_of_ble_eq_true rfl) (by decide) ?_
    refine A_X7_takeNumber e35 ?_
    show z_G none 4 mX10_takeNumbers 135 [some (.ref 58), some (.int a1)] [.int q34.1, .ref 58] q34.2 Q
    refine g_putI (a := 56) dX10_takeNumbers_135 f_10_75 sh_56 rfl rfl rfl ?_
    refine g_goto (t := 141) dX10_takeNumbers_138 (by decide) ?_
    refine g_aload_n dX10_takeNumbers_141 rfl rfl ?_
    refine g_get (a := 56) (v := .int q34.1) dX10_takeNumbers_142 f_10_75 sh_56 rfl (by simp [z_fv, z_wI, z_wL, z_wLs, upd, vp_updL]) ?_
    refine g_iconst (v := (-1 : Int32)) dX10_takeNumbers_145 (by decide) ?_
    refine g_ic_eq (t := 161) dX10_takeNumbers_146 (by decide) (fun c36 => ?_) (fun c36 => ?_)
    · replace h := z_ift c36 h
      refine g_iconst (v := (0 : Int32)) dX10_takeNumbers_161 (by decide) ?_
      cases h
      exact g_iret dX10_takeNumbers_162 rfl rfl hq
    · replace h := z_iff c36 h
      refine g_aload_n dX10_takeNumbers_149 rfl rfl ?_
      refine g_get (a := 56) (v := .int (q34.2.1 56 5)) dX10_takeNumbers_150 f_10_78 sh_56 rfl (by simp [z_fv, z_wI, z_wL, z_wLs, upd, vp_updL]) ?_
      refine g_iconst (v := (-1 : Int32)) dX10_takeNumbers_153 (by decide) ?_
      refine g_ic_eq (t := 161) dX10_takeNumbers_154 (by decide) (fun c37 => ?_) (fun c37 => ?_)
      · replace h := z_ift c37 h
        refine g_iconst (v := (0 : Int32)) dX10_takeNumbers_161 (by decide) ?_
        cases h
        exact g_iret dX10_takeNumbers_162 rfl rfl hq
      · replace h := z_iff c37 h
        refine g_iconst (v := (1 : Int32)) dX10_takeNumbers_157 (by decide) ?_
        refine g_goto (t := 162) dX10_takeNumbers_158 (by decide) ?_
        cases h
        exact g_iret dX10_takeNumbers_162 rfl rfl hq
  replace h := z_iff s33 h
  refine g_tsOut (t := 141) dX10_takeNumbers_1 (by have t0 := z_neL (n := 20) (by decide) s1; have t1 := z_neL (n := 21) (by decide) s6; have t2 := z_neL (n := 22) (by decide) s16; have t3 := z_neL (n := 23) (by decide) s19; have t4 := z_neL (n := 24) (by decide) s24; have t5 := z_neL (n := 25) (by decide) s27; have t6 := z_neL (n := 26) (by decide) s30; have t7 := z_neL (n := 27) (by decide) s33; omega) (by decide) ?_
  refine g_aload_n dX10_takeNumbers_141 rfl rfl ?_
  refine g_get (a := 56) (v := .int (M.1 56 4)) dX10_takeNumbers_142 f_10_75 sh_56 rfl rfl ?_
  refine g_iconst (v := (-1 : Int32)) dX10_takeNumbers_145 (by decide) ?_
  refine g_ic_eq (t := 161) dX10_takeNumbers_146 (by decide) (fun c38 => ?_) (fun c38 => ?_)
  · replace h := z_ift c38 h
    refine g_iconst (v := (0 : Int32)) dX10_takeNumbers_161 (by decide) ?_
    cases h
    exact g_iret dX10_takeNumbers_162 rfl rfl hq
  · replace h := z_iff c38 h
    refine g_aload_n dX10_takeNumbers_149 rfl rfl ?_
    refine g_get (a := 56) (v := .int (M.1 56 5)) dX10_takeNumbers_150 f_10_78 sh_56 rfl rfl ?_
    refine g_iconst (v := (-1 : Int32)) dX10_takeNumbers_153 (by decide) ?_
    refine g_ic_eq (t := 161) dX10_takeNumbers_154 (by decide) (fun c39 => ?_) (fun c39 => ?_)
    · replace h := z_ift c39 h
      refine g_iconst (v := (0 : Int32)) dX10_takeNumbers_161 (by decide) ?_
      cases h
      exact g_iret dX10_takeNumbers_162 rfl rfl hq
    · replace h := z_iff c39 h
      refine g_iconst (v := (1 : Int32)) dX10_takeNumbers_157 (by decide) ?_
      refine g_goto (t := 162) dX10_takeNumbers_158 (by decide) ?_
      cases h
      exact g_iret dX10_takeNumbers_162 rfl rfl hq
theorem dX10_readStep_0 : decode cX10_readStep 0 = .ok (.aload_n 0, 1) := by decide +kernel
theorem dX10_readStep_1 : decode cX10_readStep 1 = .ok (.getfield 15, 3) := by decide +kernel
theorem dX10_readStep_4 : decode cX10_readStep 4 = .ok (.getfield 37, 3) := by decide +kernel
theorem dX10_readStep_7 : decode cX10_readStep 7 = .ok (.istore_n 1, 1) := by decide +kernel
theorem dX10_readStep_8 : decode cX10_readStep 8 = .ok (.iload_n 1, 1) := by decide +kernel
theorem dX10_readStep_9 : decode cX10_readStep 9 = .ok (.bipush 20, 2) := by decide +kernel
theorem dX10_readStep_11 : decode cX10_readStep 11 = .ok (.if_icmp .lt 19, 3) := by decide +kernel
theorem dX10_readStep_14 : decode cX10_readStep 14 = .ok (.iload_n 1, 1) := by decide +kernel
theorem dX10_readStep_15 : decode cX10_readStep 15 = .ok (.bipush 29, 2) := by decide +kernel
theorem dX10_readStep_17 : decode cX10_readStep 17 = .ok (.if_icmp .gt 13, 3) := by decide +kernel
theorem dX10_readStep_20 : decode cX10_readStep 20 = .ok (.iload_n 1, 1) := by decide +kernel
theorem dX10_readStep_21 : decode cX10_readStep 21 = .ok (.bipush 26, 2) := by decide +kernel
theorem dX10_readStep_23 : decode cX10_readStep 23 = .ok (.if_icmp .eq 7, 3) := by decide +kernel
theorem dX10_readStep_26 : decode cX10_readStep 26 = .ok (.iconst 1, 1) := by decide +kernel
theorem dX10_readStep_27 : decode cX10_readStep 27 = .ok (.goto 4, 3) := by decide +kernel
theorem dX10_readStep_30 : decode cX10_readStep 30 = .ok (.iconst 0, 1) := by decide +kernel
theorem dX10_readStep_31 : decode cX10_readStep 31 = .ok (.istore_n 2, 1) := by decide +kernel
theorem dX10_readStep_32 : decode cX10_readStep 32 = .ok (.iload_n 1, 1) := by decide +kernel
theorem dX10_readStep_33 : decode cX10_readStep 33 = .ok (.bipush 25, 2) := by decide +kernel
theorem dX10_readStep_35 : decode cX10_readStep 35 = .ok (.if_icmp .eq 9, 3) := by decide +kernel
theorem dX10_readStep_38 : decode cX10_readStep 38 = .ok (.iload_n 1, 1) := by decide +kernel
theorem dX10_readStep_39 : decode cX10_readStep 39 = .ok (.bipush 27, 2) := by decide +kernel
theorem dX10_readStep_41 : decode cX10_readStep 41 = .ok (.if_icmp .ne 7, 3) := by decide +kernel
theorem dX10_readStep_44 : decode cX10_readStep 44 = .ok (.iconst 1, 1) := by decide +kernel
theorem dX10_readStep_45 : decode cX10_readStep 45 = .ok (.goto 4, 3) := by decide +kernel
theorem dX10_readStep_48 : decode cX10_readStep 48 = .ok (.iconst 0, 1) := by decide +kernel
theorem dX10_readStep_49 : decode cX10_readStep 49 = .ok (.istore_n 3, 1) := by decide +kernel
theorem dX10_readStep_50 : decode cX10_readStep 50 = .ok (.iload_n 2, 1) := by decide +kernel
theorem dX10_readStep_51 : decode cX10_readStep 51 = .ok (.ifCond .ne 12, 3) := by decide +kernel
theorem dX10_readStep_54 : decode cX10_readStep 54 = .ok (.aload_n 0, 1) := by decide +kernel
theorem dX10_readStep_55 : decode cX10_readStep 55 = .ok (.getfield 15, 3) := by decide +kernel
theorem dX10_readStep_58 : decode cX10_readStep 58 = .ok (.iconst 2, 1) := by decide +kernel
theorem dX10_readStep_59 : decode cX10_readStep 59 = .ok (.invokevirtual 47, 3) := by decide +kernel
theorem dX10_readStep_62 : decode cX10_readStep 62 = .ok (.ireturn, 1) := by decide +kernel
theorem dX10_readStep_63 : decode cX10_readStep 63 = .ok (.aload_n 0, 1) := by decide +kernel
theorem dX10_readStep_64 : decode cX10_readStep 64 = .ok (.getfield 19, 3) := by decide +kernel
theorem dX10_readStep_67 : decode cX10_readStep 67 = .ok (.getfield 72, 3) := by decide +kernel
theorem dX10_readStep_70 : decode cX10_readStep 70 = .ok (.bipush 30, 2) := by decide +kernel
theorem dX10_readStep_72 : decode cX10_readStep 72 = .ok (.if_icmp .lt 13, 3) := by decide +kernel
theorem dX10_readStep_75 : decode cX10_readStep 75 = .ok (.aload_n 0, 1) := by decide +kernel
theorem dX10_readStep_76 : decode cX10_readStep 76 = .ok (.getfield 15, 3) := by decide +kernel
theorem dX10_readStep_79 : decode cX10_readStep 79 = .ok (.bipush 6, 2) := by decide +kernel
theorem dX10_readStep_81 : decode cX10_readStep 81 = .ok (.invokevirtual 47, 3) := by decide +kernel
theorem dX10_readStep_84 : decode cX10_readStep 84 = .ok (.ireturn, 1) := by decide +kernel
theorem dX10_readStep_85 : decode cX10_readStep 85 = .ok (.iload_n 3, 1) := by decide +kernel
theorem dX10_readStep_86 : decode cX10_readStep 86 = .ok (.ifCond .eq 21, 3) := by decide +kernel
theorem dX10_readStep_89 : decode cX10_readStep 89 = .ok (.aload_n 0, 1) := by decide +kernel
theorem dX10_readStep_90 : decode cX10_readStep 90 = .ok (.getfield 28, 3) := by decide +kernel
theorem dX10_readStep_93 : decode cX10_readStep 93 = .ok (.iconst 3, 1) := by decide +kernel
theorem dX10_readStep_94 : decode cX10_readStep 94 = .ok (.if_icmp .lt 13, 3) := by decide +kernel
theorem dX10_readStep_97 : decode cX10_readStep 97 = .ok (.aload_n 0, 1) := by decide +kernel
theorem dX10_readStep_98 : decode cX10_readStep 98 = .ok (.getfield 15, 3) := by decide +kernel
theorem dX10_readStep_101 : decode cX10_readStep 101 = .ok (.bipush 7, 2) := by decide +kernel
theorem dX10_readStep_103 : decode cX10_readStep 103 = .ok (.invokevirtual 47, 3) := by decide +kernel
theorem dX10_readStep_106 : decode cX10_readStep 106 = .ok (.ireturn, 1) := by decide +kernel
theorem dX10_readStep_107 : decode cX10_readStep 107 = .ok (.aload_n 0, 1) := by decide +kernel
theorem dX10_readStep_108 : decode cX10_readStep 108 = .ok (.getfield 15, 3) := by decide +kernel
theorem dX10_readStep_111 : decode cX10_readStep 111 = .ok (.invokevirtual 55, 3) := by decide +kernel
theorem dX10_readStep_114 : decode cX10_readStep 114 = .ok (.aload_n 0, 1) := by decide +kernel
theorem dX10_readStep_115 : decode cX10_readStep 115 = .ok (.iconst 0, 1) := by decide +kernel
theorem dX10_readStep_116 : decode cX10_readStep 116 = .ok (.putfield 75, 3) := by decide +kernel
theorem dX10_readStep_119 : decode cX10_readStep 119 = .ok (.aload_n 0, 1) := by decide +kernel
theorem dX10_readStep_120 : decode cX10_readStep 120 = .ok (.iconst 0, 1) := by decide +kernel
theorem dX10_readStep_121 : decode cX10_readStep 121 = .ok (.putfield 78, 3) := by decide +kernel
theorem dX10_readStep_124 : decode cX10_readStep 124 = .ok (.aload_n 0, 1) := by decide +kernel
theorem dX10_readStep_125 : decode cX10_readStep 125 = .ok (.iconst 0, 1) := by decide +kernel
theorem dX10_readStep_126 : decode cX10_readStep 126 = .ok (.putfield 81, 3) := by decide +kernel
theorem dX10_readStep_129 : decode cX10_readStep 129 = .ok (.iload_n 1, 1) := by decide +kernel
theorem dX10_readStep_130 : decode cX10_readStep 130 = .ok (.bipush 25, 2) := by decide +kernel
theorem dX10_readStep_132 : decode cX10_readStep 132 = .ok (.if_icmp .ne 10, 3) := by decide +kernel
theorem dX10_readStep_135 : decode cX10_readStep 135 = .ok (.aload_n 0, 1) := by decide +kernel
theorem dX10_readStep_136 : decode cX10_readStep 136 = .ok (.invokevirtual 84, 3) := by decide +kernel
theorem dX10_readStep_139 : decode cX10_readStep 139 = .ok (.goto 21, 3) := by decide +kernel
theorem dX10_readStep_142 : decode cX10_readStep 142 = .ok (.iload_n 1, 1) := by decide +kernel
theorem dX10_readStep_143 : decode cX10_readStep 143 = .ok (.bipush 22, 2) := by decide +kernel
theorem dX10_readStep_145 : decode cX10_readStep 145 = .ok (.if_icmp .ne 10, 3) := by decide +kernel
theorem dX10_readStep_148 : decode cX10_readStep 148 = .ok (.aload_n 0, 1) := by decide +kernel
theorem dX10_readStep_149 : decode cX10_readStep 149 = .ok (.invokevirtual 87, 3) := by decide +kernel
theorem dX10_readStep_152 : decode cX10_readStep 152 = .ok (.goto 8, 3) := by decide +kernel
theorem dX10_readStep_155 : decode cX10_readStep 155 = .ok (.aload_n 0, 1) := by decide +kernel
theorem dX10_readStep_156 : decode cX10_readStep 156 = .ok (.iload_n 1, 1) := by decide +kernel
theorem dX10_readStep_157 : decode cX10_readStep 157 = .ok (.invokevirtual 90, 3) := by decide +kernel
theorem dX10_readStep_160 : decode cX10_readStep 160 = .ok (.istore 4, 2) := by decide +kernel
theorem dX10_readStep_162 : decode cX10_readStep 162 = .ok (.iload 4, 2) := by decide +kernel
theorem dX10_readStep_164 : decode cX10_readStep 164 = .ok (.ifCond .eq 42, 3) := by decide +kernel
theorem dX10_readStep_167 : decode cX10_readStep 167 = .ok (.aload_n 0, 1) := by decide +kernel
theorem dX10_readStep_168 : decode cX10_readStep 168 = .ok (.getfield 15, 3) := by decide +kernel
theorem dX10_readStep_171 : decode cX10_readStep 171 = .ok (.bipush 33, 2) := by decide +kernel
theorem dX10_readStep_173 : decode cX10_readStep 173 = .ok (.invokevirtual 58, 3) := by decide +kernel
theorem dX10_readStep_176 : decode cX10_readStep 176 = .ok (.ifCond .eq 30, 3) := by decide +kernel
theorem dX10_readStep_179 : decode cX10_readStep 179 = .ok (.aload_n 0, 1) := by decide +kernel
theorem dX10_readStep_180 : decode cX10_readStep 180 = .ok (.getfield 19, 3) := by decide +kernel
theorem dX10_readStep_183 : decode cX10_readStep 183 = .ok (.iload_n 1, 1) := by decide +kernel
theorem dX10_readStep_184 : decode cX10_readStep 184 = .ok (.aload_n 0, 1) := by decide +kernel
theorem dX10_readStep_185 : decode cX10_readStep 185 = .ok (.getfield 75, 3) := by decide +kernel
theorem dX10_readStep_188 : decode cX10_readStep 188 = .ok (.aload_n 0, 1) := by decide +kernel
theorem dX10_readStep_189 : decode cX10_readStep 189 = .ok (.getfield 78, 3) := by decide +kernel
theorem dX10_readStep_192 : decode cX10_readStep 192 = .ok (.aload_n 0, 1) := by decide +kernel
theorem dX10_readStep_193 : decode cX10_readStep 193 = .ok (.getfield 81, 3) := by decide +kernel
theorem dX10_readStep_196 : decode cX10_readStep 196 = .ok (.invokevirtual 61, 3) := by decide +kernel
theorem dX10_readStep_199 : decode cX10_readStep 199 = .ok (.ifCond .eq 7, 3) := by decide +kernel
theorem dX10_readStep_202 : decode cX10_readStep 202 = .ok (.iconst 1, 1) := by decide +kernel
theorem dX10_readStep_203 : decode cX10_readStep 203 = .ok (.goto 4, 3) := by decide +kernel
theorem dX10_readStep_206 : decode cX10_readStep 206 = .ok (.iconst 0, 1) := by decide +kernel
theorem dX10_readStep_207 : decode cX10_readStep 207 = .ok (.istore 5, 2) := by decide +kernel
theorem dX10_readStep_209 : decode cX10_readStep 209 = .ok (.iload 5, 2) := by decide +kernel
theorem dX10_readStep_211 : decode cX10_readStep 211 = .ok (.ifCond .eq 35, 3) := by decide +kernel
theorem dX10_readStep_214 : decode cX10_readStep 214 = .ok (.iload_n 3, 1) := by decide +kernel
theorem dX10_readStep_215 : decode cX10_readStep 215 = .ok (.ifCond .eq 31, 3) := by decide +kernel
theorem dX10_readStep_218 : decode cX10_readStep 218 = .ok (.aload_n 0, 1) := by decide +kernel
theorem dX10_readStep_219 : decode cX10_readStep 219 = .ok (.getfield 11, 3) := by decide +kernel
theorem dX10_readStep_222 : decode cX10_readStep 222 = .ok (.aload_n 0, 1) := by decide +kernel
theorem dX10_readStep_223 : decode cX10_readStep 223 = .ok (.getfield 28, 3) := by decide +kernel
theorem dX10_readStep_226 : decode cX10_readStep 226 = .ok (.aload_n 0, 1) := by decide +kernel
theorem dX10_readStep_227 : decode cX10_readStep 227 = .ok (.getfield 19, 3) := by decide +kernel
theorem dX10_readStep_230 : decode cX10_readStep 230 = .ok (.getfield 65, 3) := by decide +kernel
theorem dX10_readStep_233 : decode cX10_readStep 233 = .ok (.iconst 1, 1) := by decide +kernel
theorem dX10_readStep_234 : decode cX10_readStep 234 = .ok (.isub, 1) := by decide +kernel
theorem dX10_readStep_235 : decode cX10_readStep 235 = .ok (.iastore, 1) := by decide +kernel
theorem dX10_readStep_236 : decode cX10_readStep 236 = .ok (.aload_n 0, 1) := by decide +kernel
theorem dX10_readStep_237 : decode cX10_readStep 237 = .ok (.dup, 1) := by decide +kernel
theorem dX10_readStep_238 : decode cX10_readStep 238 = .ok (.getfield 28, 3) := by decide +kernel
theorem dX10_readStep_241 : decode cX10_readStep 241 = .ok (.iconst 1, 1) := by decide +kernel
theorem dX10_readStep_242 : decode cX10_readStep 242 = .ok (.iadd, 1) := by decide +kernel
theorem dX10_readStep_243 : decode cX10_readStep 243 = .ok (.putfield 28, 3) := by decide +kernel
theorem dX10_readStep_246 : decode cX10_readStep 246 = .ok (.iload 5, 2) := by decide +kernel
theorem dX10_readStep_248 : decode cX10_readStep 248 = .ok (.ireturn, 1) := by decide +kernel
def F_X10_readStep (w : Nat) (M : z_Mem) : Option (Bool × z_Mem) :=
  if (M.1 5 3) < (20 : Int32) then
  if (M.1 5 3) = (25 : Int32) then
  (F_X7_fail w M (2 : Int32)).bind fun q4 =>
  some (q4.1, q4.2)
  else
  if (M.1 5 3) = (27 : Int32) then
  (F_X7_fail w M (2 : Int32)).bind fun q11 =>
  some (q11.1, q11.2)
  else
  (F_X7_fail w M (2 : Int32)).bind fun q8 =>
  some (q8.1, q8.2)
  else
  if (29 : Int32) < (M.1 5 3) then
  if (M.1 5 3) = (25 : Int32) then
  (F_X7_fail w M (2 : Int32)).bind fun q16 =>
  some (q16.1, q16.2)
  else
  if (M.1 5 3) = (27 : Int32) then
  (F_X7_fail w M (2 : Int32)).bind fun q23 =>
  some (q23.1, q23.2)
  else
  (F_X7_fail w M (2 : Int32)).bind fun q20 =>
  some (q20.1, q20.2)
  else
  if (M.1 5 3) = (26 : Int32) then
  if (M.1 5 3) = (25 : Int32) then
  (F_X7_fail w M (2 : Int32)).bind fun q28 =>
  some (q28.1, q28.2)
  else
  if (M.1 5 3) = (27 : Int32) then
  (F_X7_fail w M (2 : Int32)).bind fun q35 =>
  some (q35.1, q35.2)
  else
  (F_X7_fail w M (2 : Int32)).bind fun q32 =>
  some (q32.1, q32.2)
  else
  if (M.1 5 3) = (25 : Int32) then
  if (M.1 47 6) < (30 : Int32) then
  if (M.1 56 3) < (3 : Int32) then
  (F_X7_advance w M).bind fun q42 =>
  if (M.1 5 3) = (25 : Int32) then
  (F_X10_takeTest w (z_wI (z_wI (z_wI q42.2 56 4 (0 : Int32)) 56 5 (0 : Int32)) 56 6 (0 : Int32))).bind fun q76 =>
  if q76.1 = true then
  (F_X7_take w q76.2 (33 : Int32)).bind fun q80 =>
  if q80.1 = true then
  (F_X9_add w q80.2 30 (M.1 5 3) (q80.2.1 56 4) (q80.2.1 56 5) (q80.2.1 56 6)).bind fun q84 =>
  if q84.1 = true then
  if (q84.2.1 56 3) < 0 ∨ 3 ≤ (q84.2.1 56 3).toNatClampNeg then none else
  some (true, (z_wI (z_wI q84.2 57 ((q84.2.1 56 3).toNatClampNeg) ((q84.2.1 47 5) - (1 : Int32))) 56 3 ((q84.2.1 56 3) + (1 : Int32))))
  else
  some (false, q84.2)
  else
  some (false, q80.2)
  else
  some (false, q76.2)
  else
  if (M.1 5 3) = (22 : Int32) then
  (F_X10_takeSworn w (z_wI (z_wI (z_wI q42.2 56 4 (0 : Int32)) 56 5 (0 : Int32)) 56 6 (0 : Int32))).bind fun q61 =>
  if q61.1 = true then
  (F_X7_take w q61.2 (33 : Int32)).bind fun q65 =>
  if q65.1 = true then
  (F_X9_add w q65.2 30 (M.1 5 3) (q65.2.1 56 4) (q65.2.1 56 5) (q65.2.1 56 6)).bind fun q69 =>
  if q69.1 = true then
  if (q69.2.1 56 3) < 0 ∨ 3 ≤ (q69.2.1 56 3).toNatClampNeg then none else
  some (true, (z_wI (z_wI q69.2 57 ((q69.2.1 56 3).toNatClampNeg) ((q69.2.1 47 5) - (1 : Int32))) 56 3 ((q69.2.1 56 3) + (1 : Int32))))
  else
  some (false, q69.2)
  else
  some (false, q65.2)
  else
  some (false, q61.2)
  else
  (F_X10_takeNumbers w (z_wI (z_wI (z_wI q42.2 56 4 (0 : Int32)) 56 5 (0 : Int32)) 56 6 (0 : Int32)) (M.1 5 3)).bind fun q46 =>
  if q46.1 = true then
  (F_X7_take w q46.2 (33 : Int32)).bind fun q50 =>
  if q50.1 = true then
  (F_X9_add w q50.2 30 (M.1 5 3) (q50.2.1 56 4) (q50.2.1 56 5) (q50.2.1 56 6)).bind fun q54 =>
  if q54.1 = true then
  if (q54.2.1 56 3) < 0 ∨ 3 ≤ (q54.2.1 56 3).toNatClampNeg then none else
  some (true, (z_wI (z_wI q54.2 57 ((q54.2.1 56 3).toNatClampNeg) ((q54.2.1 47 5) - (1 : Int32))) 56 3 ((q54.2.1 56 3) + (1 : Int32))))
  else
  some (false, q54.2)
  else
  some (false, q50.2)
  else
  some (false, q46.2)
  else
  (F_X7_fail w M (7 : Int32)).bind fun q91 =>
  some (q91.1, q91.2)
  else
  (F_X7_fail w M (6 : Int32)).bind fun q93 =>
  some (q93.1, q93.2)
  else
  if (M.1 5 3) = (27 : Int32) then
  if (M.1 47 6) < (30 : Int32) then
  if (M.1 56 3) < (3 : Int32) then
  (F_X7_advance w M).bind fun q151 =>
  if (M.1 5 3) = (25 : Int32) then
  (F_X10_takeTest w (z_wI (z_wI (z_wI q151.2 56 4 (0 : Int32)) 56 5 (0 : Int32)) 56 6 (0 : Int32))).bind fun q185 =>
  if q185.1 = true then
  (F_X7_take w q185.2 (33 : Int32)).bind fun q189 =>
  if q189.1 = true then
  (F_X9_add w q189.2 30 (M.1 5 3) (q189.2.1 56 4) (q189.2.1 56 5) (q189.2.1 56 6)).bind fun q193 =>
  if q193.1 = true then
  if (q193.2.1 56 3) < 0 ∨ 3 ≤ (q193.2.1 56 3).toNatClampNeg then none else
  some (true, (z_wI (z_wI q193.2 57 ((q193.2.1 56 3).toNatClampNeg) ((q193.2.1 47 5) - (1 : Int32))) 56 3 ((q193.2.1 56 3) + (1 : Int32))))
  else
  some (false, q193.2)
  else
  some (false, q189.2)
  else
  some (false, q185.2)
  else
  if (M.1 5 3) = (22 : Int32) then
  (F_X10_takeSworn w (z_wI (z_wI (z_wI q151.2 56 4 (0 : Int32)) 56 5 (0 : Int32)) 56 6 (0 : Int32))).bind fun q170 =>
  if q170.1 = true then
  (F_X7_take w q170.2 (33 : Int32)).bind fun q174 =>
  if q174.1 = true then
  (F_X9_add w q174.2 30 (M.1 5 3) (q174.2.1 56 4) (q174.2.1 56 5) (q174.2.1 56 6)).bind fun q178 =>
  if q178.1 = true then
  if (q178.2.1 56 3) < 0 ∨ 3 ≤ (q178.2.1 56 3).toNatClampNeg then none else
  some (true, (z_wI (z_wI q178.2 57 ((q178.2.1 56 3).toNatClampNeg) ((q178.2.1 47 5) - (1 : Int32))) 56 3 ((q178.2.1 56 3) + (1 : Int32))))
  else
  some (false, q178.2)
  else
  some (false, q174.2)
  else
  some (false, q170.2)
  else
  (F_X10_takeNumbers w (z_wI (z_wI (z_wI q151.2 56 4 (0 : Int32)) 56 5 (0 : Int32)) 56 6 (0 : Int32)) (M.1 5 3)).bind fun q155 =>
  if q155.1 = true then
  (F_X7_take w q155.2 (33 : Int32)).bind fun q159 =>
  if q159.1 = true then
  (F_X9_add w q159.2 30 (M.1 5 3) (q159.2.1 56 4) (q159.2.1 56 5) (q159.2.1 56 6)).bind fun q163 =>
  if q163.1 = true then
  if (q163.2.1 56 3) < 0 ∨ 3 ≤ (q163.2.1 56 3).toNatClampNeg then none else
  some (true, (z_wI (z_wI q163.2 57 ((q163.2.1 56 3).toNatClampNeg) ((q163.2.1 47 5) - (1 : Int32))) 56 3 ((q163.2.1 56 3) + (1 : Int32))))
  else
  some (false, q163.2)
  else
  some (false, q159.2)
  else
  some (false, q155.2)
  else
  (F_X7_fail w M (7 : Int32)).bind fun q200 =>
  some (q200.1, q200.2)
  else
  (F_X7_fail w M (6 : Int32)).bind fun q202 =>
  some (q202.1, q202.2)
  else
  if (M.1 47 6) < (30 : Int32) then
  (F_X7_advance w M).bind fun q99 =>
  if (M.1 5 3) = (25 : Int32) then
  (F_X10_takeTest w (z_wI (z_wI (z_wI q99.2 56 4 (0 : Int32)) 56 5 (0 : Int32)) 56 6 (0 : Int32))).bind fun q131 =>
  if q131.1 = true then
  (F_X7_take w q131.2 (33 : Int32)).bind fun q135 =>
  if q135.1 = true then
  (F_X9_add w q135.2 30 (M.1 5 3) (q135.2.1 56 4) (q135.2.1 56 5) (q135.2.1 56 6)).bind fun q139 =>
  if q139.1 = true then
  some (true, q139.2)
  else
  some (false, q139.2)
  else
  some (false, q135.2)
  else
  some (false, q131.2)
  else
  if (M.1 5 3) = (22 : Int32) then
  (F_X10_takeSworn w (z_wI (z_wI (z_wI q99.2 56 4 (0 : Int32)) 56 5 (0 : Int32)) 56 6 (0 : Int32))).bind fun q117 =>
  if q117.1 = true then
  (F_X7_take w q117.2 (33 : Int32)).bind fun q121 =>
  if q121.1 = true then
  (F_X9_add w q121.2 30 (M.1 5 3) (q121.2.1 56 4) (q121.2.1 56 5) (q121.2.1 56 6)).bind fun q125 =>
  if q125.1 = true then
  some (true, q125.2)
  else
  some (false, q125.2)
  else
  some (false, q121.2)
  else
  some (false, q117.2)
  else
  (F_X10_takeNumbers w (z_wI (z_wI (z_wI q99.2 56 4 (0 : Int32)) 56 5 (0 : Int32)) 56 6 (0 : Int32)) (M.1 5 3)).bind fun q103 =>
  if q103.1 = true then
  (F_X7_take w q103.2 (33 : Int32)).bind fun q107 =>
  if q107.1 = true then
  (F_X9_add w q107.2 30 (M.1 5 3) (q107.2.1 56 4) (q107.2.1 56 5) (q107.2.1 56 6)).bind fun q111 =>
  if q111.1 = true then
  some (true, q111.2)
  else
  some (false, q111.2)
  else
  some (false, q107.2)
  else
  some (false, q103.2)
  else
  (F_X7_fail w M (6 : Int32)).bind fun q145 =>
  some (q145.1, q145.2)
set_option maxHeartbeats 4000000 in
theorem A_X10_readStep {w : Nat} {M : z_Mem} {r : Bool} {M' : z_Mem} {Q : Option Value → z_Mem → Prop} (h : F_X10_readStep w M = some (r, M')) (hq : Q (some (.int (z_tb r))) M') : z_Cl 5 mX10_readStep [.ref 58] M Q := by
  refine g_in (ls := [some (.ref 58), none, none, none, none, none]) rfl ?_
  unfold F_X10_readStep at h
  refine g_aload_n dX10_readStep_0 rfl rfl ?_
  refine g_get (a := 56) (v := .ref 7) dX10_readStep_1 f_10_15 sh_56 rfl rfl ?_
  refine g_get (a := 5) (v := .int (M.1 5 3)) dX10_readStep_4 f_10_37 sh_5 rfl rfl ?_
  refine g_istore_n (ls' := [some (.ref 58), some (.int (M.1 5 3)), none, none, none, none]) dX10_readStep_7 rfl (Nat.le_of_ble_eq_true rfl) rfl ?_
  refine g_iload_n dX10_readStep_8 rfl rfl ?_
  refine g_bipush (v := (20 : Int32)) dX10_readStep_9 (by decide) ?_
  refine g_ic_lt (t := 30) dX10_readStep_11 (by decide) (fun c1 => ?_) (fun c1 => ?_)
  · replace h := z_ift c1 h
    refine g_iconst (v := (0 : Int32)) dX10_readStep_30 (by decide) ?_
    refine g_istore_n (ls' := [some (.ref 58), some (.int (M.1 5 3)), some (.int (0 : Int32)), none, none, none]) dX10_readStep_31 rfl (Nat.le_of_ble_eq_true rfl) rfl ?_
    refine g_iload_n dX10_readStep_32 rfl rfl ?_
    refine g_bipush (v := (25 : Int32)) dX10_readStep_33 (by decide) ?_
    refine g_ic_eq (t := 44) dX10_readStep_35 (by decide) (fun c2 => ?_) (fun c2 => ?_)
    · replace h := z_ift c2 h
      refine g_iconst (v := (1 : Int32)) dX10_readStep_44 (by decide) ?_
      refine g_goto (t := 49) dX10_readStep_45 (by decide) ?_
      refine g_istore_n (ls' := [some (.ref 58), some (.int (M.1 5 3)), some (.int (0 : Int32)), some (.int (1 : Int32)), none, none]) dX10_readStep_49 rfl (Nat.le_of_ble_eq_true rfl) rfl ?_
      refine g_iload_n dX10_readStep_50 rfl rfl ?_
      refine g_if_ne (t := 63) dX10_readStep_51 (by decide) (fun c3 => ?_) (fun c3 => ?_)
      · exact absurd c3 (by decide)
      · skip
        refine g_aload_n dX10_readStep_54 rfl rfl ?_
        refine g_get (a := 56) (v := .ref 7) dX10_readStep_55 f_10_15 sh_56 rfl rfl ?_
        refine g_iconst (v := (2 : Int32)) dX10_readStep_58 (by decide) ?_
        obtain ⟨q4, e5, h⟩ := z_bd h
        refine g_callV (a := 5) (as := [.int (2 : Int32)]) (rest := []) (c := mX7_fail) (k1 := 0) dX10_readStep_59 rfl rfl rfl sh_5 rfl rfl (Nat.le_of_ble_eq_true rfl) (Nat.le_of_ble_eq_true rfl) (by decide) ?_
        refine A_X7_fail e5 ?_
        show z_G none 5 mX10_readStep 62 [some (.ref 58), some (.int (M.1 5 3)), some (.int (0 : Int32)), some (.int (1 : Int32)), none, none] [.int (z_tb q4.1)] q4.2 Q
        cases h
        exact g_iret dX10_readStep_62 rfl nb_tb hq
    · replace h := z_iff c2 h
      refine g_iload_n dX10_readStep_38 rfl rfl ?_
      refine g_bipush (v := (27 : Int32)) dX10_readStep_39 (by decide) ?_
      refine g_ic_ne (t := 48) dX10_readStep_41 (by decide) (fun c6 => ?_) (fun c6 => ?_)
      · replace h := z_iff c6 h
        refine g_iconst (v := (0 : Int32)) dX10_readStep_48 (by decide) ?_
        refine g_istore_n (ls' := [some (.ref 58), some (.int (M.1 5 3)), some (.int (0 : Int32)), some (.int (0 : Int32)), none, none]) dX10_readStep_49 rfl (Nat.le_of_ble_eq_true rfl) rfl ?_
        refine g_iload_n dX10_readStep_50 rfl rfl ?_
        refine g_if_ne (t := 63) dX10_readStep_51 (by decide) (fun c7 => ?_) (fun c7 => ?_)
        · exact absurd c7 (by decide)
        · skip
          refine g_aload_n dX10_readStep_54 rfl rfl ?_
          refine g_get (a := 56) (v := .ref 7) dX10_readStep_55 f_10_15 sh_56 rfl rfl ?_
          refine g_iconst (v := (2 : Int32)) dX10_readStep_58 (by decide) ?_
          obtain ⟨q8, e9, h⟩ := z_bd h
          refine g_callV (a := 5) (as := [.int (2 : Int32)]) (rest := []) (c := mX7_fail) (k1 := 0) dX10_readStep_59 rfl rfl rfl sh_5 rfl rfl (Nat.le_of_ble_eq_true rfl) (Nat.le_of_ble_eq_true rfl) (by decide) ?_
          refine A_X7_fail e9 ?_
          show z_G none 5 mX10_readStep 62 [some (.ref 58), some (.int (M.1 5 3)), some (.int (0 : Int32)), some (.int (0 : Int32)), none, none] [.int (z_tb q8.1)] q8.2 Q
          cases h
          exact g_iret dX10_readStep_62 rfl nb_tb hq
      · replace h := z_ift c6 h
        refine g_iconst (v := (1 : Int32)) dX10_readStep_44 (by decide) ?_
        refine g_goto (t := 49) dX10_readStep_45 (by decide) ?_
        refine g_istore_n (ls' := [some (.ref 58), some (.int (M.1 5 3)), some (.int (0 : Int32)), some (.int (1 : Int32)), none, none]) dX10_readStep_49 rfl (Nat.le_of_ble_eq_true rfl) rfl ?_
        refine g_iload_n dX10_readStep_50 rfl rfl ?_
        refine g_if_ne (t := 63) dX10_readStep_51 (by decide) (fun c10 => ?_) (fun c10 => ?_)
        · exact absurd c10 (by decide)
        · skip
          refine g_aload_n dX10_readStep_54 rfl rfl ?_
          refine g_get (a := 56) (v := .ref 7) dX10_readStep_55 f_10_15 sh_56 rfl rfl ?_
          refine g_iconst (v := (2 : Int32)) dX10_readStep_58 (by decide) ?_
          obtain ⟨q11, e12, h⟩ := z_bd h
          refine g_callV (a := 5) (as := [.int (2 : Int32)]) (rest := []) (c := mX7_fail) (k1 := 0) dX10_readStep_59 rfl rfl rfl sh_5 rfl rfl (Nat.le_of_ble_eq_true rfl) (Nat.le_of_ble_eq_true rfl) (by decide) ?_
          refine A_X7_fail e12 ?_
          show z_G none 5 mX10_readStep 62 [some (.ref 58), some (.int (M.1 5 3)), some (.int (0 : Int32)), some (.int (1 : Int32)), none, none] [.int (z_tb q11.1)] q11.2 Q
          cases h
          exact g_iret dX10_readStep_62 rfl nb_tb hq
  · replace h := z_iff c1 h
    refine g_iload_n dX10_readStep_14 rfl rfl ?_
    refine g_bipush (v := (29 : Int32)) dX10_readStep_15 (by decide) ?_
    refine g_ic_gt (t := 30) dX10_readStep_17 (by decide) (fun c13 => ?_) (fun c13 => ?_)
    · replace h := z_ift c13 h
      refine g_iconst (v := (0 : Int32)) dX10_readStep_30 (by decide) ?_
      refine g_istore_n (ls' := [some (.ref 58), some (.int (M.1 5 3)), some (.int (0 : Int32)), none, none, none]) dX10_readStep_31 rfl (Nat.le_of_ble_eq_true rfl) rfl ?_
      refine g_iload_n dX10_readStep_32 rfl rfl ?_
      refine g_bipush (v := (25 : Int32)) dX10_readStep_33 (by decide) ?_
      refine g_ic_eq (t := 44) dX10_readStep_35 (by decide) (fun c14 => ?_) (fun c14 => ?_)
      · replace h := z_ift c14 h
        refine g_iconst (v := (1 : Int32)) dX10_readStep_44 (by decide) ?_
        refine g_goto (t := 49) dX10_readStep_45 (by decide) ?_
        refine g_istore_n (ls' := [some (.ref 58), some (.int (M.1 5 3)), some (.int (0 : Int32)), some (.int (1 : Int32)), none, none]) dX10_readStep_49 rfl (Nat.le_of_ble_eq_true rfl) rfl ?_
        refine g_iload_n dX10_readStep_50 rfl rfl ?_
        refine g_if_ne (t := 63) dX10_readStep_51 (by decide) (fun c15 => ?_) (fun c15 => ?_)
        · exact absurd c15 (by decide)
        · skip
          refine g_aload_n dX10_readStep_54 rfl rfl ?_
          refine g_get (a := 56) (v := .ref 7) dX10_readStep_55 f_10_15 sh_56 rfl rfl ?_
          refine g_iconst (v := (2 : Int32)) dX10_readStep_58 (by decide) ?_
          obtain ⟨q16, e17, h⟩ := z_bd h
          refine g_callV (a := 5) (as := [.int (2 : Int32)]) (rest := []) (c := mX7_fail) (k1 := 0) dX10_readStep_59 rfl rfl rfl sh_5 rfl rfl (Nat.le_of_ble_eq_true rfl) (Nat.le_of_ble_eq_true rfl) (by decide) ?_
          refine A_X7_fail e17 ?_
          show z_G none 5 mX10_readStep 62 [some (.ref 58), some (.int (M.1 5 3)), some (.int (0 : Int32)), some (.int (1 : Int32)), none, none] [.int (z_tb q16.1)] q16.2 Q
          cases h
          exact g_iret dX10_readStep_62 rfl nb_tb hq
      · replace h := z_iff c14 h
        refine g_iload_n dX10_readStep_38 rfl rfl ?_
        refine g_bipush (v := (27 : Int32)) dX10_readStep_39 (by decide) ?_
        refine g_ic_ne (t := 48) dX10_readStep_41 (by decide) (fun c18 => ?_) (fun c18 => ?_)
        · replace h := z_iff c18 h
          refine g_iconst (v := (0 : Int32)) dX10_readStep_48 (by decide) ?_
          refine g_istore_n (ls' := [some (.ref 58), some (.int (M.1 5 3)), some (.int (0 : Int32)), some (.int (0 : Int32)), none, none]) dX10_readStep_49 rfl (Nat.le_of_ble_eq_true rfl) rfl ?_
          refine g_iload_n dX10_readStep_50 rfl rfl ?_
          refine g_if_ne (t := 63) dX10_readStep_51 (by decide) (fun c19 => ?_) (fun c19 => ?_)
          · exact absurd c19 (by decide)
          · skip
            refine g_aload_n dX10_readStep_54 rfl rfl ?_
            refine g_get (a := 56) (v := .ref 7) dX10_readStep_55 f_10_15 sh_56 rfl rfl ?_
            refine g_iconst (v := (2 : Int32)) dX10_readStep_58 (by decide) ?_
            obtain ⟨q20, e21, h⟩ := z_bd h
            refine g_callV (a := 5) (as := [.int (2 : Int32)]) (rest := []) (c := mX7_fail) (k1 := 0) dX10_readStep_59 rfl rfl rfl sh_5 rfl rfl (Nat.le_of_ble_eq_true rfl) (Nat.le_of_ble_eq_true rfl) (by decide) ?_
            refine A_X7_fail e21 ?_
            show z_G none 5 mX10_readStep 62 [some (.ref 58), some (.int (M.1 5 3)), some (.int (0 : Int32)), some (.int (0 : Int32)), none, none] [.int (z_tb q20.1)] q20.2 Q
            cases h
            exact g_iret dX10_readStep_62 rfl nb_tb hq
        · replace h := z_ift c18 h
          refine g_iconst (v := (1 : Int32)) dX10_readStep_44 (by decide) ?_
          refine g_goto (t := 49) dX10_readStep_45 (by decide) ?_
          refine g_istore_n (ls' := [some (.ref 58), some (.int (M.1 5 3)), some (.int (0 : Int32)), some (.int (1 : Int32)), none, none]) dX10_readStep_49 rfl (Nat.le_of_ble_eq_true rfl) rfl ?_
          refine g_iload_n dX10_readStep_50 rfl rfl ?_
          refine g_if_ne (t := 63) dX10_readStep_51 (by decide) (fun c22 => ?_) (fun c22 => ?_)
          · exact absurd c22 (by decide)
          · skip
            refine g_aload_n dX10_readStep_54 rfl rfl ?_
            refine g_get (a := 56) (v := .ref 7) dX10_readStep_55 f_10_15 sh_56 rfl rfl ?_
            refine g_iconst (v := (2 : Int32)) dX10_readStep_58 (by decide) ?_
            obtain ⟨q23, e24, h⟩ := z_bd h
            refine g_callV (a := 5) (as := [.int (2 : Int32)]) (rest := []) (c := mX7_fail) (k1 := 0) dX10_readStep_59 rfl rfl rfl sh_5 rfl rfl (Nat.le_of_ble_eq_true rfl) (Nat.le_of_ble_eq_true rfl) (by decide) ?_
            refine A_X7_fail e24 ?_
            show z_G none 5 mX10_readStep 62 [some (.ref 58), some (.int (M.1 5 3)), some (.int (0 : Int32)), some (.int (1 : Int32)), none, none] [.int (z_tb q23.1)] q23.2 Q
            cases h
            exact g_iret dX10_readStep_62 rfl nb_tb hq
    · replace h := z_iff c13 h
      refine g_iload_n dX10_readStep_20 rfl rfl ?_
      refine g_bipush (v := (26 : Int32)) dX10_readStep_21 (by decide) ?_
      refine g_ic_eq (t := 30) dX10_readStep_23 (by decide) (fun c25 => ?_) (fun c25 => ?_)
      · replace h := z_ift c25 h
        refine g_iconst (v := (0 : Int32)) dX10_readStep_30 (by decide) ?_
        refine g_istore_n (ls' := [some (.ref 58), some (.int (M.1 5 3)), some (.int (0 : Int32)), none, none, none]) dX10_readStep_31 rfl (Nat.le_of_ble_eq_true rfl) rfl ?_
        refine g_iload_n dX10_readStep_32 rfl rfl ?_
        refine g_bipush (v := (25 : Int32)) dX10_readStep_33 (by decide) ?_
        refine g_ic_eq (t := 44) dX10_readStep_35 (by decide) (fun c26 => ?_) (fun c26 => ?_)
        · replace h := z_ift c26 h
          refine g_iconst (v := (1 : Int32)) dX10_readStep_44 (by decide) ?_
          refine g_goto (t := 49) dX10_readStep_45 (by decide) ?_
          refine g_istore_n (ls' := [some (.ref 58), some (.int (M.1 5 3)), some (.int (0 : Int32)), some (.int (1 : Int32)), none, none]) dX10_readStep_49 rfl (Nat.le_of_ble_eq_true rfl) rfl ?_
          refine g_iload_n dX10_readStep_50 rfl rfl ?_
          refine g_if_ne (t := 63) dX10_readStep_51 (by decide) (fun c27 => ?_) (fun c27 => ?_)
          · exact absurd c27 (by decide)
          · skip
            refine g_aload_n dX10_readStep_54 rfl rfl ?_
            refine g_get (a := 56) (v := .ref 7) dX10_readStep_55 f_10_15 sh_56 rfl rfl ?_
            refine g_iconst (v := (2 : Int32)) dX10_readStep_58 (by decide) ?_
            obtain ⟨q28, e29, h⟩ := z_bd h
            refine g_callV (a := 5) (as := [.int (2 : Int32)]) (rest := []) (c := mX7_fail) (k1 := 0) dX10_readStep_59 rfl rfl rfl sh_5 rfl rfl (Nat.le_of_ble_eq_true rfl) (Nat.le_of_ble_eq_true rfl) (by decide) ?_
            refine A_X7_fail e29 ?_
            show z_G none 5 mX10_readStep 62 [some (.ref 58), some (.int (M.1 5 3)), some (.int (0 : Int32)), some (.int (1 : Int32)), none, none] [.int (z_tb q28.1)] q28.2 Q
            cases h
            exact g_iret dX10_readStep_62 rfl nb_tb hq
        · replace h := z_iff c26 h
          refine g_iload_n dX10_readStep_38 rfl rfl ?_
          refine g_bipush (v := (27 : Int32)) dX10_readStep_39 (by decide) ?_
          refine g_ic_ne (t := 48) dX10_readStep_41 (by decide) (fun c30 => ?_) (fun c30 => ?_)
          · replace h := z_iff c30 h
            refine g_iconst (v := (0 : Int32)) dX10_readStep_48 (by decide) ?_
            refine g_istore_n (ls' := [some (.ref 58), some (.int (M.1 5 3)), some (.int (0 : Int32)), some (.int (0 : Int32)), none, none]) dX10_readStep_49 rfl (Nat.le_of_ble_eq_true rfl) rfl ?_
            refine g_iload_n dX10_readStep_50 rfl rfl ?_
            refine g_if_ne (t := 63) dX10_readStep_51 (by decide) (fun c31 => ?_) (fun c31 => ?_)
            · exact absurd c31 (by decide)
            · skip
              refine g_aload_n dX10_readStep_54 rfl rfl ?_
              refine g_get (a := 56) (v := .ref 7) dX10_readStep_55 f_10_15 sh_56 rfl rfl ?_
              refine g_iconst (v := (2 : Int32)) dX10_readStep_58 (by decide) ?_
              obtain ⟨q32, e33, h⟩ := z_bd h
              refine g_callV (a := 5) (as := [.int (2 : Int32)]) (rest := []) (c := mX7_fail) (k1 := 0) dX10_readStep_59 rfl rfl rfl sh_5 rfl rfl (Nat.le_of_ble_eq_true rfl) (Nat.le_of_ble_eq_true rfl) (by decide) ?_
              refine A_X7_fail e33 ?_
              show z_G none 5 mX10_readStep 62 [some (.ref 58), some (.int (M.1 5 3)), some (.int (0 : Int32)), some (.int (0 : Int32)), none, none] [.int (z_tb q32.1)] q32.2 Q
              cases h
              exact g_iret dX10_readStep_62 rfl nb_tb hq
          · replace h := z_ift c30 h
            refine g_iconst (v := (1 : Int32)) dX10_readStep_44 (by decide) ?_
            refine g_goto (t := 49) dX10_readStep_45 (by decide) ?_
            refine g_istore_n (ls' := [some (.ref 58), some (.int (M.1 5 3)), some (.int (0 : Int32)), some (.int (1 : Int32)), none, none]) dX10_readStep_49 rfl (Nat.le_of_ble_eq_true rfl) rfl ?_
            refine g_iload_n dX10_readStep_50 rfl rfl ?_
            refine g_if_ne (t := 63) dX10_readStep_51 (by decide) (fun c34 => ?_) (fun c34 => ?_)
            · exact absurd c34 (by decide)
            · skip
              refine g_aload_n dX10_readStep_54 rfl rfl ?_
              refine g_get (a := 56) (v := .ref 7) dX10_readStep_55 f_10_15 sh_56 rfl rfl ?_
              refine g_iconst (v := (2 : Int32)) dX10_readStep_58 (by decide) ?_
              obtain ⟨q35, e36, h⟩ := z_bd h
              refine g_callV (a := 5) (as := [.int (2 : Int32)]) (rest := []) (c := mX7_fail) (k1 := 0) dX10_readStep_59 rfl rfl rfl sh_5 rfl rfl (Nat.le_of_ble_eq_true rfl) (Nat.le_of_ble_eq_true rfl) (by decide) ?_
              refine A_X7_fail e36 ?_
              show z_G none 5 mX10_readStep 62 [some (.ref 58), some (.int (M.1 5 3)), some (.int (0 : Int32)), some (.int (1 : Int32)), none, none] [.int (z_tb q35.1)] q35.2 Q
              cases h
              exact g_iret dX10_readStep_62 rfl nb_tb hq
      · replace h := z_iff c25 h
        refine g_iconst (v := (1 : Int32)) dX10_readStep_26 (by decide) ?_
        refine g_goto (t := 31) dX10_readStep_27 (by decide) ?_
        refine g_istore_n (ls' := [some (.ref 58), some (.int (M.1 5 3)), some (.int (1 : Int32)), none, none, none]) dX10_readStep_31 rfl (Nat.le_of_ble_eq_true rfl) rfl ?_
        refine g_iload_n dX10_readStep_32 rfl rfl ?_
        refine g_bipush (v := (25 : Int32)) dX10_readStep_33 (by decide) ?_
        refine g_ic_eq (t := 44) dX10_readStep_35 (by decide) (fun c37 => ?_) (fun c37 => ?_)
        · replace h := z_ift c37 h
          refine g_iconst (v := (1 : Int32)) dX10_readStep_44 (by decide) ?_
          refine g_goto (t := 49) dX10_readStep_45 (by decide) ?_
          refine g_istore_n (ls' := [some (.ref 58), some (.int (M.1 5 3)), some (.int (1 : Int32)), some (.int (1 : Int32)), none, none]) dX10_readStep_49 rfl (Nat.le_of_ble_eq_true rfl) rfl ?_
          refine g_iload_n dX10_readStep_50 rfl rfl ?_
          refine g_if_ne (t := 63) dX10_readStep_51 (by decide) (fun c38 => ?_) (fun c38 => ?_)
          · skip
            refine g_aload_n dX10_readStep_63 rfl rfl ?_
            refine g_get (a := 56) (v := .ref 49) dX10_readStep_64 f_10_19 sh_56 rfl rfl ?_
            refine g_get (a := 47) (v := .int (M.1 47 6)) dX10_readStep_67 f_10_72 sh_47 rfl rfl ?_
            refine g_bipush (v := (30 : Int32)) dX10_readStep_70 (by decide) ?_
            refine g_ic_lt (t := 85) dX10_readStep_72 (by decide) (fun c39 => ?_) (fun c39 => ?_)
            · replace h := z_ift c39 h
              refine g_iload_n dX10_readStep_85 rfl rfl ?_
              refine g_if_eq (t := 107) dX10_readStep_86 (by decide) (fun c40 => ?_) (fun c40 => ?_)
              · exact absurd c40 (by decide)
              · skip
                refine g_aload_n dX10_readStep_89 rfl rfl ?_
                refine g_get (a := 56) (v := .int (M.1 56 3)) dX10_readStep_90 f_10_28 sh_56 rfl rfl ?_
                refine g_iconst (v := (3 : Int32)) dX10_readStep_93 (by decide) ?_
                refine g_ic_lt (t := 107) dX10_readStep_94 (by decide) (fun c41 => ?_) (fun c41 => ?_)
                · replace h := z_ift c41 h
                  refine g_aload_n dX10_readStep_107 rfl rfl ?_
                  refine g_get (a := 56) (v := .ref 7) dX10_readStep_108 f_10_15 sh_56 rfl rfl ?_
                  obtain ⟨q42, e43, h⟩ := z_bd h
                  refine g_callV (a := 5) (as := []) (rest := []) (c := mX7_advance) (k1 := 2) dX10_readStep_111 rfl rfl rfl sh_5 rfl rfl (Nat.le_of_ble_eq_true rfl) (Nat.le_of_ble_eq_true rfl) (by decide) ?_
                  refine A_X7_advance e43 ?_
                  show z_G none 5 mX10_readStep 114 [some (.ref 58), some (.int (M.1 5 3)), some (.int (1 : Int32)), some (.int (1 : Int32)), none, none] [] q42.2 Q
                  refine g_aload_n dX10_readStep_114 rfl rfl ?_
                  refine g_iconst (v := (0 : Int32)) dX10_readStep_115 (by decide) ?_
                  refine g_putI (a := 56) dX10_readStep_116 f_10_75 sh_56 rfl rfl rfl ?_
                  refine g_aload_n dX10_readStep_119 rfl rfl ?_
                  refine g_iconst (v := (0 : Int32)) dX10_readStep_120 (by decide) ?_
                  refine g_putI (a := 56) dX10_readStep_121 f_10_78 sh_56 rfl rfl rfl ?_
                  refine g_aload_n dX10_readStep_124 rfl rfl ?_
                  refine g_iconst (v := (0 : Int32)) dX10_readStep_125 (by decide) ?_
                  refine g_putI (a := 56) dX10_readStep_126 f_10_81 sh_56 rfl rfl rfl ?_
                  refine g_iload_n dX10_readStep_129 rfl rfl ?_
                  refine g_bipush (v := (25 : Int32)) dX10_readStep_130 (by decide) ?_
                  refine g_ic_ne (t := 142) dX10_readStep_132 (by decide) (fun c44 => ?_) (fun c44 => ?_)
                  · replace h := z_iff c44 h
                    refine g_iload_n dX10_readStep_142 rfl rfl ?_
                    refine g_bipush (v := (22 : Int32)) dX10_readStep_143 (by decide) ?_
                    refine g_ic_ne (t := 155) dX10_readStep_145 (by decide) (fun c45 => ?_) (fun c45 => ?_)
                    · replace h := z_iff c45 h
                      refine g_aload_n dX10_readStep_155 rfl rfl ?_
                      refine g_iload_n dX10_readStep_156 rfl rfl ?_
                      obtain ⟨q46, e47, h⟩ := z_bd h
                      refine g_callV (a := 56) (as := [.int (M.1 5 3)]) (rest := []) (c := mX10_takeNumbers) (k1 := 4) dX10_readStep_157 rfl rfl rfl sh_56 rfl rfl (Nat.le_of_ble_eq_true rfl) (Nat.le_of_ble_eq_true rfl) (by decide) ?_
                      refine A_X10_takeNumbers e47 ?_
                      show z_G none 5 mX10_readStep 160 [some (.ref 58), some (.int (M.1 5 3)), some (.int (1 : Int32)), some (.int (1 : Int32)), none, none] [.int (z_tb q46.1)] q46.2 Q
                      refine g_istore (ls' := [some (.ref 58), some (.int (M.1 5 3)), some (.int (1 : Int32)), some (.int (1 : Int32)), some (.int (z_tb q46.1)), none]) dX10_readStep_160 (Nat.le_of_ble_eq_true rfl) rfl ?_
                      refine g_iload dX10_readStep_162 rfl ?_
                      refine g_if_eq (t := 206) dX10_readStep_164 (by decide) (fun c48 => ?_) (fun c48 => ?_)
                      · replace h := z_iff (z_tb0.mp c48) h
                        refine g_iconst (v := (0 : Int32)) dX10_readStep_206 (by decide) ?_
                        refine g_istore (ls' := [some (.ref 58), some (.int (M.1 5 3)), some (.int (1 : Int32)), some (.int (1 : Int32)), some (.int (z_tb q46.1)), some (.int (0 : Int32))]) dX10_readStep_207 (Nat.le_of_ble_eq_true rfl) rfl ?_
                        refine g_iload dX10_readStep_209 rfl ?_
                        refine g_if_eq (t := 246) dX10_readStep_211 (by decide) (fun c49 => ?_) (fun c49 => ?_)
                        · skip
                          refine g_iload dX10_readStep_246 rfl ?_
                          cases h
                          exact g_iret dX10_readStep_248 rfl rfl hq
                        · exact absurd c49 (by decide)
                      · replace h := z_ift (z_tbn.mp c48) h
                        refine g_aload_n dX10_readStep_167 rfl rfl ?_
                        refine g_get (a := 56) (v := .ref 7) dX10_readStep_168 f_10_15 sh_56 rfl rfl ?_
                        refine g_bipush (v := (33 : Int32)) dX10_readStep_171 (by decide) ?_
                        obtain ⟨q50, e51, h⟩ := z_bd h
                        refine g_callV (a := 5) (as := [.int (33 : Int32)]) (rest := []) (c := mX7_take) (k1 := 3) dX10_readStep_173 rfl rfl rfl sh_5 rfl rfl (Nat.le_of_ble_eq_true rfl) (Nat.le_of_ble_eq_true rfl) (by decide) ?_
                        refine A_X7_take e51 ?_
                        show z_G none 5 mX10_readStep 176 [some (.ref 58), some (.int (M.1 5 3)), some (.int (1 : Int32)), some (.int (1 : Int32)), some (.int (z_tb q46.1)), none] [.int (z_tb q50.1)] q50.2 Q
                        refine g_if_eq (t := 206) dX10_readStep_176 (by decide) (fun c52 => ?_) (fun c52 => ?_)
                        · replace h := z_iff (z_tb0.mp c52) h
                          refine g_iconst (v := (0 : Int32)) dX10_readStep_206 (by decide) ?_
                          refine g_istore (ls' := [some (.ref 58), some (.int (M.1 5 3)), some (.int (1 : Int32)), some (.int (1 : Int32)), some (.int (z_tb q46.1)), some (.int (0 : Int32))]) dX10_readStep_207 (Nat.le_of_ble_eq_true rfl) rfl ?_
                          refine g_iload dX10_readStep_209 rfl ?_
                          refine g_if_eq (t := 246) dX10_readStep_211 (by decide) (fun c53 => ?_) (fun c53 => ?_)
                          · skip
                            refine g_iload dX10_readStep_246 rfl ?_
                            cases h
                            exact g_iret dX10_readStep_248 rfl rfl hq
                          · exact absurd c53 (by decide)
                        · replace h := z_ift (z_tbn.mp c52) h
                          refine g_aload_n dX10_readStep_179 rfl rfl ?_
                          refine g_get (a := 56) (v := .ref 49) dX10_readStep_180 f_10_19 sh_56 rfl rfl ?_
                          refine g_iload_n dX10_readStep_183 rfl rfl ?_
                          refine g_aload_n dX10_readStep_184 rfl rfl ?_
                          refine g_get (a := 56) (v := .int (q50.2.1 56 4)) dX10_readStep_185 f_10_75 sh_56 rfl rfl ?_
                          refine g_aload_n dX10_readStep_188 rfl rfl ?_
                          refine g_get (a := 56) (v := .int (q50.2.1 56 5)) dX10_readStep_189 f_10_78 sh_56 rfl rfl ?_
                          refine g_aload_n dX10_readStep_192 rfl rfl ?_
                          refine g_get (a := 56) (v := .int (q50.2.1 56 6)) dX10_readStep_193 f_10_81 sh_56 rfl rfl ?_
                          obtain ⟨q54, e55, h⟩ := z_bd h
                          refine g_callV (a := 47) (as := [.int (M.1 5 3), .int (q50.2.1 56 4), .int (q50.2.1 56 5), .int (q50.2.1 56 6)]) (rest := []) (c := mX9_add) (k1 := 0) dX10_readStep_196 rfl rfl rfl sh_47 rfl rfl (Nat.le_of_ble_eq_true rfl) (Nat.le_of_ble_eq_true rfl) (by decide) ?_
                          refine A_X9_add z_par_30 e55 ?_
                          show z_G none 5 mX10_readStep 199 [some (.ref 58), some (.int (M.1 5 3)), some (.int (1 : Int32)), some (.int (1 : Int32)), some (.int (z_tb q46.1)), none] [.int (z_tb q54.1)] q54.2 Q
                          refine g_if_eq (t := 206) dX10_readStep_199 (by decide) (fun c56 => ?_) (fun c56 => ?_)
                          · replace h := z_iff (z_tb0.mp c56) h
                            refine g_iconst (v := (0 : Int32)) dX10_readStep_206 (by decide) ?_
                            refine g_istore (ls' := [some (.ref 58), some (.int (M.1 5 3)), some (.int (1 : Int32)), some (.int (1 : Int32)), some (.int (z_tb q46.1)), some (.int (0 : Int32))]) dX10_readStep_207 (Nat.le_of_ble_eq_true rfl) rfl ?_
                            refine g_iload dX10_readStep_209 rfl ?_
                            refine g_if_eq (t := 246) dX10_readStep_211 (by decide) (fun c57 => ?_) (fun c57 => ?_)
                            · skip
                              refine g_iload dX10_readStep_246 rfl ?_
                              cases h
                              exact g_iret dX10_readStep_248 rfl rfl hq
                            · exact absurd c57 (by decide)
                          · replace h := z_ift (z_tbn.mp c56) h
                            refine g_iconst (v := (1 : Int32)) dX10_readStep_202 (by decide) ?_
                            refine g_goto (t := 207) dX10_readStep_203 (by decide) ?_
                            refine g_istore (ls' := [some (.ref 58), some (.int (M.1 5 3)), some (.int (1 : Int32)), some (.int (1 : Int32)), some (.int (z_tb q46.1)), some (.int (1 : Int32))]) dX10_readStep_207 (Nat.le_of_ble_eq_true rfl) rfl ?_
                            refine g_iload dX10_readStep_209 rfl ?_
                            refine g_if_eq (t := 246) dX10_readStep_211 (by decide) (fun c58 => ?_) (fun c58 => ?_)
                            · exact absurd c58 (by decide)
                            · skip
                              refine g_iload_n dX10_readStep_214 rfl rfl ?_
                              refine g_if_eq (t := 246) dX10_readStep_215 (by decide) (fun c59 => ?_) (fun c59 => ?_)
                              · exact absurd c59 (by decide)
                              · skip
                                refine g_aload_n dX10_readStep_218 rfl rfl ?_
                                refine g_get (a := 56) (v := .ref 59) dX10_readStep_219 f_10_11 sh_56 rfl rfl ?_
                                refine g_aload_n dX10_readStep_222 rfl rfl ?_
                                refine g_get (a := 56) (v := .int (q54.2.1 56 3)) dX10_readStep_223 f_10_28 sh_56 rfl rfl ?_
                                refine g_aload_n dX10_readStep_226 rfl rfl ?_
                                refine g_get (a := 56) (v := .ref 49) dX10_readStep_227 f_10_19 sh_56 rfl rfl ?_
                                refine g_get (a := 47) (v := .int (q54.2.1 47 5)) dX10_readStep_230 f_10_65 sh_47 rfl rfl ?_
                                refine g_iconst (v := (1 : Int32)) dX10_readStep_233 (by decide) ?_
                                refine g_isub dX10_readStep_234 ?_
                                by_cases g60 : (q54.2.1 56 3) < 0 ∨ 3 ≤ (q54.2.1 56 3).toNatClampNeg
                                · rw [if_pos g60] at h; cases h
                                replace h := z_iff g60 h
                                refine g_iast (a := 57) dX10_readStep_235 sh_57 g60 ?_
                                refine g_aload_n dX10_readStep_236 rfl rfl ?_
                                refine g_dup dX10_readStep_237 rfl ?_
                                refine g_get (a := 56) (v := .int (q54.2.1 56 3)) dX10_readStep_238 f_10_28 sh_56 rfl (by simp [z_fv, z_wI, z_wL, z_wLs, upd, vp_updL]) ?_
                                refine g_iconst (v := (1 : Int32)) dX10_readStep_241 (by decide) ?_
                                refine g_iadd dX10_readStep_242 ?_
                                refine g_putI (a := 56) dX10_readStep_243 f_10_28 sh_56 rfl rfl rfl ?_
                                refine g_iload dX10_readStep_246 rfl ?_
                                cases h
                                exact g_iret dX10_readStep_248 rfl rfl hq
                    · replace h := z_ift c45 h
                      refine g_aload_n dX10_readStep_148 rfl rfl ?_
                      obtain ⟨q61, e62, h⟩ := z_bd h
                      refine g_callV (a := 56) (as := []) (rest := []) (c := mX10_takeSworn) (k1 := 4) dX10_readStep_149 rfl rfl rfl sh_56 rfl rfl (Nat.le_of_ble_eq_true rfl) (Nat.le_of_ble_eq_true rfl) (by decide) ?_
                      refine A_X10_takeSworn e62 ?_
                      show z_G none 5 mX10_readStep 152 [some (.ref 58), some (.int (M.1 5 3)), some (.int (1 : Int32)), some (.int (1 : Int32)), none, none] [.int (z_tb q61.1)] q61.2 Q
                      refine g_goto (t := 160) dX10_readStep_152 (by decide) ?_
                      refine g_istore (ls' := [some (.ref 58), some (.int (M.1 5 3)), some (.int (1 : Int32)), some (.int (1 : Int32)), some (.int (z_tb q61.1)), none]) dX10_readStep_160 (Nat.le_of_ble_eq_true rfl) rfl ?_
                      refine g_iload dX10_readStep_162 rfl ?_
                      refine g_if_eq (t := 206) dX10_readStep_164 (by decide) (fun c63 => ?_) (fun c63 => ?_)
                      · replace h := z_iff (z_tb0.mp c63) h
                        refine g_iconst (v := (0 : Int32)) dX10_readStep_206 (by decide) ?_
                        refine g_istore (ls' := [some (.ref 58), some (.int (M.1 5 3)), some (.int (1 : Int32)), some (.int (1 : Int32)), some (.int (z_tb q61.1)), some (.int (0 : Int32))]) dX10_readStep_207 (Nat.le_of_ble_eq_true rfl) rfl ?_
                        refine g_iload dX10_readStep_209 rfl ?_
                        refine g_if_eq (t := 246) dX10_readStep_211 (by decide) (fun c64 => ?_) (fun c64 => ?_)
                        · skip
                          refine g_iload dX10_readStep_246 rfl ?_
                          cases h
                          exact g_iret dX10_readStep_248 rfl rfl hq
                        · exact absurd c64 (by decide)
                      · replace h := z_ift (z_tbn.mp c63) h
                        refine g_aload_n dX10_readStep_167 rfl rfl ?_
                        refine g_get (a := 56) (v := .ref 7) dX10_readStep_168 f_10_15 sh_56 rfl rfl ?_
                        refine g_bipush (v := (33 : Int32)) dX10_readStep_171 (by decide) ?_
                        obtain ⟨q65, e66, h⟩ := z_bd h
                        refine g_callV (a := 5) (as := [.int (33 : Int32)]) (rest := []) (c := mX7_take) (k1 := 3) dX10_readStep_173 rfl rfl rfl sh_5 rfl rfl (Nat.le_of_ble_eq_true rfl) (Nat.le_of_ble_eq_true rfl) (by decide) ?_
                        refine A_X7_take e66 ?_
                        show z_G none 5 mX10_readStep 176 [some (.ref 58), some (.int (M.1 5 3)), some (.int (1 : Int32)), some (.int (1 : Int32)), some (.int (z_tb q61.1)), none] [.int (z_tb q65.1)] q65.2 Q
                        refine g_if_eq (t := 206) dX10_readStep_176 (by decide) (fun c67 => ?_) (fun c67 => ?_)
                        · replace h := z_iff (z_tb0.mp c67) h
                          refine g_iconst (v := (0 : Int32)) dX10_readStep_206 (by decide) ?_
                          refine g_istore (ls' := [some (.ref 58), some (.int (M.1 5 3)), some (.int (1 : Int32)), some (.int (1 : Int32)), some (.int (z_tb q61.1)), some (.int (0 : Int32))]) dX10_readStep_207 (Nat.le_of_ble_eq_true rfl) rfl ?_
                          refine g_iload dX10_readStep_209 rfl ?_
                          refine g_if_eq (t := 246) dX10_readStep_211 (by decide) (fun c68 => ?_) (fun c68 => ?_)
                          · skip
                            refine g_iload dX10_readStep_246 rfl ?_
                            cases h
                            exact g_iret dX10_readStep_248 rfl rfl hq
                          · exact absurd c68 (by decide)
                        · replace h := z_ift (z_tbn.mp c67) h
                          refine g_aload_n dX10_readStep_179 rfl rfl ?_
                          refine g_get (a := 56) (v := .ref 49) dX10_readStep_180 f_10_19 sh_56 rfl rfl ?_
                          refine g_iload_n dX10_readStep_183 rfl rfl ?_
                          refine g_aload_n dX10_readStep_184 rfl rfl ?_
                          refine g_get (a := 56) (v := .int (q65.2.1 56 4)) dX10_readStep_185 f_10_75 sh_56 rfl rfl ?_
                          refine g_aload_n dX10_readStep_188 rfl rfl ?_
                          refine g_get (a := 56) (v := .int (q65.2.1 56 5)) dX10_readStep_189 f_10_78 sh_56 rfl rfl ?_
                          refine g_aload_n dX10_readStep_192 rfl rfl ?_
                          refine g_get (a := 56) (v := .int (q65.2.1 56 6)) dX10_readStep_193 f_10_81 sh_56 rfl rfl ?_
                          obtain ⟨q69, e70, h⟩ := z_bd h
                          refine g_callV (a := 47) (as := [.int (M.1 5 3), .int (q65.2.1 56 4), .int (q65.2.1 56 5), .int (q65.2.1 56 6)]) (rest := []) (c := mX9_add) (k1 := 0) dX10_readStep_196 rfl rfl rfl sh_47 rfl rfl (Nat.le_of_ble_eq_true rfl) (Nat.le_of_ble_eq_true rfl) (by decide) ?_
                          refine A_X9_add z_par_30 e70 ?_
                          show z_G none 5 mX10_readStep 199 [some (.ref 58), some (.int (M.1 5 3)), some (.int (1 : Int32)), some (.int (1 : Int32)), some (.int (z_tb q61.1)), none] [.int (z_tb q69.1)] q69.2 Q
                          refine g_if_eq (t := 206) dX10_readStep_199 (by decide) (fun c71 => ?_) (fun c71 => ?_)
                          · replace h := z_iff (z_tb0.mp c71) h
                            refine g_iconst (v := (0 : Int32)) dX10_readStep_206 (by decide) ?_
                            refine g_istore (ls' := [some (.ref 58), some (.int (M.1 5 3)), some (.int (1 : Int32)), some (.int (1 : Int32)), some (.int (z_tb q61.1)), some (.int (0 : Int32))]) dX10_readStep_207 (Nat.le_of_ble_eq_true rfl) rfl ?_
                            refine g_iload dX10_readStep_209 rfl ?_
                            refine g_if_eq (t := 246) dX10_readStep_211 (by decide) (fun c72 => ?_) (fun c72 => ?_)
                            · skip
                              refine g_iload dX10_readStep_246 rfl ?_
                              cases h
                              exact g_iret dX10_readStep_248 rfl rfl hq
                            · exact absurd c72 (by decide)
                          · replace h := z_ift (z_tbn.mp c71) h
                            refine g_iconst (v := (1 : Int32)) dX10_readStep_202 (by decide) ?_
                            refine g_goto (t := 207) dX10_readStep_203 (by decide) ?_
                            refine g_istore (ls' := [some (.ref 58), some (.int (M.1 5 3)), some (.int (1 : Int32)), some (.int (1 : Int32)), some (.int (z_tb q61.1)), some (.int (1 : Int32))]) dX10_readStep_207 (Nat.le_of_ble_eq_true rfl) rfl ?_
                            refine g_iload dX10_readStep_209 rfl ?_
                            refine g_if_eq (t := 246) dX10_readStep_211 (by decide) (fun c73 => ?_) (fun c73 => ?_)
                            · exact absurd c73 (by decide)
                            · skip
                              refine g_iload_n dX10_readStep_214 rfl rfl ?_
                              refine g_if_eq (t := 246) dX10_readStep_215 (by decide) (fun c74 => ?_) (fun c74 => ?_)
                              · exact absurd c74 (by decide)
                              · skip
                                refine g_aload_n dX10_readStep_218 rfl rfl ?_
                                refine g_get (a := 56) (v := .ref 59) dX10_readStep_219 f_10_11 sh_56 rfl rfl ?_
                                refine g_aload_n dX10_readStep_222 rfl rfl ?_
                                refine g_get (a := 56) (v := .int (q69.2.1 56 3)) dX10_readStep_223 f_10_28 sh_56 rfl rfl ?_
                                refine g_aload_n dX10_readStep_226 rfl rfl ?_
                                refine g_get (a := 56) (v := .ref 49) dX10_readStep_227 f_10_19 sh_56 rfl rfl ?_
                                refine g_get (a := 47) (v := .int (q69.2.1 47 5)) dX10_readStep_230 f_10_65 sh_47 rfl rfl ?_
                                refine g_iconst (v := (1 : Int32)) dX10_readStep_233 (by decide) ?_
                                refine g_isub dX10_readStep_234 ?_
                                by_cases g75 : (q69.2.1 56 3) < 0 ∨ 3 ≤ (q69.2.1 56 3).toNatClampNeg
                                · rw [if_pos g75] at h; cases h
                                replace h := z_iff g75 h
                                refine g_iast (a := 57) dX10_readStep_235 sh_57 g75 ?_
                                refine g_aload_n dX10_readStep_236 rfl rfl ?_
                                refine g_dup dX10_readStep_237 rfl ?_
                                refine g_get (a := 56) (v := .int (q69.2.1 56 3)) dX10_readStep_238 f_10_28 sh_56 rfl (by simp [z_fv, z_wI, z_wL, z_wLs, upd, vp_updL]) ?_
                                refine g_iconst (v := (1 : Int32)) dX10_readStep_241 (by decide) ?_
                                refine g_iadd dX10_readStep_242 ?_
                                refine g_putI (a := 56) dX10_readStep_243 f_10_28 sh_56 rfl rfl rfl ?_
                                refine g_iload dX10_readStep_246 rfl ?_
                                cases h
                                exact g_iret dX10_readStep_248 rfl rfl hq
                  · replace h := z_ift c44 h
                    refine g_aload_n dX10_readStep_135 rfl rfl ?_
                    obtain ⟨q76, e77, h⟩ := z_bd h
                    refine g_callV (a := 56) (as := []) (rest := []) (c := mX10_takeTest) (k1 := 4) dX10_readStep_136 rfl rfl rfl sh_56 rfl rfl (Nat.le_of_ble_eq_true rfl) (Nat.le_of_ble_eq_true rfl) (by decide) ?_
                    refine A_X10_takeTest e77 ?_
                    show z_G none 5 mX10_readStep 139 [some (.ref 58), some (.int (M.1 5 3)), some (.int (1 : Int32)), some (.int (1 : Int32)), none, none] [.int (z_tb q76.1)] q76.2 Q
                    refine g_goto (t := 160) dX10_readStep_139 (by decide) ?_
                    refine g_istore (ls' := [some (.ref 58), some (.int (M.1 5 3)), some (.int (1 : Int32)), some (.int (1 : Int32)), some (.int (z_tb q76.1)), none]) dX10_readStep_160 (Nat.le_of_ble_eq_true rfl) rfl ?_
                    refine g_iload dX10_readStep_162 rfl ?_
                    refine g_if_eq (t := 206) dX10_readStep_164 (by decide) (fun c78 => ?_) (fun c78 => ?_)
                    · replace h := z_iff (z_tb0.mp c78) h
                      refine g_iconst (v := (0 : Int32)) dX10_readStep_206 (by decide) ?_
                      refine g_istore (ls' := [some (.ref 58), some (.int (M.1 5 3)), some (.int (1 : Int32)), some (.int (1 : Int32)), some (.int (z_tb q76.1)), some (.int (0 : Int32))]) dX10_readStep_207 (Nat.le_of_ble_eq_true rfl) rfl ?_
                      refine g_iload dX10_readStep_209 rfl ?_
                      refine g_if_eq (t := 246) dX10_readStep_211 (by decide) (fun c79 => ?_) (fun c79 => ?_)
                      · skip
                        refine g_iload dX10_readStep_246 rfl ?_
                        cases h
                        exact g_iret dX10_readStep_248 rfl rfl hq
                      · exact absurd c79 (by decide)
                    · replace h := z_ift (z_tbn.mp c78) h
                      refine g_aload_n dX10_readStep_167 rfl rfl ?_
                      refine g_get (a := 56) (v := .ref 7) dX10_readStep_168 f_10_15 sh_56 rfl rfl ?_
                      refine g_bipush (v := (33 : Int32)) dX10_readStep_171 (by decide) ?_
                      obtain ⟨q80, e81, h⟩ := z_bd h
                      refine g_callV (a := 5) (as := [.int (33 : Int32)]) (rest := []) (c := mX7_take) (k1 := 3) dX10_readStep_173 rfl rfl rfl sh_5 rfl rfl (Nat.le_of_ble_eq_true rfl) (Nat.le_of_ble_eq_true rfl) (by decide) ?_
                      refine A_X7_take e81 ?_
                      show z_G none 5 mX10_readStep 176 [some (.ref 58), some (.int (M.1 5 3)), some (.int (1 : Int32)), some (.int (1 : Int32)), some (.int (z_tb q76.1)), none] [.int (z_tb q80.1)] q80.2 Q
                      refine g_if_eq (t := 206) dX10_readStep_176 (by decide) (fun c82 => ?_) (fun c82 => ?_)
                      · replace h := z_iff (z_tb0.mp c82) h
                        refine g_iconst (v := (0 : Int32)) dX10_readStep_206 (by decide) ?_
                        refine g_istore (ls' := [some (.ref 58), some (.int (M.1 5 3)), some (.int (1 : Int32)), some (.int (1 : Int32)), some (.int (z_tb q76.1)), some (.int (0 : Int32))]) dX10_readStep_207 (Nat.le_of_ble_eq_true rfl) rfl ?_
                        refine g_iload dX10_readStep_209 rfl ?_
                        refine g_if_eq (t := 246) dX10_readStep_211 (by decide) (fun c83 => ?_) (fun c83 => ?_)
                        · skip
                          refine g_iload dX10_readStep_246 rfl ?_
                          cases h
                          exact g_iret dX10_readStep_248 rfl rfl hq
                        · exact absurd c83 (by decide)
                      · replace h := z_ift (z_tbn.mp c82) h
                        refine g_aload_n dX10_readStep_179 rfl rfl ?_
                        refine g_get (a := 56) (v := .ref 49) dX10_readStep_180 f_10_19 sh_56 rfl rfl ?_
                        refine g_iload_n dX10_readStep_183 rfl rfl ?_
                        refine g_aload_n dX10_readStep_184 rfl rfl ?_
                        refine g_get (a := 56) (v := .int (q80.2.1 56 4)) dX10_readStep_185 f_10_75 sh_56 rfl rfl ?_
                        refine g_aload_n dX10_readStep_188 rfl rfl ?_
                        refine g_get (a := 56) (v := .int (q80.2.1 56 5)) dX10_readStep_189 f_10_78 sh_56 rfl rfl ?_
                        refine g_aload_n dX10_readStep_192 rfl rfl ?_
                        refine g_get (a := 56) (v := .int (q80.2.1 56 6)) dX10_readStep_193 f_10_81 sh_56 rfl rfl ?_
                        obtain ⟨q84, e85, h⟩ := z_bd h
                        refine g_callV (a := 47) (as := [.int (M.1 5 3), .int (q80.2.1 56 4), .int (q80.2.1 56 5), .int (q80.2.1 56 6)]) (rest := []) (c := mX9_add) (k1 := 0) dX10_readStep_196 rfl rfl rfl sh_47 rfl rfl (Nat.le_of_ble_eq_true rfl) (Nat.le_of_ble_eq_true rfl) (by decide) ?_
                        refine A_X9_add z_par_30 e85 ?_
                        show z_G none 5 mX10_readStep 199 [some (.ref 58), some (.int (M.1 5 3)), some (.int (1 : Int32)), some (.int (1 : Int32)), some (.int (z_tb q76.1)), none] [.int (z_tb q84.1)] q84.2 Q
                        refine g_if_eq (t := 206) dX10_readStep_199 (by decide) (fun c86 => ?_) (fun c86 => ?_)
                        · replace h := z_iff (z_tb0.mp c86) h
                          refine g_iconst (v := (0 : Int32)) dX10_readStep_206 (by decide) ?_
                          refine g_istore (ls' := [some (.ref 58), some (.int (M.1 5 3)), some (.int (1 : Int32)), some (.int (1 : Int32)), some (.int (z_tb q76.1)), some (.int (0 : Int32))]) dX10_readStep_207 (Nat.le_of_ble_eq_true rfl) rfl ?_
                          refine g_iload dX10_readStep_209 rfl ?_
                          refine g_if_eq (t := 246) dX10_readStep_211 (by decide) (fun c87 => ?_) (fun c87 => ?_)
                          · skip
                            refine g_iload dX10_readStep_246 rfl ?_
                            cases h
                            exact g_iret dX10_readStep_248 rfl rfl hq
                          · exact absurd c87 (by decide)
                        · replace h := z_ift (z_tbn.mp c86) h
                          refine g_iconst (v := (1 : Int32)) dX10_readStep_202 (by decide) ?_
                          refine g_goto (t := 207) dX10_readStep_203 (by decide) ?_
                          refine g_istore (ls' := [some (.ref 58), some (.int (M.1 5 3)), some (.int (1 : Int32)), some (.int (1 : Int32)), some (.int (z_tb q76.1)), some (.int (1 : Int32))]) dX10_readStep_207 (Nat.le_of_ble_eq_true rfl) rfl ?_
                          refine g_iload dX10_readStep_209 rfl ?_
                          refine g_if_eq (t := 246) dX10_readStep_211 (by decide) (fun c88 => ?_) (fun c88 => ?_)
                          · exact absurd c88 (by decide)
                          · skip
                            refine g_iload_n dX10_readStep_214 rfl rfl ?_
                            refine g_if_eq (t := 246) dX10_readStep_215 (by decide) (fun c89 => ?_) (fun c89 => ?_)
                            · exact absurd c89 (by decide)
                            · skip
                              refine g_aload_n dX10_readStep_218 rfl rfl ?_
                              refine g_get (a := 56) (v := .ref 59) dX10_readStep_219 f_10_11 sh_56 rfl rfl ?_
                              refine g_aload_n dX10_readStep_222 rfl rfl ?_
                              refine g_get (a := 56) (v := .int (q84.2.1 56 3)) dX10_readStep_223 f_10_28 sh_56 rfl rfl ?_
                              refine g_aload_n dX10_readStep_226 rfl rfl ?_
                              refine g_get (a := 56) (v := .ref 49) dX10_readStep_227 f_10_19 sh_56 rfl rfl ?_
                              refine g_get (a := 47) (v := .int (q84.2.1 47 5)) dX10_readStep_230 f_10_65 sh_47 rfl rfl ?_
                              refine g_iconst (v := (1 : Int32)) dX10_readStep_233 (by decide) ?_
                              refine g_isub dX10_readStep_234 ?_
                              by_cases g90 : (q84.2.1 56 3) < 0 ∨ 3 ≤ (q84.2.1 56 3).toNatClampNeg
                              · rw [if_pos g90] at h; cases h
                              replace h := z_iff g90 h
                              refine g_iast (a := 57) dX10_readStep_235 sh_57 g90 ?_
                              refine g_aload_n dX10_readStep_236 rfl rfl ?_
                              refine g_dup dX10_readStep_237 rfl ?_
                              refine g_get (a := 56) (v := .int (q84.2.1 56 3)) dX10_readStep_238 f_10_28 sh_56 rfl (by simp [z_fv, z_wI, z_wL, z_wLs, upd, vp_updL]) ?_
                              refine g_iconst (v := (1 : Int32)) dX10_readStep_241 (by decide) ?_
                              refine g_iadd dX10_readStep_242 ?_
                              refine g_putI (a := 56) dX10_readStep_243 f_10_28 sh_56 rfl rfl rfl ?_
                              refine g_iload dX10_readStep_246 rfl ?_
                              cases h
                              exact g_iret dX10_readStep_248 rfl rfl hq
                · replace h := z_iff c41 h
                  refine g_aload_n dX10_readStep_97 rfl rfl ?_
                  refine g_get (a := 56) (v := .ref 7) dX10_readStep_98 f_10_15 sh_56 rfl rfl ?_
                  refine g_bipush (v := (7 : Int32)) dX10_readStep_101 (by decide) ?_
                  obtain ⟨q91, e92, h⟩ := z_bd h
                  refine g_callV (a := 5) (as := [.int (7 : Int32)]) (rest := []) (c := mX7_fail) (k1 := 0) dX10_readStep_103 rfl rfl rfl sh_5 rfl rfl (Nat.le_of_ble_eq_true rfl) (Nat.le_of_ble_eq_true rfl) (by decide) ?_
                  refine A_X7_fail e92 ?_
                  show z_G none 5 mX10_readStep 106 [some (.ref 58), some (.int (M.1 5 3)), some (.int (1 : Int32)), some (.int (1 : Int32)), none, none] [.int (z_tb q91.1)] q91.2 Q
                  cases h
                  exact g_iret dX10_readStep_106 rfl nb_tb hq
            · replace h := z_iff c39 h
              refine g_aload_n dX10_readStep_75 rfl rfl ?_
              refine g_get (a := 56) (v := .ref 7) dX10_readStep_76 f_10_15 sh_56 rfl rfl ?_
              refine g_bipush (v := (6 : Int32)) dX10_readStep_79 (by decide) ?_
              obtain ⟨q93, e94, h⟩ := z_bd h
              refine g_callV (a := 5) (as := [.int (6 : Int32)]) (rest := []) (c := mX7_fail) (k1 := 0) dX10_readStep_81 rfl rfl rfl sh_5 rfl rfl (Nat.le_of_ble_eq_true rfl) (Nat.le_of_ble_eq_true rfl) (by decide) ?_
              refine A_X7_fail e94 ?_
              show z_G none 5 mX10_readStep 84 [some (.ref 58), some (.int (M.1 5 3)), some (.int (1 : Int32)), some (.int (1 : Int32)), none, none] [.int (z_tb q93.1)] q93.2 Q
              cases h
              exact g_iret dX10_readStep_84 rfl nb_tb hq
          · exact absurd c38 (by decide)
        · replace h := z_iff c37 h
          refine g_iload_n dX10_readStep_38 rfl rfl ?_
          refine g_bipush (v := (27 : Int32)) dX10_readStep_39 (by decide) ?_
          refine g_ic_ne (t := 48) dX10_readStep_41 (by decide) (fun c95 => ?_) (fun c95 => ?_)
          · replace h := z_iff c95 h
            refine g_iconst (v := (0 : Int32)) dX10_readStep_48 (by decide) ?_
            refine g_istore_n (ls' := [some (.ref 58), some (.int (M.1 5 3)), some (.int (1 : Int32)), some (.int (0 : Int32)), none, none]) dX10_readStep_49 rfl (Nat.le_of_ble_eq_true rfl) rfl ?_
            refine g_iload_n dX10_readStep_50 rfl rfl ?_
            refine g_if_ne (t := 63) dX10_readStep_51 (by decide) (fun c96 => ?_) (fun c96 => ?_)
            · skip
              refine g_aload_n dX10_readStep_63 rfl rfl ?_
              refine g_get (a := 56) (v := .ref 49) dX10_readStep_64 f_10_19 sh_56 rfl rfl ?_
              refine g_get (a := 47) (v := .int (M.1 47 6)) dX10_readStep_67 f_10_72 sh_47 rfl rfl ?_
              refine g_bipush (v := (30 : Int32)) dX10_readStep_70 (by decide) ?_
              refine g_ic_lt (t := 85) dX10_readStep_72 (by decide) (fun c97 => ?_) (fun c97 => ?_)
              · replace h := z_ift c97 h
                refine g_iload_n dX10_readStep_85 rfl rfl ?_
                refine g_if_eq (t := 107) dX10_readStep_86 (by decide) (fun c98 => ?_) (fun c98 => ?_)
                · skip
                  refine g_aload_n dX10_readStep_107 rfl rfl ?_
                  refine g_get (a := 56) (v := .ref 7) dX10_readStep_108 f_10_15 sh_56 rfl rfl ?_
                  obtain ⟨q99, e100, h⟩ := z_bd h
                  refine g_callV (a := 5) (as := []) (rest := []) (c := mX7_advance) (k1 := 2) dX10_readStep_111 rfl rfl rfl sh_5 rfl rfl (Nat.le_of_ble_eq_true rfl) (Nat.le_of_ble_eq_true rfl) (by decide) ?_
                  refine A_X7_advance e100 ?_
                  show z_G none 5 mX10_readStep 114 [some (.ref 58), some (.int (M.1 5 3)), some (.int (1 : Int32)), some (.int (0 : Int32)), none, none] [] q99.2 Q
                  refine g_aload_n dX10_readStep_114 rfl rfl ?_
                  refine g_iconst (v := (0 : Int32)) dX10_readStep_115 (by decide) ?_
                  refine g_putI (a := 56) dX10_readStep_116 f_10_75 sh_56 rfl rfl rfl ?_
                  refine g_aload_n dX10_readStep_119 rfl rfl ?_
                  refine g_iconst (v := (0 : Int32)) dX10_readStep_120 (by decide) ?_
                  refine g_putI (a := 56) dX10_readStep_121 f_10_78 sh_56 rfl rfl rfl ?_
                  refine g_aload_n dX10_readStep_124 rfl rfl ?_
                  refine g_iconst (v := (0 : Int32)) dX10_readStep_125 (by decide) ?_
                  refine g_putI (a := 56) dX10_readStep_126 f_10_81 sh_56 rfl rfl rfl ?_
                  refine g_iload_n dX10_readStep_129 rfl rfl ?_
                  refine g_bipush (v := (25 : Int32)) dX10_readStep_130 (by decide) ?_
                  refine g_ic_ne (t := 142) dX10_readStep_132 (by decide) (fun c101 => ?_) (fun c101 => ?_)
                  · replace h := z_iff c101 h
                    refine g_iload_n dX10_readStep_142 rfl rfl ?_
                    refine g_bipush (v := (22 : Int32)) dX10_readStep_143 (by decide) ?_
                    refine g_ic_ne (t := 155) dX10_readStep_145 (by decide) (fun c102 => ?_) (fun c102 => ?_)
                    · replace h := z_iff c102 h
                      refine g_aload_n dX10_readStep_155 rfl rfl ?_
                      refine g_iload_n dX10_readStep_156 rfl rfl ?_
                      obtain ⟨q103, e104, h⟩ := z_bd h
                      refine g_callV (a := 56) (as := [.int (M.1 5 3)]) (rest := []) (c := mX10_takeNumbers) (k1 := 4) dX10_readStep_157 rfl rfl rfl sh_56 rfl rfl (Nat.le_of_ble_eq_true rfl) (Nat.le_of_ble_eq_true rfl) (by decide) ?_
                      refine A_X10_takeNumbers e104 ?_
                      show z_G none 5 mX10_readStep 160 [some (.ref 58), some (.int (M.1 5 3)), some (.int (1 : Int32)), some (.int (0 : Int32)), none, none] [.int (z_tb q103.1)] q103.2 Q
                      refine g_istore (ls' := [some (.ref 58), some (.int (M.1 5 3)), some (.int (1 : Int32)), some (.int (0 : Int32)), some (.int (z_tb q103.1)), none]) dX10_readStep_160 (Nat.le_of_ble_eq_true rfl) rfl ?_
                      refine g_iload dX10_readStep_162 rfl ?_
                      refine g_if_eq (t := 206) dX10_readStep_164 (by decide) (fun c105 => ?_) (fun c105 => ?_)
                      · replace h := z_iff (z_tb0.mp c105) h
                        refine g_iconst (v := (0 : Int32)) dX10_readStep_206 (by decide) ?_
                        refine g_istore (ls' := [some (.ref 58), some (.int (M.1 5 3)), some (.int (1 : Int32)), some (.int (0 : Int32)), some (.int (z_tb q103.1)), some (.int (0 : Int32))]) dX10_readStep_207 (Nat.le_of_ble_eq_true rfl) rfl ?_
                        refine g_iload dX10_readStep_209 rfl ?_
                        refine g_if_eq (t := 246) dX10_readStep_211 (by decide) (fun c106 => ?_) (fun c106 => ?_)
                        · skip
                          refine g_iload dX10_readStep_246 rfl ?_
                          cases h
                          exact g_iret dX10_readStep_248 rfl rfl hq
                        · exact absurd c106 (by decide)
                      · replace h := z_ift (z_tbn.mp c105) h
                        refine g_aload_n dX10_readStep_167 rfl rfl ?_
                        refine g_get (a := 56) (v := .ref 7) dX10_readStep_168 f_10_15 sh_56 rfl rfl ?_
                        refine g_bipush (v := (33 : Int32)) dX10_readStep_171 (by decide) ?_
                        obtain ⟨q107, e108, h⟩ := z_bd h
                        refine g_callV (a := 5) (as := [.int (33 : Int32)]) (rest := []) (c := mX7_take) (k1 := 3) dX10_readStep_173 rfl rfl rfl sh_5 rfl rfl (Nat.le_of_ble_eq_true rfl) (Nat.le_of_ble_eq_true rfl) (by decide) ?_
                        refine A_X7_take e108 ?_
                        show z_G none 5 mX10_readStep 176 [some (.ref 58), some (.int (M.1 5 3)), some (.int (1 : Int32)), some (.int (0 : Int32)), some (.int (z_tb q103.1)), none] [.int (z_tb q107.1)] q107.2 Q
                        refine g_if_eq (t := 206) dX10_readStep_176 (by decide) (fun c109 => ?_) (fun c109 => ?_)
                        · replace h := z_iff (z_tb0.mp c109) h
                          refine g_iconst (v := (0 : Int32)) dX10_readStep_206 (by decide) ?_
                          refine g_istore (ls' := [some (.ref 58), some (.int (M.1 5 3)), some (.int (1 : Int32)), some (.int (0 : Int32)), some (.int (z_tb q103.1)), some (.int (0 : Int32))]) dX10_readStep_207 (Nat.le_of_ble_eq_true rfl) rfl ?_
                          refine g_iload dX10_readStep_209 rfl ?_
                          refine g_if_eq (t := 246) dX10_readStep_211 (by decide) (fun c110 => ?_) (fun c110 => ?_)
                          · skip
                            refine g_iload dX10_readStep_246 rfl ?_
                            cases h
                            exact g_iret dX10_readStep_248 rfl rfl hq
                          · exact absurd c110 (by decide)
                        · replace h := z_ift (z_tbn.mp c109) h
                          refine g_aload_n dX10_readStep_179 rfl rfl ?_
                          refine g_get (a := 56) (v := .ref 49) dX10_readStep_180 f_10_19 sh_56 rfl rfl ?_
                          refine g_iload_n dX10_readStep_183 rfl rfl ?_
                          refine g_aload_n dX10_readStep_184 rfl rfl ?_
                          refine g_get (a := 56) (v := .int (q107.2.1 56 4)) dX10_readStep_185 f_10_75 sh_56 rfl rfl ?_
                          refine g_aload_n dX10_readStep_188 rfl rfl ?_
                          refine g_get (a := 56) (v := .int (q107.2.1 56 5)) dX10_readStep_189 f_10_78 sh_56 rfl rfl ?_
                          refine g_aload_n dX10_readStep_192 rfl rfl ?_
                          refine g_get (a := 56) (v := .int (q107.2.1 56 6)) dX10_readStep_193 f_10_81 sh_56 rfl rfl ?_
                          obtain ⟨q111, e112, h⟩ := z_bd h
                          refine g_callV (a := 47) (as := [.int (M.1 5 3), .int (q107.2.1 56 4), .int (q107.2.1 56 5), .int (q107.2.1 56 6)]) (rest := []) (c := mX9_add) (k1 := 0) dX10_readStep_196 rfl rfl rfl sh_47 rfl rfl (Nat.le_of_ble_eq_true rfl) (Nat.le_of_ble_eq_true rfl) (by decide) ?_
                          refine A_X9_add z_par_30 e112 ?_
                          show z_G none 5 mX10_readStep 199 [some (.ref 58), some (.int (M.1 5 3)), some (.int (1 : Int32)), some (.int (0 : Int32)), some (.int (z_tb q103.1)), none] [.int (z_tb q111.1)] q111.2 Q
                          refine g_if_eq (t := 206) dX10_readStep_199 (by decide) (fun c113 => ?_) (fun c113 => ?_)
                          · replace h := z_iff (z_tb0.mp c113) h
                            refine g_iconst (v := (0 : Int32)) dX10_readStep_206 (by decide) ?_
                            refine g_istore (ls' := [some (.ref 58), some (.int (M.1 5 3)), some (.int (1 : Int32)), some (.int (0 : Int32)), some (.int (z_tb q103.1)), some (.int (0 : Int32))]) dX10_readStep_207 (Nat.le_of_ble_eq_true rfl) rfl ?_
                            refine g_iload dX10_readStep_209 rfl ?_
                            refine g_if_eq (t := 246) dX10_readStep_211 (by decide) (fun c114 => ?_) (fun c114 => ?_)
                            · skip
                              refine g_iload dX10_readStep_246 rfl ?_
                              cases h
                              exact g_iret dX10_readStep_248 rfl rfl hq
                            · exact absurd c114 (by decide)
                          · replace h := z_ift (z_tbn.mp c113) h
                            refine g_iconst (v := (1 : Int32)) dX10_readStep_202 (by decide) ?_
                            refine g_goto (t := 207) dX10_readStep_203 (by decide) ?_
                            refine g_istore (ls' := [some (.ref 58), some (.int (M.1 5 3)), some (.int (1 : Int32)), some (.int (0 : Int32)), some (.int (z_tb q103.1)), some (.int (1 : Int32))]) dX10_readStep_207 (Nat.le_of_ble_eq_true rfl) rfl ?_
                            refine g_iload dX10_readStep_209 rfl ?_
                            refine g_if_eq (t := 246) dX10_readStep_211 (by decide) (fun c115 => ?_) (fun c115 => ?_)
                            · exact absurd c115 (by decide)
                            · skip
                              refine g_iload_n dX10_readStep_214 rfl rfl ?_
                              refine g_if_eq (t := 246) dX10_readStep_215 (by decide) (fun c116 => ?_) (fun c116 => ?_)
                              · skip
                                refine g_iload dX10_readStep_246 rfl ?_
                                cases h
                                exact g_iret dX10_readStep_248 rfl rfl hq
                              · exact absurd c116 (by decide)
                    · replace h := z_ift c102 h
                      refine g_aload_n dX10_readStep_148 rfl rfl ?_
                      obtain ⟨q117, e118, h⟩ := z_bd h
                      refine g_callV (a := 56) (as := []) (rest := []) (c := mX10_takeSworn) (k1 := 4) dX10_readStep_149 rfl rfl rfl sh_56 rfl rfl (Nat.le_of_ble_eq_true rfl) (Nat.le_of_ble_eq_true rfl) (by decide) ?_
                      refine A_X10_takeSworn e118 ?_
                      show z_G none 5 mX10_readStep 152 [some (.ref 58), some (.int (M.1 5 3)), some (.int (1 : Int32)), some (.int (0 : Int32)), none, none] [.int (z_tb q117.1)] q117.2 Q
                      refine g_goto (t := 160) dX10_readStep_152 (by decide) ?_
                      refine g_istore (ls' := [some (.ref 58), some (.int (M.1 5 3)), some (.int (1 : Int32)), some (.int (0 : Int32)), some (.int (z_tb q117.1)), none]) dX10_readStep_160 (Nat.le_of_ble_eq_true rfl) rfl ?_
                      refine g_iload dX10_readStep_162 rfl ?_
                      refine g_if_eq (t := 206) dX10_readStep_164 (by decide) (fun c119 => ?_) (fun c119 => ?_)
                      · replace h := z_iff (z_tb0.mp c119) h
                        refine g_iconst (v := (0 : Int32)) dX10_readStep_206 (by decide) ?_
                        refine g_istore (ls' := [some (.ref 58), some (.int (M.1 5 3)), some (.int (1 : Int32)), some (.int (0 : Int32)), some (.int (z_tb q117.1)), some (.int (0 : Int32))]) dX10_readStep_207 (Nat.le_of_ble_eq_true rfl) rfl ?_
                        refine g_iload dX10_readStep_209 rfl ?_
                        refine g_if_eq (t := 246) dX10_readStep_211 (by decide) (fun c120 => ?_) (fun c120 => ?_)
                        · skip
                          refine g_iload dX10_readStep_246 rfl ?_
                          cases h
                          exact g_iret dX10_readStep_248 rfl rfl hq
                        · exact absurd c120 (by decide)
                      · replace h := z_ift (z_tbn.mp c119) h
                        refine g_aload_n dX10_readStep_167 rfl rfl ?_
                        refine g_get (a := 56) (v := .ref 7) dX10_readStep_168 f_10_15 sh_56 rfl rfl ?_
                        refine g_bipush (v := (33 : Int32)) dX10_readStep_171 (by decide) ?_
                        obtain ⟨q121, e122, h⟩ := z_bd h
                        refine g_callV (a := 5) (as := [.int (33 : Int32)]) (rest := []) (c := mX7_take) (k1 := 3) dX10_readStep_173 rfl rfl rfl sh_5 rfl rfl (Nat.le_of_ble_eq_true rfl) (Nat.le_of_ble_eq_true rfl) (by decide) ?_
                        refine A_X7_take e122 ?_
                        show z_G none 5 mX10_readStep 176 [some (.ref 58), some (.int (M.1 5 3)), some (.int (1 : Int32)), some (.int (0 : Int32)), some (.int (z_tb q117.1)), none] [.int (z_tb q121.1)] q121.2 Q
                        refine g_if_eq (t := 206) dX10_readStep_176 (by decide) (fun c123 => ?_) (fun c123 => ?_)
                        · replace h := z_iff (z_tb0.mp c123) h
                          refine g_iconst (v := (0 : Int32)) dX10_readStep_206 (by decide) ?_
                          refine g_istore (ls' := [some (.ref 58), some (.int (M.1 5 3)), some (.int (1 : Int32)), some (.int (0 : Int32)), some (.int (z_tb q117.1)), some (.int (0 : Int32))]) dX10_readStep_207 (Nat.le_of_ble_eq_true rfl) rfl ?_
                          refine g_iload dX10_readStep_209 rfl ?_
                          refine g_if_eq (t := 246) dX10_readStep_211 (by decide) (fun c124 => ?_) (fun c124 => ?_)
                          · skip
                            refine g_iload dX10_readStep_246 rfl ?_
                            cases h
                            exact g_iret dX10_readStep_248 rfl rfl hq
                          · exact absurd c124 (by decide)
                        · replace h := z_ift (z_tbn.mp c123) h
                          refine g_aload_n dX10_readStep_179 rfl rfl ?_
                          refine g_get (a := 56) (v := .ref 49) dX10_readStep_180 f_10_19 sh_56 rfl rfl ?_
                          refine g_iload_n dX10_readStep_183 rfl rfl ?_
                          refine g_aload_n dX10_readStep_184 rfl rfl ?_
                          refine g_get (a := 56) (v := .int (q121.2.1 56 4)) dX10_readStep_185 f_10_75 sh_56 rfl rfl ?_
                          refine g_aload_n dX10_readStep_188 rfl rfl ?_
                          refine g_get (a := 56) (v := .int (q121.2.1 56 5)) dX10_readStep_189 f_10_78 sh_56 rfl rfl ?_
                          refine g_aload_n dX10_readStep_192 rfl rfl ?_
                          refine g_get (a := 56) (v := .int (q121.2.1 56 6)) dX10_readStep_193 f_10_81 sh_56 rfl rfl ?_
                          obtain ⟨q125, e126, h⟩ := z_bd h
                          refine g_callV (a := 47) (as := [.int (M.1 5 3), .int (q121.2.1 56 4), .int (q121.2.1 56 5), .int (q121.2.1 56 6)]) (rest := []) (c := mX9_add) (k1 := 0) dX10_readStep_196 rfl rfl rfl sh_47 rfl rfl (Nat.le_of_ble_eq_true rfl) (Nat.le_of_ble_eq_true rfl) (by decide) ?_
                          refine A_X9_add z_par_30 e126 ?_
                          show z_G none 5 mX10_readStep 199 [some (.ref 58), some (.int (M.1 5 3)), some (.int (1 : Int32)), some (.int (0 : Int32)), some (.int (z_tb q117.1)), none] [.int (z_tb q125.1)] q125.2 Q
                          refine g_if_eq (t := 206) dX10_readStep_199 (by decide) (fun c127 => ?_) (fun c127 => ?_)
                          · replace h := z_iff (z_tb0.mp c127) h
                            refine g_iconst (v := (0 : Int32)) dX10_readStep_206 (by decide) ?_
                            refine g_istore (ls' := [some (.ref 58), some (.int (M.1 5 3)), some (.int (1 : Int32)), some (.int (0 : Int32)), some (.int (z_tb q117.1)), some (.int (0 : Int32))]) dX10_readStep_207 (Nat.le_of_ble_eq_true rfl) rfl ?_
                            refine g_iload dX10_readStep_209 rfl ?_
                            refine g_if_eq (t := 246) dX10_readStep_211 (by decide) (fun c128 => ?_) (fun c128 => ?_)
                            · skip
                              refine g_iload dX10_readStep_246 rfl ?_
                              cases h
                              exact g_iret dX10_readStep_248 rfl rfl hq
                            · exact absurd c128 (by decide)
                          · replace h := z_ift (z_tbn.mp c127) h
                            refine g_iconst (v := (1 : Int32)) dX10_readStep_202 (by decide) ?_
                            refine g_goto (t := 207) dX10_readStep_203 (by decide) ?_
                            refine g_istore (ls' := [some (.ref 58), some (.int (M.1 5 3)), some (.int (1 : Int32)), some (.int (0 : Int32)), some (.int (z_tb q117.1)), some (.int (1 : Int32))]) dX10_readStep_207 (Nat.le_of_ble_eq_true rfl) rfl ?_
                            refine g_iload dX10_readStep_209 rfl ?_
                            refine g_if_eq (t := 246) dX10_readStep_211 (by decide) (fun c129 => ?_) (fun c129 => ?_)
                            · exact absurd c129 (by decide)
                            · skip
                              refine g_iload_n dX10_readStep_214 rfl rfl ?_
                              refine g_if_eq (t := 246) dX10_readStep_215 (by decide) (fun c130 => ?_) (fun c130 => ?_)
                              · skip
                                refine g_iload dX10_readStep_246 rfl ?_
                                cases h
                                exact g_iret dX10_readStep_248 rfl rfl hq
                              · exact absurd c130 (by decide)
                  · replace h := z_ift c101 h
                    refine g_aload_n dX10_readStep_135 rfl rfl ?_
                    obtain ⟨q131, e132, h⟩ := z_bd h
                    refine g_callV (a := 56) (as := []) (rest := []) (c := mX10_takeTest) (k1 := 4) dX10_readStep_136 rfl rfl rfl sh_56 rfl rfl (Nat.le_of_ble_eq_true rfl) (Nat.le_of_ble_eq_true rfl) (by decide) ?_
                    refine A_X10_takeTest e132 ?_
                    show z_G none 5 mX10_readStep 139 [some (.ref 58), some (.int (M.1 5 3)), some (.int (1 : Int32)), some (.int (0 : Int32)), none, none] [.int (z_tb q131.1)] q131.2 Q
                    refine g_goto (t := 160) dX10_readStep_139 (by decide) ?_
                    refine g_istore (ls' := [some (.ref 58), some (.int (M.1 5 3)), some (.int (1 : Int32)), some (.int (0 : Int32)), some (.int (z_tb q131.1)), none]) dX10_readStep_160 (Nat.le_of_ble_eq_true rfl) rfl ?_
                    refine g_iload dX10_readStep_162 rfl ?_
                    refine g_if_eq (t := 206) dX10_readStep_164 (by decide) (fun c133 => ?_) (fun c133 => ?_)
                    · replace h := z_iff (z_tb0.mp c133) h
                      refine g_iconst (v := (0 : Int32)) dX10_readStep_206 (by decide) ?_
                      refine g_istore (ls' := [some (.ref 58), some (.int (M.1 5 3)), some (.int (1 : Int32)), some (.int (0 : Int32)), some (.int (z_tb q131.1)), some (.int (0 : Int32))]) dX10_readStep_207 (Nat.le_of_ble_eq_true rfl) rfl ?_
                      refine g_iload dX10_readStep_209 rfl ?_
                      refine g_if_eq (t := 246) dX10_readStep_211 (by decide) (fun c134 => ?_) (fun c134 => ?_)
                      · skip
                        refine g_iload dX10_readStep_246 rfl ?_
                        cases h
                        exact g_iret dX10_readStep_248 rfl rfl hq
                      · exact absurd c134 (by decide)
                    · replace h := z_ift (z_tbn.mp c133) h
                      refine g_aload_n dX10_readStep_167 rfl rfl ?_
                      refine g_get (a := 56) (v := .ref 7) dX10_readStep_168 f_10_15 sh_56 rfl rfl ?_
                      refine g_bipush (v := (33 : Int32)) dX10_readStep_171 (by decide) ?_
                      obtain ⟨q135, e136, h⟩ := z_bd h
                      refine g_callV (a := 5) (as := [.int (33 : Int32)]) (rest := []) (c := mX7_take) (k1 := 3) dX10_readStep_173 rfl rfl rfl sh_5 rfl rfl (Nat.le_of_ble_eq_true rfl) (Nat.le_of_ble_eq_true rfl) (by decide) ?_
                      refine A_X7_take e136 ?_
                      show z_G none 5 mX10_readStep 176 [some (.ref 58), some (.int (M.1 5 3)), some (.int (1 : Int32)), some (.int (0 : Int32)), some (.int (z_tb q131.1)), none] [.int (z_tb q135.1)] q135.2 Q
                      refine g_if_eq (t := 206) dX10_readStep_176 (by decide) (fun c137 => ?_) (fun c137 => ?_)
                      · replace h := z_iff (z_tb0.mp c137) h
                        refine g_iconst (v := (0 : Int32)) dX10_readStep_206 (by decide) ?_
                        refine g_istore (ls' := [some (.ref 58), some (.int (M.1 5 3)), some (.int (1 : Int32)), some (.int (0 : Int32)), some (.int (z_tb q131.1)), some (.int (0 : Int32))]) dX10_readStep_207 (Nat.le_of_ble_eq_true rfl) rfl ?_
                        refine g_iload dX10_readStep_209 rfl ?_
                        refine g_if_eq (t := 246) dX10_readStep_211 (by decide) (fun c138 => ?_) (fun c138 => ?_)
                        · skip
                          refine g_iload dX10_readStep_246 rfl ?_
                          cases h
                          exact g_iret dX10_readStep_248 rfl rfl hq
                        · exact absurd c138 (by decide)
                      · replace h := z_ift (z_tbn.mp c137) h
                        refine g_aload_n dX10_readStep_179 rfl rfl ?_
                        refine g_get (a := 56) (v := .ref 49) dX10_readStep_180 f_10_19 sh_56 rfl rfl ?_
                        refine g_iload_n dX10_readStep_183 rfl rfl ?_
                        refine g_aload_n dX10_readStep_184 rfl rfl ?_
                        refine g_get (a := 56) (v := .int (q135.2.1 56 4)) dX10_readStep_185 f_10_75 sh_56 rfl rfl ?_
                        refine g_aload_n dX10_readStep_188 rfl rfl ?_
                        refine g_get (a := 56) (v := .int (q135.2.1 56 5)) dX10_readStep_189 f_10_78 sh_56 rfl rfl ?_
                        refine g_aload_n dX10_readStep_192 rfl rfl ?_
                        refine g_get (a := 56) (v := .int (q135.2.1 56 6)) dX10_readStep_193 f_10_81 sh_56 rfl rfl ?_
                        obtain ⟨q139, e140, h⟩ := z_bd h
                        refine g_callV (a := 47) (as := [.int (M.1 5 3), .int (q135.2.1 56 4), .int (q135.2.1 56 5), .int (q135.2.1 56 6)]) (rest := []) (c := mX9_add) (k1 := 0) dX10_readStep_196 rfl rfl rfl sh_47 rfl rfl (Nat.le_of_ble_eq_true rfl) (Nat.le_of_ble_eq_true rfl) (by decide) ?_
                        refine A_X9_add z_par_30 e140 ?_
                        show z_G none 5 mX10_readStep 199 [some (.ref 58), some (.int (M.1 5 3)), some (.int (1 : Int32)), some (.int (0 : Int32)), some (.int (z_tb q131.1)), none] [.int (z_tb q139.1)] q139.2 Q
                        refine g_if_eq (t := 206) dX10_readStep_199 (by decide) (fun c141 => ?_) (fun c141 => ?_)
                        · replace h := z_iff (z_tb0.mp c141) h
                          refine g_iconst (v := (0 : Int32)) dX10_readStep_206 (by decide) ?_
                          refine g_istore (ls' := [some (.ref 58), some (.int (M.1 5 3)), some (.int (1 : Int32)), some (.int (0 : Int32)), some (.int (z_tb q131.1)), some (.int (0 : Int32))]) dX10_readStep_207 (Nat.le_of_ble_eq_true rfl) rfl ?_
                          refine g_iload dX10_readStep_209 rfl ?_
                          refine g_if_eq (t := 246) dX10_readStep_211 (by decide) (fun c142 => ?_) (fun c142 => ?_)
                          · skip
                            refine g_iload dX10_readStep_246 rfl ?_
                            cases h
                            exact g_iret dX10_readStep_248 rfl rfl hq
                          · exact absurd c142 (by decide)
                        · replace h := z_ift (z_tbn.mp c141) h
                          refine g_iconst (v := (1 : Int32)) dX10_readStep_202 (by decide) ?_
                          refine g_goto (t := 207) dX10_readStep_203 (by decide) ?_
                          refine g_istore (ls' := [some (.ref 58), some (.int (M.1 5 3)), some (.int (1 : Int32)), some (.int (0 : Int32)), some (.int (z_tb q131.1)), some (.int (1 : Int32))]) dX10_readStep_207 (Nat.le_of_ble_eq_true rfl) rfl ?_
                          refine g_iload dX10_readStep_209 rfl ?_
                          refine g_if_eq (t := 246) dX10_readStep_211 (by decide) (fun c143 => ?_) (fun c143 => ?_)
                          · exact absurd c143 (by decide)
                          · skip
                            refine g_iload_n dX10_readStep_214 rfl rfl ?_
                            refine g_if_eq (t := 246) dX10_readStep_215 (by decide) (fun c144 => ?_) (fun c144 => ?_)
                            · skip
                              refine g_iload dX10_readStep_246 rfl ?_
                              cases h
                              exact g_iret dX10_readStep_248 rfl rfl hq
                            · exact absurd c144 (by decide)
                · exact absurd c98 (by decide)
              · replace h := z_iff c97 h
                refine g_aload_n dX10_readStep_75 rfl rfl ?_
                refine g_get (a := 56) (v := .ref 7) dX10_readStep_76 f_10_15 sh_56 rfl rfl ?_
                refine g_bipush (v := (6 : Int32)) dX10_readStep_79 (by decide) ?_
                obtain ⟨q145, e146, h⟩ := z_bd h
                refine g_callV (a := 5) (as := [.int (6 : Int32)]) (rest := []) (c := mX7_fail) (k1 := 0) dX10_readStep_81 rfl rfl rfl sh_5 rfl rfl (Nat.le_of_ble_eq_true rfl) (Nat.le_of_ble_eq_true rfl) (by decide) ?_
                refine A_X7_fail e146 ?_
                show z_G none 5 mX10_readStep 84 [some (.ref 58), some (.int (M.1 5 3)), some (.int (1 : Int32)), some (.int (0 : Int32)), none, none] [.int (z_tb q145.1)] q145.2 Q
                cases h
                exact g_iret dX10_readStep_84 rfl nb_tb hq
            · exact absurd c96 (by decide)
          · replace h := z_ift c95 h
            refine g_iconst (v := (1 : Int32)) dX10_readStep_44 (by decide) ?_
            refine g_goto (t := 49) dX10_readStep_45 (by decide) ?_
            refine g_istore_n (ls' := [some (.ref 58), some (.int (M.1 5 3)), some (.int (1 : Int32)), some (.int (1 : Int32)), none, none]) dX10_readStep_49 rfl (Nat.le_of_ble_eq_true rfl) rfl ?_
            refine g_iload_n dX10_readStep_50 rfl rfl ?_
            refine g_if_ne (t := 63) dX10_readStep_51 (by decide) (fun c147 => ?_) (fun c147 => ?_)
            · skip
              refine g_aload_n dX10_readStep_63 rfl rfl ?_
              refine g_get (a := 56) (v := .ref 49) dX10_readStep_64 f_10_19 sh_56 rfl rfl ?_
              refine g_get (a := 47) (v := .int (M.1 47 6)) dX10_readStep_67 f_10_72 sh_47 rfl rfl ?_
              refine g_bipush (v := (30 : Int32)) dX10_readStep_70 (by decide) ?_
              refine g_ic_lt (t := 85) dX10_readStep_72 (by decide) (fun c148 => ?_) (fun c148 => ?_)
              · replace h := z_ift c148 h
                refine g_iload_n dX10_readStep_85 rfl rfl ?_
                refine g_if_eq (t := 107) dX10_readStep_86 (by decide) (fun c149 => ?_) (fun c149 => ?_)
                · exact absurd c149 (by decide)
                · skip
                  refine g_aload_n dX10_readStep_89 rfl rfl ?_
                  refine g_get (a := 56) (v := .int (M.1 56 3)) dX10_readStep_90 f_10_28 sh_56 rfl rfl ?_
                  refine g_iconst (v := (3 : Int32)) dX10_readStep_93 (by decide) ?_
                  refine g_ic_lt (t := 107) dX10_readStep_94 (by decide) (fun c150 => ?_) (fun c150 => ?_)
                  · replace h := z_ift c150 h
                    refine g_aload_n dX10_readStep_107 rfl rfl ?_
                    refine g_get (a := 56) (v := .ref 7) dX10_readStep_108 f_10_15 sh_56 rfl rfl ?_
                    obtain ⟨q151, e152, h⟩ := z_bd h
                    refine g_callV (a := 5) (as := []) (rest := []) (c := mX7_advance) (k1 := 2) dX10_readStep_111 rfl rfl rfl sh_5 rfl rfl (Nat.le_of_ble_eq_true rfl) (Nat.le_of_ble_eq_true rfl) (by decide) ?_
                    refine A_X7_advance e152 ?_
                    show z_G none 5 mX10_readStep 114 [some (.ref 58), some (.int (M.1 5 3)), some (.int (1 : Int32)), some (.int (1 : Int32)), none, none] [] q151.2 Q
                    refine g_aload_n dX10_readStep_114 rfl rfl ?_
                    refine g_iconst (v := (0 : Int32)) dX10_readStep_115 (by decide) ?_
                    refine g_putI (a := 56) dX10_readStep_116 f_10_75 sh_56 rfl rfl rfl ?_
                    refine g_aload_n dX10_readStep_119 rfl rfl ?_
                    refine g_iconst (v := (0 : Int32)) dX10_readStep_120 (by decide) ?_
                    refine g_putI (a := 56) dX10_readStep_121 f_10_78 sh_56 rfl rfl rfl ?_
                    refine g_aload_n dX10_readStep_124 rfl rfl ?_
                    refine g_iconst (v := (0 : Int32)) dX10_readStep_125 (by decide) ?_
                    refine g_putI (a := 56) dX10_readStep_126 f_10_81 sh_56 rfl rfl rfl ?_
                    refine g_iload_n dX10_readStep_129 rfl rfl ?_
                    refine g_bipush (v := (25 : Int32)) dX10_readStep_130 (by decide) ?_
                    refine g_ic_ne (t := 142) dX10_readStep_132 (by decide) (fun c153 => ?_) (fun c153 => ?_)
                    · replace h := z_iff c153 h
                      refine g_iload_n dX10_readStep_142 rfl rfl ?_
                      refine g_bipush (v := (22 : Int32)) dX10_readStep_143 (by decide) ?_
                      refine g_ic_ne (t := 155) dX10_readStep_145 (by decide) (fun c154 => ?_) (fun c154 => ?_)
                      · replace h := z_iff c154 h
                        refine g_aload_n dX10_readStep_155 rfl rfl ?_
                        refine g_iload_n dX10_readStep_156 rfl rfl ?_
                        obtain ⟨q155, e156, h⟩ := z_bd h
                        refine g_callV (a := 56) (as := [.int (M.1 5 3)]) (rest := []) (c := mX10_takeNumbers) (k1 := 4) dX10_readStep_157 rfl rfl rfl sh_56 rfl rfl (Nat.le_of_ble_eq_true rfl) (Nat.le_of_ble_eq_true rfl) (by decide) ?_
                        refine A_X10_takeNumbers e156 ?_
                        show z_G none 5 mX10_readStep 160 [some (.ref 58), some (.int (M.1 5 3)), some (.int (1 : Int32)), some (.int (1 : Int32)), none, none] [.int (z_tb q155.1)] q155.2 Q
                        refine g_istore (ls' := [some (.ref 58), some (.int (M.1 5 3)), some (.int (1 : Int32)), some (.int (1 : Int32)), some (.int (z_tb q155.1)), none]) dX10_readStep_160 (Nat.le_of_ble_eq_true rfl) rfl ?_
                        refine g_iload dX10_readStep_162 rfl ?_
                        refine g_if_eq (t := 206) dX10_readStep_164 (by decide) (fun c157 => ?_) (fun c157 => ?_)
                        · replace h := z_iff (z_tb0.mp c157) h
                          refine g_iconst (v := (0 : Int32)) dX10_readStep_206 (by decide) ?_
                          refine g_istore (ls' := [some (.ref 58), some (.int (M.1 5 3)), some (.int (1 : Int32)), some (.int (1 : Int32)), some (.int (z_tb q155.1)), some (.int (0 : Int32))]) dX10_readStep_207 (Nat.le_of_ble_eq_true rfl) rfl ?_
                          refine g_iload dX10_readStep_209 rfl ?_
                          refine g_if_eq (t := 246) dX10_readStep_211 (by decide) (fun c158 => ?_) (fun c158 => ?_)
                          · skip
                            refine g_iload dX10_readStep_246 rfl ?_
                            cases h
                            exact g_iret dX10_readStep_248 rfl rfl hq
                          · exact absurd c158 (by decide)
                        · replace h := z_ift (z_tbn.mp c157) h
                          refine g_aload_n dX10_readStep_167 rfl rfl ?_
                          refine g_get (a := 56) (v := .ref 7) dX10_readStep_168 f_10_15 sh_56 rfl rfl ?_
                          refine g_bipush (v := (33 : Int32)) dX10_readStep_171 (by decide) ?_
                          obtain ⟨q159, e160, h⟩ := z_bd h
                          refine g_callV (a := 5) (as := [.int (33 : Int32)]) (rest := []) (c := mX7_take) (k1 := 3) dX10_readStep_173 rfl rfl rfl sh_5 rfl rfl (Nat.le_of_ble_eq_true rfl) (Nat.le_of_ble_eq_true rfl) (by decide) ?_
                          refine A_X7_take e160 ?_
                          show z_G none 5 mX10_readStep 176 [some (.ref 58), some (.int (M.1 5 3)), some (.int (1 : Int32)), some (.int (1 : Int32)), some (.int (z_tb q155.1)), none] [.int (z_tb q159.1)] q159.2 Q
                          refine g_if_eq (t := 206) dX10_readStep_176 (by decide) (fun c161 => ?_) (fun c161 => ?_)
                          · replace h := z_iff (z_tb0.mp c161) h
                            refine g_iconst (v := (0 : Int32)) dX10_readStep_206 (by decide) ?_
                            refine g_istore (ls' := [some (.ref 58), some (.int (M.1 5 3)), some (.int (1 : Int32)), some (.int (1 : Int32)), some (.int (z_tb q155.1)), some (.int (0 : Int32))]) dX10_readStep_207 (Nat.le_of_ble_eq_true rfl) rfl ?_
                            refine g_iload dX10_readStep_209 rfl ?_
                            refine g_if_eq (t := 246) dX10_readStep_211 (by decide) (fun c162 => ?_) (fun c162 => ?_)
                            · skip
                              refine g_iload dX10_readStep_246 rfl ?_
                              cases h
                              exact g_iret dX10_readStep_248 rfl rfl hq
                            · exact absurd c162 (by decide)
                          · replace h := z_ift (z_tbn.mp c161) h
                            refine g_aload_n dX10_readStep_179 rfl rfl ?_
                            refine g_get (a := 56) (v := .ref 49) dX10_readStep_180 f_10_19 sh_56 rfl rfl ?_
                            refine g_iload_n dX10_readStep_183 rfl rfl ?_
                            refine g_aload_n dX10_readStep_184 rfl rfl ?_
                            refine g_get (a := 56) (v := .int (q159.2.1 56 4)) dX10_readStep_185 f_10_75 sh_56 rfl rfl ?_
                            refine g_aload_n dX10_readStep_188 rfl rfl ?_
                            refine g_get (a := 56) (v := .int (q159.2.1 56 5)) dX10_readStep_189 f_10_78 sh_56 rfl rfl ?_
                            refine g_aload_n dX10_readStep_192 rfl rfl ?_
                            refine g_get (a := 56) (v := .int (q159.2.1 56 6)) dX10_readStep_193 f_10_81 sh_56 rfl rfl ?_
                            obtain ⟨q163, e164, h⟩ := z_bd h
                            refine g_callV (a := 47) (as := [.int (M.1 5 3), .int (q159.2.1 56 4), .int (q159.2.1 56 5), .int (q159.2.1 56 6)]) (rest := []) (c := mX9_add) (k1 := 0) dX10_readStep_196 rfl rfl rfl sh_47 rfl rfl (Nat.le_of_ble_eq_true rfl) (Nat.le_of_ble_eq_true rfl) (by decide) ?_
                            refine A_X9_add z_par_30 e164 ?_
                            show z_G none 5 mX10_readStep 199 [some (.ref 58), some (.int (M.1 5 3)), some (.int (1 : Int32)), some (.int (1 : Int32)), some (.int (z_tb q155.1)), none] [.int (z_tb q163.1)] q163.2 Q
                            refine g_if_eq (t := 206) dX10_readStep_199 (by decide) (fun c165 => ?_) (fun c165 => ?_)
                            · replace h := z_iff (z_tb0.mp c165) h
                              refine g_iconst (v := (0 : Int32)) dX10_readStep_206 (by decide) ?_
                              refine g_istore (ls' := [some (.ref 58), some (.int (M.1 5 3)), some (.int (1 : Int32)), some (.int (1 : Int32)), some (.int (z_tb q155.1)), some (.int (0 : Int32))]) dX10_readStep_207 (Nat.le_of_ble_eq_true rfl) rfl ?_
                              refine g_iload dX10_readStep_209 rfl ?_
                              refine g_if_eq (t := 246) dX10_readStep_211 (by decide) (fun c166 => ?_) (fun c166 => ?_)
                              · skip
                                refine g_iload dX10_readStep_246 rfl ?_
                                cases h
                                exact g_iret dX10_readStep_248 rfl rfl hq
                              · exact absurd c166 (by decide)
                            · replace h := z_ift (z_tbn.mp c165) h
                              refine g_iconst (v := (1 : Int32)) dX10_readStep_202 (by decide) ?_
                              refine g_goto (t := 207) dX10_readStep_203 (by decide) ?_
                              refine g_istore (ls' := [some (.ref 58), some (.int (M.1 5 3)), some (.int (1 : Int32)), some (.int (1 : Int32)), some (.int (z_tb q155.1)), some (.int (1 : Int32))]) dX10_readStep_207 (Nat.le_of_ble_eq_true rfl) rfl ?_
                              refine g_iload dX10_readStep_209 rfl ?_
                              refine g_if_eq (t := 246) dX10_readStep_211 (by decide) (fun c167 => ?_) (fun c167 => ?_)
                              · exact absurd c167 (by decide)
                              · skip
                                refine g_iload_n dX10_readStep_214 rfl rfl ?_
                                refine g_if_eq (t := 246) dX10_readStep_215 (by decide) (fun c168 => ?_) (fun c168 => ?_)
                                · exact absurd c168 (by decide)
                                · skip
                                  refine g_aload_n dX10_readStep_218 rfl rfl ?_
                                  refine g_get (a := 56) (v := .ref 59) dX10_readStep_219 f_10_11 sh_56 rfl rfl ?_
                                  refine g_aload_n dX10_readStep_222 rfl rfl ?_
                                  refine g_get (a := 56) (v := .int (q163.2.1 56 3)) dX10_readStep_223 f_10_28 sh_56 rfl rfl ?_
                                  refine g_aload_n dX10_readStep_226 rfl rfl ?_
                                  refine g_get (a := 56) (v := .ref 49) dX10_readStep_227 f_10_19 sh_56 rfl rfl ?_
                                  refine g_get (a := 47) (v := .int (q163.2.1 47 5)) dX10_readStep_230 f_10_65 sh_47 rfl rfl ?_
                                  refine g_iconst (v := (1 : Int32)) dX10_readStep_233 (by decide) ?_
                                  refine g_isub dX10_readStep_234 ?_
                                  by_cases g169 : (q163.2.1 56 3) < 0 ∨ 3 ≤ (q163.2.1 56 3).toNatClampNeg
                                  · rw [if_pos g169] at h; cases h
                                  replace h := z_iff g169 h
                                  refine g_iast (a := 57) dX10_readStep_235 sh_57 g169 ?_
                                  refine g_aload_n dX10_readStep_236 rfl rfl ?_
                                  refine g_dup dX10_readStep_237 rfl ?_
                                  refine g_get (a := 56) (v := .int (q163.2.1 56 3)) dX10_readStep_238 f_10_28 sh_56 rfl (by simp [z_fv, z_wI, z_wL, z_wLs, upd, vp_updL]) ?_
                                  refine g_iconst (v := (1 : Int32)) dX10_readStep_241 (by decide) ?_
                                  refine g_iadd dX10_readStep_242 ?_
                                  refine g_putI (a := 56) dX10_readStep_243 f_10_28 sh_56 rfl rfl rfl ?_
                                  refine g_iload dX10_readStep_246 rfl ?_
                                  cases h
                                  exact g_iret dX10_readStep_248 rfl rfl hq
                      · replace h := z_ift c154 h
                        refine g_aload_n dX10_readStep_148 rfl rfl ?_
                        obtain ⟨q170, e171, h⟩ := z_bd h
                        refine g_callV (a := 56) (as := []) (rest := []) (c := mX10_takeSworn) (k1 := 4) dX10_readStep_149 rfl rfl rfl sh_56 rfl rfl (Nat.le_of_ble_eq_true rfl) (Nat.le_of_ble_eq_true rfl) (by decide) ?_
                        refine A_X10_takeSworn e171 ?_
                        show z_G none 5 mX10_readStep 152 [some (.ref 58), some (.int (M.1 5 3)), some (.int (1 : Int32)), some (.int (1 : Int32)), none, none] [.int (z_tb q170.1)] q170.2 Q
                        refine g_goto (t := 160) dX10_readStep_152 (by decide) ?_
                        refine g_istore (ls' := [some (.ref 58), some (.int (M.1 5 3)), some (.int (1 : Int32)), some (.int (1 : Int32)), some (.int (z_tb q170.1)), none]) dX10_readStep_160 (Nat.le_of_ble_eq_true rfl) rfl ?_
                        refine g_iload dX10_readStep_162 rfl ?_
                        refine g_if_eq (t := 206) dX10_readStep_164 (by decide) (fun c172 => ?_) (fun c172 => ?_)
                        · replace h := z_iff (z_tb0.mp c172) h
                          refine g_iconst (v := (0 : Int32)) dX10_readStep_206 (by decide) ?_
                          refine g_istore (ls' := [some (.ref 58), some (.int (M.1 5 3)), some (.int (1 : Int32)), some (.int (1 : Int32)), some (.int (z_tb q170.1)), some (.int (0 : Int32))]) dX10_readStep_207 (Nat.le_of_ble_eq_true rfl) rfl ?_
                          refine g_iload dX10_readStep_209 rfl ?_
                          refine g_if_eq (t := 246) dX10_readStep_211 (by decide) (fun c173 => ?_) (fun c173 => ?_)
                          · skip
                            refine g_iload dX10_readStep_246 rfl ?_
                            cases h
                            exact g_iret dX10_readStep_248 rfl rfl hq
                          · exact absurd c173 (by decide)
                        · replace h := z_ift (z_tbn.mp c172) h
                          refine g_aload_n dX10_readStep_167 rfl rfl ?_
                          refine g_get (a := 56) (v := .ref 7) dX10_readStep_168 f_10_15 sh_56 rfl rfl ?_
                          refine g_bipush (v := (33 : Int32)) dX10_readStep_171 (by decide) ?_
                          obtain ⟨q174, e175, h⟩ := z_bd h
                          refine g_callV (a := 5) (as := [.int (33 : Int32)]) (rest := []) (c := mX7_take) (k1 := 3) dX10_readStep_173 rfl rfl rfl sh_5 rfl rfl (Nat.le_of_ble_eq_true rfl) (Nat.le_of_ble_eq_true rfl) (by decide) ?_
                          refine A_X7_take e175 ?_
                          show z_G none 5 mX10_readStep 176 [some (.ref 58), some (.int (M.1 5 3)), some (.int (1 : Int32)), some (.int (1 : Int32)), some (.int (z_tb q170.1)), none] [.int (z_tb q174.1)] q174.2 Q
                          refine g_if_eq (t := 206) dX10_readStep_176 (by decide) (fun c176 => ?_) (fun c176 => ?_)
                          · replace h := z_iff (z_tb0.mp c176) h
                            refine g_iconst (v := (0 : Int32)) dX10_readStep_206 (by decide) ?_
                            refine g_istore (ls' := [some (.ref 58), some (.int (M.1 5 3)), some (.int (1 : Int32)), some (.int (1 : Int32)), some (.int (z_tb q170.1)), some (.int (0 : Int32))]) dX10_readStep_207 (Nat.le_of_ble_eq_true rfl) rfl ?_
                            refine g_iload dX10_readStep_209 rfl ?_
                            refine g_if_eq (t := 246) dX10_readStep_211 (by decide) (fun c177 => ?_) (fun c177 => ?_)
                            · skip
                              refine g_iload dX10_readStep_246 rfl ?_
                              cases h
                              exact g_iret dX10_readStep_248 rfl rfl hq
                            · exact absurd c177 (by decide)
                          · replace h := z_ift (z_tbn.mp c176) h
                            refine g_aload_n dX10_readStep_179 rfl rfl ?_
                            refine g_get (a := 56) (v := .ref 49) dX10_readStep_180 f_10_19 sh_56 rfl rfl ?_
                            refine g_iload_n dX10_readStep_183 rfl rfl ?_
                            refine g_aload_n dX10_readStep_184 rfl rfl ?_
                            refine g_get (a := 56) (v := .int (q174.2.1 56 4)) dX10_readStep_185 f_10_75 sh_56 rfl rfl ?_
                            refine g_aload_n dX10_readStep_188 rfl rfl ?_
                            refine g_get (a := 56) (v := .int (q174.2.1 56 5)) dX10_readStep_189 f_10_78 sh_56 rfl rfl ?_
                            refine g_aload_n dX10_readStep_192 rfl rfl ?_
                            refine g_get (a := 56) (v := .int (q174.2.1 56 6)) dX10_readStep_193 f_10_81 sh_56 rfl rfl ?_
                            obtain ⟨q178, e179, h⟩ := z_bd h
                            refine g_callV (a := 47) (as := [.int (M.1 5 3), .int (q174.2.1 56 4), .int (q174.2.1 56 5), .int (q174.2.1 56 6)]) (rest := []) (c := mX9_add) (k1 := 0) dX10_readStep_196 rfl rfl rfl sh_47 rfl rfl (Nat.le_of_ble_eq_true rfl) (Nat.le_of_ble_eq_true rfl) (by decide) ?_
                            refine A_X9_add z_par_30 e179 ?_
                            show z_G none 5 mX10_readStep 199 [some (.ref 58), some (.int (M.1 5 3)), some (.int (1 : Int32)), some (.int (1 : Int32)), some (.int (z_tb q170.1)), none] [.int (z_tb q178.1)] q178.2 Q
                            refine g_if_eq (t := 206) dX10_readStep_199 (by decide) (fun c180 => ?_) (fun c180 => ?_)
                            · replace h := z_iff (z_tb0.mp c180) h
                              refine g_iconst (v := (0 : Int32)) dX10_readStep_206 (by decide) ?_
                              refine g_istore (ls' := [some (.ref 58), some (.int (M.1 5 3)), some (.int (1 : Int32)), some (.int (1 : Int32)), some (.int (z_tb q170.1)), some (.int (0 : Int32))]) dX10_readStep_207 (Nat.le_of_ble_eq_true rfl) rfl ?_
                              refine g_iload dX10_readStep_209 rfl ?_
                              refine g_if_eq (t := 246) dX10_readStep_211 (by decide) (fun c181 => ?_) (fun c181 => ?_)
                              · skip
                                refine g_iload dX10_readStep_246 rfl ?_
                                cases h
                                exact g_iret dX10_readStep_248 rfl rfl hq
                              · exact absurd c181 (by decide)
                            · replace h := z_ift (z_tbn.mp c180) h
                              refine g_iconst (v := (1 : Int32)) dX10_readStep_202 (by decide) ?_
                              refine g_goto (t := 207) dX10_readStep_203 (by decide) ?_
                              refine g_istore (ls' := [some (.ref 58), some (.int (M.1 5 3)), some (.int (1 : Int32)), some (.int (1 : Int32)), some (.int (z_tb q170.1)), some (.int (1 : Int32))]) dX10_readStep_207 (Nat.le_of_ble_eq_true rfl) rfl ?_
                              refine g_iload dX10_readStep_209 rfl ?_
                              refine g_if_eq (t := 246) dX10_readStep_211 (by decide) (fun c182 => ?_) (fun c182 => ?_)
                              · exact absurd c182 (by decide)
                              · skip
                                refine g_iload_n dX10_readStep_214 rfl rfl ?_
                                refine g_if_eq (t := 246) dX10_readStep_215 (by decide) (fun c183 => ?_) (fun c183 => ?_)
                                · exact absurd c183 (by decide)
                                · skip
                                  refine g_aload_n dX10_readStep_218 rfl rfl ?_
                                  refine g_get (a := 56) (v := .ref 59) dX10_readStep_219 f_10_11 sh_56 rfl rfl ?_
                                  refine g_aload_n dX10_readStep_222 rfl rfl ?_
                                  refine g_get (a := 56) (v := .int (q178.2.1 56 3)) dX10_readStep_223 f_10_28 sh_56 rfl rfl ?_
                                  refine g_aload_n dX10_readStep_226 rfl rfl ?_
                                  refine g_get (a := 56) (v := .ref 49) dX10_readStep_227 f_10_19 sh_56 rfl rfl ?_
                                  refine g_get (a := 47) (v := .int (q178.2.1 47 5)) dX10_readStep_230 f_10_65 sh_47 rfl rfl ?_
                                  refine g_iconst (v := (1 : Int32)) dX10_readStep_233 (by decide) ?_
                                  refine g_isub dX10_readStep_234 ?_
                                  by_cases g184 : (q178.2.1 56 3) < 0 ∨ 3 ≤ (q178.2.1 56 3).toNatClampNeg
                                  · rw [if_pos g184] at h; cases h
                                  replace h := z_iff g184 h
                                  refine g_iast (a := 57) dX10_readStep_235 sh_57 g184 ?_
                                  refine g_aload_n dX10_readStep_236 rfl rfl ?_
                                  refine g_dup dX10_readStep_237 rfl ?_
                                  refine g_get (a := 56) (v := .int (q178.2.1 56 3)) dX10_readStep_238 f_10_28 sh_56 rfl (by simp [z_fv, z_wI, z_wL, z_wLs, upd, vp_updL]) ?_
                                  refine g_iconst (v := (1 : Int32)) dX10_readStep_241 (by decide) ?_
                                  refine g_iadd dX10_readStep_242 ?_
                                  refine g_putI (a := 56) dX10_readStep_243 f_10_28 sh_56 rfl rfl rfl ?_
                                  refine g_iload dX10_readStep_246 rfl ?_
                                  cases h
                                  exact g_iret dX10_readStep_248 rfl rfl hq
                    · replace h := z_ift c153 h
                      refine g_aload_n dX10_readStep_135 rfl rfl ?_
                      obtain ⟨q185, e186, h⟩ := z_bd h
                      refine g_callV (a := 56) (as := []) (rest := []) (c := mX10_takeTest) (k1 := 4) dX10_readStep_136 rfl rfl rfl sh_56 rfl rfl (Nat.le_of_ble_eq_true rfl) (Nat.le_of_ble_eq_true rfl) (by decide) ?_
                      refine A_X10_takeTest e186 ?_
                      show z_G none 5 mX10_readStep 139 [some (.ref 58), some (.int (M.1 5 3)), some (.int (1 : Int32)), some (.int (1 : Int32)), none, none] [.int (z_tb q185.1)] q185.2 Q
                      refine g_goto (t := 160) dX10_readStep_139 (by decide) ?_
                      refine g_istore (ls' := [some (.ref 58), some (.int (M.1 5 3)), some (.int (1 : Int32)), some (.int (1 : Int32)), some (.int (z_tb q185.1)), none]) dX10_readStep_160 (Nat.le_of_ble_eq_true rfl) rfl ?_
                      refine g_iload dX10_readStep_162 rfl ?_
                      refine g_if_eq (t := 206) dX10_readStep_164 (by decide) (fun c187 => ?_) (fun c187 => ?_)
                      · replace h := z_iff (z_tb0.mp c187) h
                        refine g_iconst (v := (0 : Int32)) dX10_readStep_206 (by decide) ?_
                        refine g_istore (ls' := [some (.ref 58), some (.int (M.1 5 3)), some (.int (1 : Int32)), some (.int (1 : Int32)), some (.int (z_tb q185.1)), some (.int (0 : Int32))]) dX10_readStep_207 (Nat.le_of_ble_eq_true rfl) rfl ?_
                        refine g_iload dX10_readStep_209 rfl ?_
                        refine g_if_eq (t := 246) dX10_readStep_211 (by decide) (fun c188 => ?_) (fun c188 => ?_)
                        · skip
                          refine g_iload dX10_readStep_246 rfl ?_
                          cases h
                          exact g_iret dX10_readStep_248 rfl rfl hq
                        · exact absurd c188 (by decide)
                      · replace h := z_ift (z_tbn.mp c187) h
                        refine g_aload_n dX10_readStep_167 rfl rfl ?_
                        refine g_get (a := 56) (v := .ref 7) dX10_readStep_168 f_10_15 sh_56 rfl rfl ?_
                        refine g_bipush (v := (33 : Int32)) dX10_readStep_171 (by decide) ?_
                        obtain ⟨q189, e190, h⟩ := z_bd h
                        refine g_callV (a := 5) (as := [.int (33 : Int32)]) (rest := []) (c := mX7_take) (k1 := 3) dX10_readStep_173 rfl rfl rfl sh_5 rfl rfl (Nat.le_of_ble_eq_true rfl) (Nat.le_of_ble_eq_true rfl) (by decide) ?_
                        refine A_X7_take e190 ?_
                        show z_G none 5 mX10_readStep 176 [some (.ref 58), some (.int (M.1 5 3)), some (.int (1 : Int32)), some (.int (1 : Int32)), some (.int (z_tb q185.1)), none] [.int (z_tb q189.1)] q189.2 Q
                        refine g_if_eq (t := 206) dX10_readStep_176 (by decide) (fun c191 => ?_) (fun c191 => ?_)
                        · replace h := z_iff (z_tb0.mp c191) h
                          refine g_iconst (v := (0 : Int32)) dX10_readStep_206 (by decide) ?_
                          refine g_istore (ls' := [some (.ref 58), some (.int (M.1 5 3)), some (.int (1 : Int32)), some (.int (1 : Int32)), some (.int (z_tb q185.1)), some (.int (0 : Int32))]) dX10_readStep_207 (Nat.le_of_ble_eq_true rfl) rfl ?_
                          refine g_iload dX10_readStep_209 rfl ?_
                          refine g_if_eq (t := 246) dX10_readStep_211 (by decide) (fun c192 => ?_) (fun c192 => ?_)
                          · skip
                            refine g_iload dX10_readStep_246 rfl ?_
                            cases h
                            exact g_iret dX10_readStep_248 rfl rfl hq
                          · exact absurd c192 (by decide)
                        · replace h := z_ift (z_tbn.mp c191) h
                          refine g_aload_n dX10_readStep_179 rfl rfl ?_
                          refine g_get (a := 56) (v := .ref 49) dX10_readStep_180 f_10_19 sh_56 rfl rfl ?_
                          refine g_iload_n dX10_readStep_183 rfl rfl ?_
                          refine g_aload_n dX10_readStep_184 rfl rfl ?_
                          refine g_get (a := 56) (v := .int (q189.2.1 56 4)) dX10_readStep_185 f_10_75 sh_56 rfl rfl ?_
                          refine g_aload_n dX10_readStep_188 rfl rfl ?_
                          refine g_get (a := 56) (v := .int (q189.2.1 56 5)) dX10_readStep_189 f_10_78 sh_56 rfl rfl ?_
                          refine g_aload_n dX10_readStep_192 rfl rfl ?_
                          refine g_get (a := 56) (v := .int (q189.2.1 56 6)) dX10_readStep_193 f_10_81 sh_56 rfl rfl ?_
                          obtain ⟨q193, e194, h⟩ := z_bd h
                          refine g_callV (a := 47) (as := [.int (M.1 5 3), .int (q189.2.1 56 4), .int (q189.2.1 56 5), .int (q189.2.1 56 6)]) (rest := []) (c := mX9_add) (k1 := 0) dX10_readStep_196 rfl rfl rfl sh_47 rfl rfl (Nat.le_of_ble_eq_true rfl) (Nat.le_of_ble_eq_true rfl) (by decide) ?_
                          refine A_X9_add z_par_30 e194 ?_
                          show z_G none 5 mX10_readStep 199 [some (.ref 58), some (.int (M.1 5 3)), some (.int (1 : Int32)), some (.int (1 : Int32)), some (.int (z_tb q185.1)), none] [.int (z_tb q193.1)] q193.2 Q
                          refine g_if_eq (t := 206) dX10_readStep_199 (by decide) (fun c195 => ?_) (fun c195 => ?_)
                          · replace h := z_iff (z_tb0.mp c195) h
                            refine g_iconst (v := (0 : Int32)) dX10_readStep_206 (by decide) ?_
                            refine g_istore (ls' := [some (.ref 58), some (.int (M.1 5 3)), some (.int (1 : Int32)), some (.int (1 : Int32)), some (.int (z_tb q185.1)), some (.int (0 : Int32))]) dX10_readStep_207 (Nat.le_of_ble_eq_true rfl) rfl ?_
                            refine g_iload dX10_readStep_209 rfl ?_
                            refine g_if_eq (t := 246) dX10_readStep_211 (by decide) (fun c196 => ?_) (fun c196 => ?_)
                            · skip
                              refine g_iload dX10_readStep_246 rfl ?_
                              cases h
                              exact g_iret dX10_readStep_248 rfl rfl hq
                            · exact absurd c196 (by decide)
                          · replace h := z_ift (z_tbn.mp c195) h
                            refine g_iconst (v := (1 : Int32)) dX10_readStep_202 (by decide) ?_
                            refine g_goto (t := 207) dX10_readStep_203 (by decide) ?_
                            refine g_istore (ls' := [some (.ref 58), some (.int (M.1 5 3)), some (.int (1 : Int32)), some (.int (1 : Int32)), some (.int (z_tb q185.1)), some (.int (1 : Int32))]) dX10_readStep_207 (Nat.le_of_ble_eq_true rfl) rfl ?_
                            refine g_iload dX10_readStep_209 rfl ?_
                            refine g_if_eq (t := 246) dX10_readStep_211 (by decide) (fun c197 => ?_) (fun c197 => ?_)
                            · exact absurd c197 (by decide)
                            · skip
                              refine g_iload_n dX10_readStep_214 rfl rfl ?_
                              refine g_if_eq (t := 246) dX10_readStep_215 (by decide) (fun c198 => ?_) (fun c198 => ?_)
                              · exact absurd c198 (by decide)
                              · skip
                                refine g_aload_n dX10_readStep_218 rfl rfl ?_
                                refine g_get (a := 56) (v := .ref 59) dX10_readStep_219 f_10_11 sh_56 rfl rfl ?_
                                refine g_aload_n dX10_readStep_222 rfl rfl ?_
                                refine g_get (a := 56) (v := .int (q193.2.1 56 3)) dX10_readStep_223 f_10_28 sh_56 rfl rfl ?_
                                refine g_aload_n dX10_readStep_226 rfl rfl ?_
                                refine g_get (a := 56) (v := .ref 49) dX10_readStep_227 f_10_19 sh_56 rfl rfl ?_
                                refine g_get (a := 47) (v := .int (q193.2.1 47 5)) dX10_readStep_230 f_10_65 sh_47 rfl rfl ?_
                                refine g_iconst (v := (1 : Int32)) dX10_readStep_233 (by decide) ?_
                                refine g_isub dX10_readStep_234 ?_
                                by_cases g199 : (q193.2.1 56 3) < 0 ∨ 3 ≤ (q193.2.1 56 3).toNatClampNeg
                                · rw [if_pos g199] at h; cases h
                                replace h := z_iff g199 h
                                refine g_iast (a := 57) dX10_readStep_235 sh_57 g199 ?_
                                refine g_aload_n dX10_readStep_236 rfl rfl ?_
                                refine g_dup dX10_readStep_237 rfl ?_
                                refine g_get (a := 56) (v := .int (q193.2.1 56 3)) dX10_readStep_238 f_10_28 sh_56 rfl (by simp [z_fv, z_wI, z_wL, z_wLs, upd, vp_updL]) ?_
                                refine g_iconst (v := (1 : Int32)) dX10_readStep_241 (by decide) ?_
                                refine g_iadd dX10_readStep_242 ?_
                                refine g_putI (a := 56) dX10_readStep_243 f_10_28 sh_56 rfl rfl rfl ?_
                                refine g_iload dX10_readStep_246 rfl ?_
                                cases h
                                exact g_iret dX10_readStep_248 rfl rfl hq
                  · replace h := z_iff c150 h
                    refine g_aload_n dX10_readStep_97 rfl rfl ?_
                    refine g_get (a := 56) (v := .ref 7) dX10_readStep_98 f_10_15 sh_56 rfl rfl ?_
                    refine g_bipush (v := (7 : Int32)) dX10_readStep_101 (by decide) ?_
                    obtain ⟨q200, e201, h⟩ := z_bd h
                    refine g_callV (a := 5) (as := [.int (7 : Int32)]) (rest := []) (c := mX7_fail) (k1 := 0) dX10_readStep_103 rfl rfl rfl sh_5 rfl rfl (Nat.le_of_ble_eq_true rfl) (Nat.le_of_ble_eq_true rfl) (by decide) ?_
                    refine A_X7_fail e201 ?_
                    show z_G none 5 mX10_readStep 106 [some (.ref 58), some (.int (M.1 5 3)), some (.int (1 : Int32)), some (.int (1 : Int32)), none, none] [.int (z_tb q200.1)] q200.2 Q
                    cases h
                    exact g_iret dX10_readStep_106 rfl nb_tb hq
              · replace h := z_iff c148 h
                refine g_aload_n dX10_readStep_75 rfl rfl ?_
                refine g_get (a := 56) (v := .ref 7) dX10_readStep_76 f_10_15 sh_56 rfl rfl ?_
                refine g_bipush (v := (6 : Int32)) dX10_readStep_79 (by decide) ?_
                obtain ⟨q202, e203, h⟩ := z_bd h
                refine g_callV (a := 5) (as := [.int (6 : Int32)]) (rest := []) (c := mX7_fail) (k1 := 0) dX10_readStep_81 rfl rfl rfl sh_5 rfl rfl (Nat.le_of_ble_eq_true rfl) (Nat.le_of_ble_eq_true rfl) (by decide) ?_
                refine A_X7_fail e203 ?_
                show z_G none 5 mX10_readStep 84 [some (.ref 58), some (.int (M.1 5 3)), some (.int (1 : Int32)), some (.int (1 : Int32)), none, none] [.int (z_tb q202.1)] q202.2 Q
                cases h
                exact g_iret dX10_readStep_84 rfl nb_tb hq
            · exact absurd c147 (by decide)
