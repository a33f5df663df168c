/-! ===== the methods as functions, 10 ===== -/
theorem dX12_changesOf_0 : decode cX12_changesOf 0 = .ok (.iconst 0, 1) := by decide +kernel
theorem dX12_changesOf_1 : decode cX12_changesOf 1 = .ok (.istore_n 2, 1) := by decide +kernel
theorem dX12_changesOf_2 : decode cX12_changesOf 2 = .ok (.iload_n 0, 1) := by decide +kernel
theorem dX12_changesOf_3 : decode cX12_changesOf 3 = .ok (.istore_n 3, 1) := by decide +kernel
theorem dX12_changesOf_4 : decode cX12_changesOf 4 = .ok (.iload_n 1, 1) := by decide +kernel
theorem dX12_changesOf_5 : decode cX12_changesOf 5 = .ok (.ifCond .lt 33, 3) := by decide +kernel
theorem dX12_changesOf_8 : decode cX12_changesOf 8 = .ok (.iload_n 0, 1) := by decide +kernel
theorem dX12_changesOf_9 : decode cX12_changesOf 9 = .ok (.iload_n 1, 1) := by decide +kernel
theorem dX12_changesOf_10 : decode cX12_changesOf 10 = .ok (.bipush 11, 2) := by decide +kernel
theorem dX12_changesOf_12 : decode cX12_changesOf 12 = .ok (.iadd, 1) := by decide +kernel
theorem dX12_changesOf_13 : decode cX12_changesOf 13 = .ok (.bipush 12, 2) := by decide +kernel
theorem dX12_changesOf_15 : decode cX12_changesOf 15 = .ok (.irem, 1) := by decide +kernel
theorem dX12_changesOf_16 : decode cX12_changesOf 16 = .ok (.invokestatic 96, 3) := by decide +kernel
theorem dX12_changesOf_19 : decode cX12_changesOf 19 = .ok (.ifCond .eq 11, 3) := by decide +kernel
theorem dX12_changesOf_22 : decode cX12_changesOf 22 = .ok (.iload_n 0, 1) := by decide +kernel
theorem dX12_changesOf_23 : decode cX12_changesOf 23 = .ok (.iconst 1, 1) := by decide +kernel
theorem dX12_changesOf_24 : decode cX12_changesOf 24 = .ok (.iload_n 1, 1) := by decide +kernel
theorem dX12_changesOf_25 : decode cX12_changesOf 25 = .ok (.ishl, 1) := by decide +kernel
theorem dX12_changesOf_26 : decode cX12_changesOf 26 = .ok (.ior, 1) := by decide +kernel
theorem dX12_changesOf_27 : decode cX12_changesOf 27 = .ok (.goto 10, 3) := by decide +kernel
theorem dX12_changesOf_30 : decode cX12_changesOf 30 = .ok (.iload_n 0, 1) := by decide +kernel
theorem dX12_changesOf_31 : decode cX12_changesOf 31 = .ok (.iconst 1, 1) := by decide +kernel
theorem dX12_changesOf_32 : decode cX12_changesOf 32 = .ok (.iload_n 1, 1) := by decide +kernel
theorem dX12_changesOf_33 : decode cX12_changesOf 33 = .ok (.ishl, 1) := by decide +kernel
theorem dX12_changesOf_34 : decode cX12_changesOf 34 = .ok (.iconst (-1), 1) := by decide +kernel
theorem dX12_changesOf_35 : decode cX12_changesOf 35 = .ok (.ixor, 1) := by decide +kernel
theorem dX12_changesOf_36 : decode cX12_changesOf 36 = .ok (.iand, 1) := by decide +kernel
theorem dX12_changesOf_37 : decode cX12_changesOf 37 = .ok (.istore_n 3, 1) := by decide +kernel
theorem dX12_changesOf_38 : decode cX12_changesOf 38 = .ok (.iconst 0, 1) := by decide +kernel
theorem dX12_changesOf_39 : decode cX12_changesOf 39 = .ok (.istore 4, 2) := by decide +kernel
theorem dX12_changesOf_41 : decode cX12_changesOf 41 = .ok (.iload 4, 2) := by decide +kernel
theorem dX12_changesOf_43 : decode cX12_changesOf 43 = .ok (.bipush 12, 2) := by decide +kernel
theorem dX12_changesOf_45 : decode cX12_changesOf 45 = .ok (.if_icmp .ge 38, 3) := by decide +kernel
theorem dX12_changesOf_48 : decode cX12_changesOf 48 = .ok (.iload_n 2, 1) := by decide +kernel
theorem dX12_changesOf_49 : decode cX12_changesOf 49 = .ok (.iload_n 3, 1) := by decide +kernel
theorem dX12_changesOf_50 : decode cX12_changesOf 50 = .ok (.iload 4, 2) := by decide +kernel
theorem dX12_changesOf_52 : decode cX12_changesOf 52 = .ok (.invokestatic 96, 3) := by decide +kernel
theorem dX12_changesOf_55 : decode cX12_changesOf 55 = .ok (.iload_n 3, 1) := by decide +kernel
theorem dX12_changesOf_56 : decode cX12_changesOf 56 = .ok (.iload 4, 2) := by decide +kernel
theorem dX12_changesOf_58 : decode cX12_changesOf 58 = .ok (.bipush 11, 2) := by decide +kernel
theorem dX12_changesOf_60 : decode cX12_changesOf 60 = .ok (.iadd, 1) := by decide +kernel
theorem dX12_changesOf_61 : decode cX12_changesOf 61 = .ok (.bipush 12, 2) := by decide +kernel
theorem dX12_changesOf_63 : decode cX12_changesOf 63 = .ok (.irem, 1) := by decide +kernel
theorem dX12_changesOf_64 : decode cX12_changesOf 64 = .ok (.invokestatic 96, 3) := by decide +kernel
theorem dX12_changesOf_67 : decode cX12_changesOf 67 = .ok (.if_icmp .ne 7, 3) := by decide +kernel
theorem dX12_changesOf_70 : decode cX12_changesOf 70 = .ok (.iconst 0, 1) := by decide +kernel
theorem dX12_changesOf_71 : decode cX12_changesOf 71 = .ok (.goto 4, 3) := by decide +kernel
theorem dX12_changesOf_74 : decode cX12_changesOf 74 = .ok (.iconst 1, 1) := by decide +kernel
theorem dX12_changesOf_75 : decode cX12_changesOf 75 = .ok (.iadd, 1) := by decide +kernel
theorem dX12_changesOf_76 : decode cX12_changesOf 76 = .ok (.istore_n 2, 1) := by decide +kernel
theorem dX12_changesOf_77 : decode cX12_changesOf 77 = .ok (.iinc 4 1, 3) := by decide +kernel
theorem dX12_changesOf_80 : decode cX12_changesOf 80 = .ok (.goto (-39), 3) := by decide +kernel
theorem dX12_changesOf_83 : decode cX12_changesOf 83 = .ok (.iload_n 2, 1) := by decide +kernel
theorem dX12_changesOf_84 : decode cX12_changesOf 84 = .ok (.ireturn, 1) := by decide +kernel
def L_X12_changesOf (w : Nat) : Nat → z_Mem → Int32 → Int32 → Int32 → Option (Int32 × z_Mem)
  | 0, _, _, _, _ => none
  | c + 1, M, x2, x3, x4 =>
    if (12 : Int32) ≤ x4 then
    some (x2, M)
    else
    (F_X12_has w M x3 x4).bind fun q2 =>
    (F_X12_has w q2.2 x3 ((x4 + (11 : Int32)) - (x4 + (11 : Int32)) / (12 : Int32) * (12 : Int32))).bind fun q4 =>
    if (z_tb q2.1) = (z_tb q4.1) then
    L_X12_changesOf w c q4.2 (x2 + (0 : Int32)) x3 (x4 + (1 : Int32))
    else
    L_X12_changesOf w c q4.2 (x2 + (1 : Int32)) x3 (x4 + (1 : Int32))
set_option maxHeartbeats 4000000 in
theorem AL_X12_changesOf {w : Nat} : ∀ (c : Nat), (∀ (M : z_Mem) (x2 : Int32) (x3 : Int32) (x4 : Int32) (r : Int32) (M' : z_Mem) (Q : Option Value → z_Mem → Prop), L_X12_changesOf w c M x2 x3 x4 = some (r, M') → Q (some (.int r)) M' → z_G none 1 mX12_changesOf 41 [none, none, some (.int x2), some (.int x3), some (.int x4)] [] M Q) := by
  intro c
  induction c with
  | zero => exact (fun M x2 x3 x4 r M' Q h hq => by rw [L_X12_changesOf] at h; cases h)
  | succ c ih =>
    intro M x2 x3 x4 r M' Q h hq
    rw [L_X12_changesOf] at h
    refine g_iload dX12_changesOf_41 rfl ?_
    refine g_bipush (v := (12 : Int32)) dX12_changesOf_43 (by decide) ?_
    refine g_ic_ge (t := 83) dX12_changesOf_45 (by decide) (fun c1 => ?_) (fun c1 => ?_)
    · replace h := z_ift c1 h
      refine g_iload_n dX12_changesOf_83 rfl rfl ?_
      cases h
      exact g_iret dX12_changesOf_84 rfl rfl hq
    · replace h := z_iff c1 h
      refine g_iload_n dX12_changesOf_48 rfl rfl ?_
      refine g_iload_n dX12_changesOf_49 rfl rfl ?_
      refine g_iload dX12_changesOf_50 rfl ?_
      obtain ⟨q2, e3, h⟩ := z_bd h
      refine g_callS (as := [.int x3, .int x4]) (rest := [.int x2]) (c := mX12_has) (k1 := 0) dX12_changesOf_52 rfl rfl rfl rfl rfl (Nat.le_of_ble_eq_true rfl) (Nat.le_of_ble_eq_true rfl) (by decide) ?_
      refine A_X12_has e3 ?_
      show z_G none 1 mX12_changesOf 55 [none, none, some (.int x2), some (.int x3), some (.int x4)] [.int (z_tb q2.1), .int x2] q2.2 Q
      refine g_iload_n dX12_changesOf_55 rfl rfl ?_
      refine g_iload dX12_changesOf_56 rfl ?_
      refine g_bipush (v := (11 : Int32)) dX12_changesOf_58 (by decide) ?_
      refine g_iadd dX12_changesOf_60 ?_
      refine g_bipush (v := (12 : Int32)) dX12_changesOf_61 (by decide) ?_
      refine g_irem dX12_changesOf_63 (by decide) ?_
      obtain ⟨q4, e5, h⟩ := z_bd h
      refine g_callS (as := [.int x3, .int ((x4 + (11 : Int32)) - (x4 + (11 : Int32)) / (12 : Int32) * (12 : Int32))]) (rest := [.int (z_tb q2.1), .int x2]) (c := mX12_has) (k1 := 0) dX12_changesOf_64 rfl rfl rfl rfl rfl (Nat.le_of_ble_eq_true rfl) (Nat.le_of_ble_eq_true rfl) (by decide) ?_
      refine A_X12_has e5 ?_
      show z_G none 1 mX12_changesOf 67 [none, none, some (.int x2), some (.int x3), some (.int x4)] [.int (z_tb q4.1), .int (z_tb q2.1), .int x2] q4.2 Q
      refine g_ic_ne (t := 74) dX12_changesOf_67 (by decide) (fun c6 => ?_) (fun c6 => ?_)
      · replace h := z_iff c6 h
        refine g_iconst (v := (1 : Int32)) dX12_changesOf_74 (by decide) ?_
        refine g_iadd dX12_changesOf_75 ?_
        refine g_istore_n (ls' := [none, none, some (.int (x2 + (1 : Int32))), some (.int x3), some (.int x4)]) dX12_changesOf_76 rfl (Nat.le_of_ble_eq_true rfl) rfl ?_
        refine g_iinc (v := x4 + (1 : Int32)) (ls' := [none, none, some (.int (x2 + (1 : Int32))), some (.int x3), some (.int (x4 + (1 : Int32)))]) dX12_changesOf_77 rfl rfl rfl ?_
        refine g_goto (t := 41) dX12_changesOf_80 (by decide) ?_
        exact g_sub (z_sub_n (z_sub_n (z_sub_s (z_sub_s (z_sub_s z_sub_nil))))) (ih _ _ _ _ _ _ _ h hq)
      · replace h := z_ift c6 h
        refine g_iconst (v := (0 : Int32)) dX12_changesOf_70 (by decide) ?_
        refine g_goto (t := 75) dX12_changesOf_71 (by decide) ?_
        refine g_iadd dX12_changesOf_75 ?_
        refine g_istore_n (ls' := [none, none, some (.int (x2 + (0 : Int32))), some (.int x3), some (.int x4)]) dX12_changesOf_76 rfl (Nat.le_of_ble_eq_true rfl) rfl ?_
        refine g_iinc (v := x4 + (1 : Int32)) (ls' := [none, none, some (.int (x2 + (0 : Int32))), some (.int x3), some (.int (x4 + (1 : Int32)))]) dX12_changesOf_77 rfl rfl rfl ?_
        refine g_goto (t := 41) dX12_changesOf_80 (by decide) ?_
        exact g_sub (z_sub_n (z_sub_n (z_sub_s (z_sub_s (z_sub_s z_sub_nil))))) (ih _ _ _ _ _ _ _ h hq)
def F_X12_changesOf (w : Nat) (M : z_Mem) (a0 : Int32) (a1 : Int32) : Option (Int32 × z_Mem) :=
  if a1 < (0 : Int32) then
  L_X12_changesOf w w M (0 : Int32) a0 (0 : Int32)
  else
  (F_X12_has w M a0 ((a1 + (11 : Int32)) - (a1 + (11 : Int32)) / (12 : Int32) * (12 : Int32))).bind fun q8 =>
  if q8.1 = true then
  L_X12_changesOf w w q8.2 (0 : Int32) (a0 ||| ((1 : Int32) <<< (a1 &&& 31))) (0 : Int32)
  else
  L_X12_changesOf w w q8.2 (0 : Int32) (a0 &&& (((1 : Int32) <<< (a1 &&& 31)) ^^^ (-1 : Int32))) (0 : Int32)
set_option maxHeartbeats 4000000 in
theorem A_X12_changesOf {w : Nat} {M : z_Mem} {a0 : Int32} {a1 : Int32} {r : Int32} {M' : z_Mem} {Q : Option Value → z_Mem → Prop} (h : F_X12_changesOf w M a0 a1 = some (r, M')) (hq : Q (some (.int r)) M') : z_Cl 1 mX12_changesOf [.int a0, .int a1] M Q := by
  refine g_in (ls := [some (.int a0), some (.int a1), none, none, none]) rfl ?_
  unfold F_X12_changesOf at h
  refine g_iconst (v := (0 : Int32)) dX12_changesOf_0 (by decide) ?_
  refine g_istore_n (ls' := [some (.int a0), some (.int a1), some (.int (0 : Int32)), none, none]) dX12_changesOf_1 rfl (Nat.le_of_ble_eq_true rfl) rfl ?_
  refine g_iload_n dX12_changesOf_2 rfl rfl ?_
  refine g_istore_n (ls' := [some (.int a0), some (.int a1), some (.int (0 : Int32)), some (.int a0), none]) dX12_changesOf_3 rfl (Nat.le_of_ble_eq_true rfl) rfl ?_
  refine g_iload_n dX12_changesOf_4 rfl rfl ?_
  refine g_if_lt (t := 38) dX12_changesOf_5 (by decide) (fun c7 => ?_) (fun c7 => ?_)
  · replace h := z_ift c7 h
    refine g_iconst (v := (0 : Int32)) dX12_changesOf_38 (by decide) ?_
    refine g_istore (ls' := [some (.int a0), some (.int a1), some (.int (0 : Int32)), some (.int a0), some (.int (0 : Int32))]) dX12_changesOf_39 (Nat.le_of_ble_eq_true rfl) rfl ?_
    exact g_sub (z_sub_n (z_sub_n (z_sub_s (z_sub_s (z_sub_s z_sub_nil))))) ((AL_X12_changesOf (w := w) w) _ _ _ _ _ _ _ h hq)
  · replace h := z_iff c7 h
    refine g_iload_n dX12_changesOf_8 rfl rfl ?_
    refine g_iload_n dX12_changesOf_9 rfl rfl ?_
    refine g_bipush (v := (11 : Int32)) dX12_changesOf_10 (by decide) ?_
    refine g_iadd dX12_changesOf_12 ?_
    refine g_bipush (v := (12 : Int32)) dX12_changesOf_13 (by decide) ?_
    refine g_irem dX12_changesOf_15 (by decide) ?_
    obtain ⟨q8, e9, h⟩ := z_bd h
    refine g_callS (as := [.int a0, .int ((a1 + (11 : Int32)) - (a1 + (11 : Int32)) / (12 : Int32) * (12 : Int32))]) (rest := []) (c := mX12_has) (k1 := 0) dX12_changesOf_16 rfl rfl rfl rfl rfl (Nat.le_of_ble_eq_true rfl) (Nat.le_of_ble_eq_true rfl) (by decide) ?_
    refine A_X12_has e9 ?_
    show z_G none 1 mX12_changesOf 19 [some (.int a0), some (.int a1), some (.int (0 : Int32)), some (.int a0), none] [.int (z_tb q8.1)] q8.2 Q
    refine g_if_eq (t := 30) dX12_changesOf_19 (by decide) (fun c10 => ?_) (fun c10 => ?_)
    · replace h := z_iff (z_tb0.mp c10) h
      refine g_iload_n dX12_changesOf_30 rfl rfl ?_
      refine g_iconst (v := (1 : Int32)) dX12_changesOf_31 (by decide) ?_
      refine g_iload_n dX12_changesOf_32 rfl rfl ?_
      refine g_ishl dX12_changesOf_33 ?_
      refine g_iconst (v := (-1 : Int32)) dX12_changesOf_34 (by decide) ?_
      refine g_ixor dX12_changesOf_35 ?_
      refine g_iand dX12_changesOf_36 ?_
      refine g_istore_n (ls' := [some (.int a0), some (.int a1), some (.int (0 : Int32)), some (.int (a0 &&& (((1 : Int32) <<< (a1 &&& 31)) ^^^ (-1 : Int32)))), none]) dX12_changesOf_37 rfl (Nat.le_of_ble_eq_true rfl) rfl ?_
      refine g_iconst (v := (0 : Int32)) dX12_changesOf_38 (by decide) ?_
      refine g_istore (ls' := [some (.int a0), some (.int a1), some (.int (0 : Int32)), some (.int (a0 &&& (((1 : Int32) <<< (a1 &&& 31)) ^^^ (-1 : Int32)))), some (.int (0 : Int32))]) dX12_changesOf_39 (Nat.le_of_ble_eq_true rfl) rfl ?_
      exact g_sub (z_sub_n (z_sub_n (z_sub_s (z_sub_s (z_sub_s z_sub_nil))))) ((AL_X12_changesOf (w := w) w) _ _ _ _ _ _ _ h hq)
    · replace h := z_ift (z_tbn.mp c10) h
      refine g_iload_n dX12_changesOf_22 rfl rfl ?_
      refine g_iconst (v := (1 : Int32)) dX12_changesOf_23 (by decide) ?_
      refine g_iload_n dX12_changesOf_24 rfl rfl ?_
      refine g_ishl dX12_changesOf_25 ?_
      refine g_ior dX12_changesOf_26 ?_
      refine g_goto (t := 37) dX12_changesOf_27 (by decide) ?_
      refine g_istore_n (ls' := [some (.int a0), some (.int a1), some (.int (0 : Int32)), some (.int (a0 ||| ((1 : Int32) <<< (a1 &&& 31)))), none]) dX12_changesOf_37 rfl (Nat.le_of_ble_eq_true rfl) rfl ?_
      refine g_iconst (v := (0 : Int32)) dX12_changesOf_38 (by decide) ?_
      refine g_istore (ls' := [some (.int a0), some (.int a1), some (.int (0 : Int32)), some (.int (a0 ||| ((1 : Int32) <<< (a1 &&& 31)))), some (.int (0 : Int32))]) dX12_changesOf_39 (Nat.le_of_ble_eq_true rfl) rfl ?_
      exact g_sub (z_sub_n (z_sub_n (z_sub_s (z_sub_s (z_sub_s z_sub_nil))))) ((AL_X12_changesOf (w := w) w) _ _ _ _ _ _ _ h hq)
theorem dX12_laysPlans_0 : decode cX12_laysPlans 0 = .ok (.iconst 0, 1) := by decide +kernel
theorem dX12_laysPlans_1 : decode cX12_laysPlans 1 = .ok (.istore_n 2, 1) := by decide +kernel
theorem dX12_laysPlans_2 : decode cX12_laysPlans 2 = .ok (.iload_n 2, 1) := by decide +kernel
theorem dX12_laysPlans_3 : decode cX12_laysPlans 3 = .ok (.sipush 4096, 3) := by decide +kernel
theorem dX12_laysPlans_6 : decode cX12_laysPlans 6 = .ok (.if_icmp .ge 76, 3) := by decide +kernel
theorem dX12_laysPlans_9 : decode cX12_laysPlans 9 = .ok (.aload_n 0, 1) := by decide +kernel
theorem dX12_laysPlans_10 : decode cX12_laysPlans 10 = .ok (.getfield 44, 3) := by decide +kernel
theorem dX12_laysPlans_13 : decode cX12_laysPlans 13 = .ok (.iload_n 2, 1) := by decide +kernel
theorem dX12_laysPlans_14 : decode cX12_laysPlans 14 = .ok (.aload_n 0, 1) := by decide +kernel
theorem dX12_laysPlans_15 : decode cX12_laysPlans 15 = .ok (.iconst 0, 1) := by decide +kernel
theorem dX12_laysPlans_16 : decode cX12_laysPlans 16 = .ok (.iload_n 2, 1) := by decide +kernel
theorem dX12_laysPlans_17 : decode cX12_laysPlans 17 = .ok (.iload_n 1, 1) := by decide +kernel
theorem dX12_laysPlans_18 : decode cX12_laysPlans 18 = .ok (.invokevirtual 423, 3) := by decide +kernel
theorem dX12_laysPlans_21 : decode cX12_laysPlans 21 = .ok (.iastore, 1) := by decide +kernel
theorem dX12_laysPlans_22 : decode cX12_laysPlans 22 = .ok (.aload_n 0, 1) := by decide +kernel
theorem dX12_laysPlans_23 : decode cX12_laysPlans 23 = .ok (.getfield 44, 3) := by decide +kernel
theorem dX12_laysPlans_26 : decode cX12_laysPlans 26 = .ok (.sipush 4096, 3) := by decide +kernel
theorem dX12_laysPlans_29 : decode cX12_laysPlans 29 = .ok (.iload_n 2, 1) := by decide +kernel
theorem dX12_laysPlans_30 : decode cX12_laysPlans 30 = .ok (.iadd, 1) := by decide +kernel
theorem dX12_laysPlans_31 : decode cX12_laysPlans 31 = .ok (.aload_n 0, 1) := by decide +kernel
theorem dX12_laysPlans_32 : decode cX12_laysPlans 32 = .ok (.iconst 1, 1) := by decide +kernel
theorem dX12_laysPlans_33 : decode cX12_laysPlans 33 = .ok (.iload_n 2, 1) := by decide +kernel
theorem dX12_laysPlans_34 : decode cX12_laysPlans 34 = .ok (.iload_n 1, 1) := by decide +kernel
theorem dX12_laysPlans_35 : decode cX12_laysPlans 35 = .ok (.invokevirtual 423, 3) := by decide +kernel
theorem dX12_laysPlans_38 : decode cX12_laysPlans 38 = .ok (.iastore, 1) := by decide +kernel
theorem dX12_laysPlans_39 : decode cX12_laysPlans 39 = .ok (.aload_n 0, 1) := by decide +kernel
theorem dX12_laysPlans_40 : decode cX12_laysPlans 40 = .ok (.getfield 47, 3) := by decide +kernel
theorem dX12_laysPlans_43 : decode cX12_laysPlans 43 = .ok (.iload_n 2, 1) := by decide +kernel
theorem dX12_laysPlans_44 : decode cX12_laysPlans 44 = .ok (.aload_n 0, 1) := by decide +kernel
theorem dX12_laysPlans_45 : decode cX12_laysPlans 45 = .ok (.getfield 44, 3) := by decide +kernel
theorem dX12_laysPlans_48 : decode cX12_laysPlans 48 = .ok (.iload_n 2, 1) := by decide +kernel
theorem dX12_laysPlans_49 : decode cX12_laysPlans 49 = .ok (.iaload, 1) := by decide +kernel
theorem dX12_laysPlans_50 : decode cX12_laysPlans 50 = .ok (.aload_n 0, 1) := by decide +kernel
theorem dX12_laysPlans_51 : decode cX12_laysPlans 51 = .ok (.getfield 44, 3) := by decide +kernel
theorem dX12_laysPlans_54 : decode cX12_laysPlans 54 = .ok (.sipush 4096, 3) := by decide +kernel
theorem dX12_laysPlans_57 : decode cX12_laysPlans 57 = .ok (.iload_n 2, 1) := by decide +kernel
theorem dX12_laysPlans_58 : decode cX12_laysPlans 58 = .ok (.iadd, 1) := by decide +kernel
theorem dX12_laysPlans_59 : decode cX12_laysPlans 59 = .ok (.iaload, 1) := by decide +kernel
theorem dX12_laysPlans_60 : decode cX12_laysPlans 60 = .ok (.iadd, 1) := by decide +kernel
theorem dX12_laysPlans_61 : decode cX12_laysPlans 61 = .ok (.aload_n 0, 1) := by decide +kernel
theorem dX12_laysPlans_62 : decode cX12_laysPlans 62 = .ok (.getfield 35, 3) := by decide +kernel
theorem dX12_laysPlans_65 : decode cX12_laysPlans 65 = .ok (.bipush 6, 2) := by decide +kernel
theorem dX12_laysPlans_67 : decode cX12_laysPlans 67 = .ok (.iaload, 1) := by decide +kernel
theorem dX12_laysPlans_68 : decode cX12_laysPlans 68 = .ok (.iload_n 2, 1) := by decide +kernel
theorem dX12_laysPlans_69 : decode cX12_laysPlans 69 = .ok (.iload_n 1, 1) := by decide +kernel
theorem dX12_laysPlans_70 : decode cX12_laysPlans 70 = .ok (.invokestatic 426, 3) := by decide +kernel
theorem dX12_laysPlans_73 : decode cX12_laysPlans 73 = .ok (.imul, 1) := by decide +kernel
theorem dX12_laysPlans_74 : decode cX12_laysPlans 74 = .ok (.isub, 1) := by decide +kernel
theorem dX12_laysPlans_75 : decode cX12_laysPlans 75 = .ok (.iastore, 1) := by decide +kernel
theorem dX12_laysPlans_76 : decode cX12_laysPlans 76 = .ok (.iinc 2 1, 3) := by decide +kernel
theorem dX12_laysPlans_79 : decode cX12_laysPlans 79 = .ok (.goto (-77), 3) := by decide +kernel
theorem dX12_laysPlans_82 : decode cX12_laysPlans 82 = .ok (.return_, 1) := by decide +kernel
def L_X12_laysPlans (w : Nat) : Nat → z_Mem → Int32 → Int32 → Option (Unit × z_Mem)
  | 0, _, _, _ => none
  | c + 1, M, x1, x2 =>
    if (4096 : Int32) ≤ x2 then
    some ((), M)
    else
    (F_X12_gainOf w M (0 : Int32) x2 x1).bind fun q2 =>
    if x2 < 0 ∨ 8192 ≤ x2.toNatClampNeg then none else
    (F_X12_gainOf w (z_wI q2.2 145 x2.toNatClampNeg q2.1) (1 : Int32) x2 x1).bind fun q5 =>
    if ((4096 : Int32) + x2) < 0 ∨ 8192 ≤ ((4096 : Int32) + x2).toNatClampNeg then none else
    if x2 < 0 ∨ 8192 ≤ x2.toNatClampNeg then none else
    if ((4096 : Int32) + x2) < 0 ∨ 8192 ≤ ((4096 : Int32) + x2).toNatClampNeg then none else
    (F_X12_changesOf w (z_wI q5.2 145 (((4096 : Int32) + x2).toNatClampNeg) q5.1) x2 x1).bind fun q10 =>
    if x2 < 0 ∨ 4096 ≤ x2.toNatClampNeg then none else
    L_X12_laysPlans w c (z_wI q10.2 146 x2.toNatClampNeg ((((z_wI q5.2 145 (((4096 : Int32) + x2).toNatClampNeg) q5.1).1 145 x2.toNatClampNeg) + ((z_wI q5.2 145 (((4096 : Int32) + x2).toNatClampNeg) q5.1).1 145 ((4096 : Int32) + x2).toNatClampNeg)) - ((q5.2.1 142 6) * q10.1))) x1 (x2 + (1 : Int32))
set_option maxHeartbeats 4000000 in
theorem AL_X12_laysPlans {w : Nat} : ∀ (c : Nat), (∀ (M : z_Mem) (x1 : Int32) (x2 : Int32) (r : Unit) (M' : z_Mem) (Q : Option Value → z_Mem → Prop), L_X12_laysPlans w c M x1 x2 = some (r, M') → Q none M' → z_G none 3 mX12_laysPlans 2 [some (.ref 139), some (.int x1), some (.int x2)] [] M Q) := by
  intro c
  induction c with
  | zero => exact (fun M x1 x2 r M' Q h hq => by rw [L_X12_laysPlans] at h; cases h)
  | succ c ih =>
    intro M x1 x2 r M' Q h hq
    rw [L_X12_laysPlans] at h
    refine g_iload_n dX12_laysPlans_2 rfl rfl ?_
    refine g_sipush (v := (4096 : Int32)) dX12_laysPlans_3 (by decide) ?_
    refine g_ic_ge (t := 82) dX12_laysPlans_6 (by decide) (fun c1 => ?_) (fun c1 => ?_)
    · replace h := z_ift c1 h
      cases h
      exact g_vret dX12_laysPlans_82 rfl hq
    · replace h := z_iff c1 h
      refine g_aload_n dX12_laysPlans_9 rfl rfl ?_
      refine g_get (a := 137) (v := .ref 147) dX12_laysPlans_10 f_12_44 sh_137 rfl rfl ?_
      refine g_iload_n dX12_laysPlans_13 rfl rfl ?_
      refine g_aload_n dX12_laysPlans_14 rfl rfl ?_
      refine g_iconst (v := (0 : Int32)) dX12_laysPlans_15 (by decide) ?_
      refine g_iload_n dX12_laysPlans_16 rfl rfl ?_
      refine g_iload_n dX12_laysPlans_17 rfl rfl ?_
      obtain ⟨q2, e3, h⟩ := z_bd h
      refine g_callV (a := 137) (as := [.int (0 : Int32), .int x2, .int x1]) (rest := [.int x2, .ref 147]) (c := mX12_gainOf) (k1 := 2) dX12_laysPlans_18 rfl rfl rfl sh_137 rfl rfl (Nat.le_of_ble_eq_true rfl) (Nat.le_of_ble_eq_true rfl) (by decide) ?_
      refine A_X12_gainOf e3 ?_
      show z_G none 3 mX12_laysPlans 21 [some (.ref 139), some (.int x1), some (.int x2)] [.int q2.1, .int x2, .ref 147] q2.2 Q
      by_cases g4 : x2 < 0 ∨ 8192 ≤ x2.toNatClampNeg
      · rw [if_pos g4] at h; cases h
      replace h := z_iff g4 h
      refine g_iast (a := 145) dX12_laysPlans_21 sh_145 g4 ?_
      refine g_aload_n dX12_laysPlans_22 rfl rfl ?_
      refine g_get (a := 137) (v := .ref 147) dX12_laysPlans_23 f_12_44 sh_137 rfl rfl ?_
      refine g_sipush (v := (4096 : Int32)) dX12_laysPlans_26 (by decide) ?_
      refine g_iload_n dX12_laysPlans_29 rfl rfl ?_
      refine g_iadd dX12_laysPlans_30 ?_
      refine g_aload_n dX12_laysPlans_31 rfl rfl ?_
      refine g_iconst (v := (1 : Int32)) dX12_laysPlans_32 (by decide) ?_
      refine g_iload_n dX12_laysPlans_33 rfl rfl ?_
      refine g_iload_n dX12_laysPlans_34 rfl rfl ?_
      obtain ⟨q5, e6, h⟩ := z_bd h
      refine g_callV (a := 137) (as := [.int (1 : Int32), .int x2, .int x1]) (rest := [.int ((4096 : Int32) + x2), .ref 147]) (c := mX12_gainOf) (k1 := 2) dX12_laysPlans_35 rfl rfl rfl sh_137 rfl rfl (Nat.le_of_ble_eq_true rfl) (Nat.le_of_ble_eq_true rfl) (by decide) ?_
      refine A_X12_gainOf e6 ?_
      show z_G none 3 mX12_laysPlans 38 [some (.ref 139), some (.int x1), some (.int x2)] [.int q5.1, .int ((4096 : Int32) + x2), .ref 147] q5.2 Q
      by_cases g7 : ((4096 : Int32) + x2) < 0 ∨ 8192 ≤ ((4096 : Int32) + x2).toNatClampNeg
      · rw [if_pos g7] at h; cases h
      replace h := z_iff g7 h
      refine g_iast (a := 145) dX12_laysPlans_38 sh_145 g7 ?_
      refine g_aload_n dX12_laysPlans_39 rfl rfl ?_
      refine g_get (a := 137) (v := .ref 148) dX12_laysPlans_40 f_12_47 sh_137 rfl rfl ?_
      refine g_iload_n dX12_laysPlans_43 rfl rfl ?_
      refine g_aload_n dX12_laysPlans_44 rfl rfl ?_
      refine g_get (a := 137) (v := .ref 147) dX12_laysPlans_45 f_12_44 sh_137 rfl rfl ?_
      refine g_iload_n dX12_laysPlans_48 rfl rfl ?_
      by_cases g8 : x2 < 0 ∨ 8192 ≤ x2.toNatClampNeg
      · rw [if_pos g8] at h; cases h
      replace h := z_iff g8 h
      refine g_iald (a := 145) dX12_laysPlans_49 sh_145 g8 ?_
      refine g_aload_n dX12_laysPlans_50 rfl rfl ?_
      refine g_get (a := 137) (v := .ref 147) dX12_laysPlans_51 f_12_44 sh_137 rfl rfl ?_
      refine g_sipush (v := (4096 : Int32)) dX12_laysPlans_54 (by decide) ?_
      refine g_iload_n dX12_laysPlans_57 rfl rfl ?_
      refine g_iadd dX12_laysPlans_58 ?_
      by_cases g9 : ((4096 : Int32) + x2) < 0 ∨ 8192 ≤ ((4096 : Int32) + x2).toNatClampNeg
      · rw [if_pos g9] at h; cases h
      replace h := z_iff g9 h
      refine g_iald (a := 145) dX12_laysPlans_59 sh_145 g9 ?_
      refine g_iadd dX12_laysPlans_60 ?_
      refine g_aload_n dX12_laysPlans_61 rfl rfl ?_
      refine g_get (a := 137) (v := .ref 144) dX12_laysPlans_62 f_12_35 sh_137 rfl rfl ?_
      refine g_bipush (v := (6 : Int32)) dX12_laysPlans_65 (by decide) ?_
      refine g_ialN (a := 142) (j := 6) (v := q5.2.1 142 6) dX12_laysPlans_67 sh_142 rfl (by decide) (by simp [z_wI, z_wL, z_wLs, upd, vp_updL]) ?_
      refine g_iload_n dX12_laysPlans_68 rfl rfl ?_
      refine g_iload_n dX12_laysPlans_69 rfl rfl ?_
      obtain ⟨q10, e11, h⟩ := z_bd h
      refine g_callS (as := [.int x2, .int x1]) (rest := [.int (q5.2.1 142 6), .int (((z_wI q5.2 145 (((4096 : Int32) + x2).toNatClampNeg) q5.1).1 145 x2.toNatClampNeg) + ((z_wI q5.2 145 (((4096 : Int32) + x2).toNatClampNeg) q5.1).1 145 ((4096 : Int32) + x2).toNatClampNeg)), .int x2, .ref 148]) (c := mX12_changesOf) (k1 := 1) dX12_laysPlans_70 rfl rfl rfl rfl rfl (Nat.le_of_ble_eq_true rfl) (Nat.le_of_ble_eq_true rfl) (by decide) ?_
      refine A_X12_changesOf e11 ?_
      show z_G none 3 mX12_laysPlans 73 [some (.ref 139), some (.int x1), some (.int x2)] [.int q10.1, .int (q5.2.1 142 6), .int (((z_wI q5.2 145 (((4096 : Int32) + x2).toNatClampNeg) q5.1).1 145 x2.toNatClampNeg) + ((z_wI q5.2 145 (((4096 : Int32) + x2).toNatClampNeg) q5.1).1 145 ((4096 : Int32) + x2).toNatClampNeg)), .int x2, .ref 148] q10.2 Q
      refine g_imul dX12_laysPlans_73 ?_
      refine g_isub dX12_laysPlans_74 ?_
      by_cases g12 : x2 < 0 ∨ 4096 ≤ x2.toNatClampNeg
      · rw [if_pos g12] at h; cases h
      replace h := z_iff g12 h
      refine g_iast (a := 146) dX12_laysPlans_75 sh_146 g12 ?_
      refine g_iinc (v := x2 + (1 : Int32)) (ls' := [some (.ref 139), some (.int x1), some (.int (x2 + (1 : Int32)))]) dX12_laysPlans_76 rfl rfl rfl ?_
      refine g_goto (t := 2) dX12_laysPlans_79 (by decide) ?_
      exact g_sub (z_sub_s (z_sub_s (z_sub_s z_sub_nil))) (ih _ _ _ _ _ _ h hq)
def F_X12_laysPlans (w : Nat) (M : z_Mem) (a1 : Int32) : Option (Unit × z_Mem) :=
  L_X12_laysPlans w w M a1 (0 : Int32)
set_option maxHeartbeats 4000000 in
theorem A_X12_laysPlans {w : Nat} {M : z_Mem} {a1 : Int32} {r : Unit} {M' : z_Mem} {Q : Option Value → z_Mem → Prop} (h : F_X12_laysPlans w M a1 = some (r, M')) (hq : Q none M') : z_Cl 3 mX12_laysPlans [.ref 139, .int a1] M Q := by
  refine g_in (ls := [some (.ref 139), some (.int a1), none]) rfl ?_
  unfold F_X12_laysPlans at h
  refine g_iconst (v := (0 : Int32)) dX12_laysPlans_0 (by decide) ?_
  refine g_istore_n (ls' := [some (.ref 139), some (.int a1), some (.int (0 : Int32))]) dX12_laysPlans_1 rfl (Nat.le_of_ble_eq_true rfl) rfl ?_
  exact g_sub (z_sub_s (z_sub_s (z_sub_s z_sub_nil))) ((AL_X12_laysPlans (w := w) w) _ _ _ _ _ _ h hq)
theorem dX12_gain_0 : decode cX12_gain 0 = .ok (.aload_n 0, 1) := by decide +kernel
theorem dX12_gain_1 : decode cX12_gain 1 = .ok (.iconst 0, 1) := by decide +kernel
theorem dX12_gain_2 : decode cX12_gain 2 = .ok (.putfield 57, 3) := by decide +kernel
theorem dX12_gain_5 : decode cX12_gain 5 = .ok (.aload_n 0, 1) := by decide +kernel
theorem dX12_gain_6 : decode cX12_gain 6 = .ok (.iconst 0, 1) := by decide +kernel
theorem dX12_gain_7 : decode cX12_gain 7 = .ok (.putfield 60, 3) := by decide +kernel
theorem dX12_gain_10 : decode cX12_gain 10 = .ok (.iload_n 1, 1) := by decide +kernel
theorem dX12_gain_11 : decode cX12_gain 11 = .ok (.invokestatic 336, 3) := by decide +kernel
theorem dX12_gain_14 : decode cX12_gain 14 = .ok (.ifCond .ne 9, 3) := by decide +kernel
theorem dX12_gain_17 : decode cX12_gain 17 = .ok (.aload_n 0, 1) := by decide +kernel
theorem dX12_gain_18 : decode cX12_gain 18 = .ok (.iconst 2, 1) := by decide +kernel
theorem dX12_gain_19 : decode cX12_gain 19 = .ok (.invokevirtual 333, 3) := by decide +kernel
theorem dX12_gain_22 : decode cX12_gain 22 = .ok (.ireturn, 1) := by decide +kernel
theorem dX12_gain_23 : decode cX12_gain 23 = .ok (.iload_n 2, 1) := by decide +kernel
theorem dX12_gain_24 : decode cX12_gain 24 = .ok (.invokestatic 402, 3) := by decide +kernel
theorem dX12_gain_27 : decode cX12_gain 27 = .ok (.ifCond .eq 13, 3) := by decide +kernel
theorem dX12_gain_30 : decode cX12_gain 30 = .ok (.aload_n 0, 1) := by decide +kernel
theorem dX12_gain_31 : decode cX12_gain 31 = .ok (.iload_n 1, 1) := by decide +kernel
theorem dX12_gain_32 : decode cX12_gain 32 = .ok (.iload_n 2, 1) := by decide +kernel
theorem dX12_gain_33 : decode cX12_gain 33 = .ok (.iconst (-1), 1) := by decide +kernel
theorem dX12_gain_34 : decode cX12_gain 34 = .ok (.invokevirtual 423, 3) := by decide +kernel
theorem dX12_gain_37 : decode cX12_gain 37 = .ok (.goto 8, 3) := by decide +kernel
theorem dX12_gain_40 : decode cX12_gain 40 = .ok (.aload_n 0, 1) := by decide +kernel
theorem dX12_gain_41 : decode cX12_gain 41 = .ok (.iconst 5, 1) := by decide +kernel
theorem dX12_gain_42 : decode cX12_gain 42 = .ok (.invokevirtual 333, 3) := by decide +kernel
theorem dX12_gain_45 : decode cX12_gain 45 = .ok (.ireturn, 1) := by decide +kernel
def F_X12_gain (w : Nat) (M : z_Mem) (a1 : Int32) (a2 : Int32) : Option (Int32 × z_Mem) :=
  (F_X12_isSideAt w (z_wI (z_wI M 137 1 (0 : Int32)) 137 0 (0 : Int32)) a1).bind fun q1 =>
  if q1.1 = true then
  (F_X12_isPlan w q1.2 a2).bind fun q4 =>
  if q4.1 = true then
  (F_X12_gainOf w q4.2 a1 a2 (-1 : Int32)).bind fun q9 =>
  some (q9.1, q9.2)
  else
  (F_X12_refuse w q4.2 (5 : Int32)).bind fun q7 =>
  some (q7.1, q7.2)
  else
  (F_X12_refuse w q1.2 (2 : Int32)).bind fun q11 =>
  some (q11.1, q11.2)
set_option maxHeartbeats 4000000 in
theorem A_X12_gain {w : Nat} {M : z_Mem} {a1 : Int32} {a2 : Int32} {r : Int32} {M' : z_Mem} {Q : Option Value → z_Mem → Prop} (h : F_X12_gain w M a1 a2 = some (r, M')) (hq : Q (some (.int r)) M') : z_Cl 3 mX12_gain [.ref 139, .int a1, .int a2] M Q := by
  refine g_in (ls := [some (.ref 139), some (.int a1), some (.int a2)]) rfl ?_
  unfold F_X12_gain at h
  refine g_aload_n dX12_gain_0 rfl rfl ?_
  refine g_iconst (v := (0 : Int32)) dX12_gain_1 (by decide) ?_
  refine g_putI (a := 137) dX12_gain_2 f_12_57 sh_137 rfl rfl rfl ?_
  refine g_aload_n dX12_gain_5 rfl rfl ?_
  refine g_iconst (v := (0 : Int32)) dX12_gain_6 (by decide) ?_
  refine g_putI (a := 137) dX12_gain_7 f_12_60 sh_137 rfl rfl rfl ?_
  refine g_iload_n dX12_gain_10 rfl rfl ?_
  obtain ⟨q1, e2, h⟩ := z_bd h
  refine g_callS (as := [.int a1]) (rest := []) (c := mX12_isSideAt) (k1 := 0) dX12_gain_11 rfl rfl rfl rfl rfl (Nat.le_of_ble_eq_true rfl) (Nat.le_of_ble_eq_true rfl) (by decide) ?_
  refine A_X12_isSideAt e2 ?_
  show z_G none 3 mX12_gain 14 [some (.ref 139), some (.int a1), some (.int a2)] [.int (z_tb q1.1)] q1.2 Q
  refine g_if_ne (t := 23) dX12_gain_14 (by decide) (fun c3 => ?_) (fun c3 => ?_)
  · replace h := z_ift (z_tbn.mp c3) h
    refine g_iload_n dX12_gain_23 rfl rfl ?_
    obtain ⟨q4, e5, h⟩ := z_bd h
    refine g_callS (as := [.int a2]) (rest := []) (c := mX12_isPlan) (k1 := 1) dX12_gain_24 rfl rfl rfl rfl rfl (Nat.le_of_ble_eq_true rfl) (Nat.le_of_ble_eq_true rfl) (by decide) ?_
    refine A_X12_isPlan e5 ?_
    show z_G none 3 mX12_gain 27 [some (.ref 139), some (.int a1), some (.int a2)] [.int (z_tb q4.1)] q4.2 Q
    refine g_if_eq (t := 40) dX12_gain_27 (by decide) (fun c6 => ?_) (fun c6 => ?_)
    · replace h := z_iff (z_tb0.mp c6) h
      refine g_aload_n dX12_gain_40 rfl rfl ?_
      refine g_iconst (v := (5 : Int32)) dX12_gain_41 (by decide) ?_
      obtain ⟨q7, e8, h⟩ := z_bd h
      refine g_callV (a := 137) (as := [.int (5 : Int32)]) (rest := []) (c := mX12_refuse) (k1 := 0) dX12_gain_42 rfl rfl rfl sh_137 rfl rfl (Nat.le_of_ble_eq_true rfl) (Nat.le_of_ble_eq_true rfl) (by decide) ?_
      refine A_X12_refuse e8 ?_
      show z_G none 3 mX12_gain 45 [some (.ref 139), some (.int a1), some (.int a2)] [.int q7.1] q7.2 Q
      cases h
      exact g_iret dX12_gain_45 rfl rfl hq
    · replace h := z_ift (z_tbn.mp c6) h
      refine g_aload_n dX12_gain_30 rfl rfl ?_
      refine g_iload_n dX12_gain_31 rfl rfl ?_
      refine g_iload_n dX12_gain_32 rfl rfl ?_
      refine g_iconst (v := (-1 : Int32)) dX12_gain_33 (by decide) ?_
      obtain ⟨q9, e10, h⟩ := z_bd h
      refine g_callV (a := 137) (as := [.int a1, .int a2, .int (-1 : Int32)]) (rest := []) (c := mX12_gainOf) (k1 := 2) dX12_gain_34 rfl rfl rfl sh_137 rfl rfl (Nat.le_of_ble_eq_true rfl) (Nat.le_of_ble_eq_true rfl) (by decide) ?_
      refine A_X12_gainOf e10 ?_
      show z_G none 3 mX12_gain 37 [some (.ref 139), some (.int a1), some (.int a2)] [.int q9.1] q9.2 Q
      refine g_goto (t := 45) dX12_gain_37 (by decide) ?_
      cases h
      exact g_iret dX12_gain_45 rfl rfl hq
  · replace h := z_iff (z_tb0.mp c3) h
    refine g_aload_n dX12_gain_17 rfl rfl ?_
    refine g_iconst (v := (2 : Int32)) dX12_gain_18 (by decide) ?_
    obtain ⟨q11, e12, h⟩ := z_bd h
    refine g_callV (a := 137) (as := [.int (2 : Int32)]) (rest := []) (c := mX12_refuse) (k1 := 0) dX12_gain_19 rfl rfl rfl sh_137 rfl rfl (Nat.le_of_ble_eq_true rfl) (Nat.le_of_ble_eq_true rfl) (by decide) ?_
    refine A_X12_refuse e12 ?_
    show z_G none 3 mX12_gain 22 [some (.ref 139), some (.int a1), some (.int a2)] [.int q11.1] q11.2 Q
    cases h
    exact g_iret dX12_gain_22 rfl rfl hq
theorem dX12_changes_0 : decode cX12_changes 0 = .ok (.aload_n 0, 1) := by decide +kernel
theorem dX12_changes_1 : decode cX12_changes 1 = .ok (.iconst 0, 1) := by decide +kernel
theorem dX12_changes_2 : decode cX12_changes 2 = .ok (.putfield 57, 3) := by decide +kernel
theorem dX12_changes_5 : decode cX12_changes 5 = .ok (.aload_n 0, 1) := by decide +kernel
theorem dX12_changes_6 : decode cX12_changes 6 = .ok (.iconst 0, 1) := by decide +kernel
theorem dX12_changes_7 : decode cX12_changes 7 = .ok (.putfield 60, 3) := by decide +kernel
theorem dX12_changes_10 : decode cX12_changes 10 = .ok (.iload_n 1, 1) := by decide +kernel
theorem dX12_changes_11 : decode cX12_changes 11 = .ok (.invokestatic 402, 3) := by decide +kernel
theorem dX12_changes_14 : decode cX12_changes 14 = .ok (.ifCond .eq 11, 3) := by decide +kernel
theorem dX12_changes_17 : decode cX12_changes 17 = .ok (.iload_n 1, 1) := by decide +kernel
theorem dX12_changes_18 : decode cX12_changes 18 = .ok (.iconst (-1), 1) := by decide +kernel
theorem dX12_changes_19 : decode cX12_changes 19 = .ok (.invokestatic 426, 3) := by decide +kernel
theorem dX12_changes_22 : decode cX12_changes 22 = .ok (.goto 8, 3) := by decide +kernel
theorem dX12_changes_25 : decode cX12_changes 25 = .ok (.aload_n 0, 1) := by decide +kernel
theorem dX12_changes_26 : decode cX12_changes 26 = .ok (.iconst 5, 1) := by decide +kernel
theorem dX12_changes_27 : decode cX12_changes 27 = .ok (.invokevirtual 333, 3) := by decide +kernel
theorem dX12_changes_30 : decode cX12_changes 30 = .ok (.ireturn, 1) := by decide +kernel
def F_X12_changes (w : Nat) (M : z_Mem) (a1 : Int32) : Option (Int32 × z_Mem) :=
  (F_X12_isPlan w (z_wI (z_wI M 137 1 (0 : Int32)) 137 0 (0 : Int32)) a1).bind fun q1 =>
  if q1.1 = true then
  (F_X12_changesOf w q1.2 a1 (-1 : Int32)).bind fun q6 =>
  some (q6.1, q6.2)
  else
  (F_X12_refuse w q1.2 (5 : Int32)).bind fun q4 =>
  some (q4.1, q4.2)
set_option maxHeartbeats 4000000 in
theorem A_X12_changes {w : Nat} {M : z_Mem} {a1 : Int32} {r : Int32} {M' : z_Mem} {Q : Option Value → z_Mem → Prop} (h : F_X12_changes w M a1 = some (r, M')) (hq : Q (some (.int r)) M') : z_Cl 2 mX12_changes [.ref 139, .int a1] M Q := by
  refine g_in (ls := [some (.ref 139), some (.int a1)]) rfl ?_
  unfold F_X12_changes at h
  refine g_aload_n dX12_changes_0 rfl rfl ?_
  refine g_iconst (v := (0 : Int32)) dX12_changes_1 (by decide) ?_
  refine g_putI (a := 137) dX12_changes_2 f_12_57 sh_137 rfl rfl rfl ?_
  refine g_aload_n dX12_changes_5 rfl rfl ?_
  refine g_iconst (v := (0 : Int32)) dX12_changes_6 (by decide) ?_
  refine g_putI (a := 137) dX12_changes_7 f_12_60 sh_137 rfl rfl rfl ?_
  refine g_iload_n dX12_changes_10 rfl rfl ?_
  obtain ⟨q1, e2, h⟩ := z_bd h
  refine g_callS (as := [.int a1]) (rest := []) (c := mX12_isPlan) (k1 := 1) dX12_changes_11 rfl rfl rfl rfl rfl (Nat.le_of_ble_eq_true rfl) (Nat.le_of_ble_eq_true rfl) (by decide) ?_
  refine A_X12_isPlan e2 ?_
  show z_G none 2 mX12_changes 14 [some (.ref 139), some (.int a1)] [.int (z_tb q1.1)] q1.2 Q
  refine g_if_eq (t := 25) dX12_changes_14 (by decide) (fun c3 => ?_) (fun c3 => ?_)
  · replace h := z_iff (z_tb0.mp c3) h
    refine g_aload_n dX12_changes_25 rfl rfl ?_
    refine g_iconst (v := (5 : Int32)) dX12_changes_26 (by decide) ?_
    obtain ⟨q4, e5, h⟩ := z_bd h
    refine g_callV (a := 137) (as := [.int (5 : Int32)]) (rest := []) (c := mX12_refuse) (k1 := 0) dX12_changes_27 rfl rfl rfl sh_137 rfl rfl (Nat.le_of_ble_eq_true rfl) (Nat.le_of_ble_eq_true rfl) (by decide) ?_
    refine A_X12_refuse e5 ?_
    show z_G none 2 mX12_changes 30 [some (.ref 139), some (.int a1)] [.int q4.1] q4.2 Q
    cases h
    exact g_iret dX12_changes_30 rfl rfl hq
  · replace h := z_ift (z_tbn.mp c3) h
    refine g_iload_n dX12_changes_17 rfl rfl ?_
    refine g_iconst (v := (-1 : Int32)) dX12_changes_18 (by decide) ?_
    obtain ⟨q6, e7, h⟩ := z_bd h
    refine g_callS (as := [.int a1, .int (-1 : Int32)]) (rest := []) (c := mX12_changesOf) (k1 := 1) dX12_changes_19 rfl rfl rfl rfl rfl (Nat.le_of_ble_eq_true rfl) (Nat.le_of_ble_eq_true rfl) (by decide) ?_
    refine A_X12_changesOf e7 ?_
    show z_G none 2 mX12_changes 22 [some (.ref 139), some (.int a1)] [.int q6.1] q6.2 Q
    refine g_goto (t := 30) dX12_changes_22 (by decide) ?_
    cases h
    exact g_iret dX12_changes_30 rfl rfl hq
theorem dX12_net_0 : decode cX12_net 0 = .ok (.aload_n 0, 1) := by decide +kernel
theorem dX12_net_1 : decode cX12_net 1 = .ok (.iconst 0, 1) := by decide +kernel
theorem dX12_net_2 : decode cX12_net 2 = .ok (.putfield 57, 3) := by decide +kernel
theorem dX12_net_5 : decode cX12_net 5 = .ok (.aload_n 0, 1) := by decide +kernel
theorem dX12_net_6 : decode cX12_net 6 = .ok (.iconst 0, 1) := by decide +kernel
theorem dX12_net_7 : decode cX12_net 7 = .ok (.putfield 60, 3) := by decide +kernel
theorem dX12_net_10 : decode cX12_net 10 = .ok (.iload_n 1, 1) := by decide +kernel
theorem dX12_net_11 : decode cX12_net 11 = .ok (.invokestatic 402, 3) := by decide +kernel
theorem dX12_net_14 : decode cX12_net 14 = .ok (.ifCond .ne 9, 3) := by decide +kernel
theorem dX12_net_17 : decode cX12_net 17 = .ok (.aload_n 0, 1) := by decide +kernel
theorem dX12_net_18 : decode cX12_net 18 = .ok (.iconst 5, 1) := by decide +kernel
theorem dX12_net_19 : decode cX12_net 19 = .ok (.invokevirtual 333, 3) := by decide +kernel
theorem dX12_net_22 : decode cX12_net 22 = .ok (.ireturn, 1) := by decide +kernel
theorem dX12_net_23 : decode cX12_net 23 = .ok (.aload_n 0, 1) := by decide +kernel
theorem dX12_net_24 : decode cX12_net 24 = .ok (.iconst 0, 1) := by decide +kernel
theorem dX12_net_25 : decode cX12_net 25 = .ok (.iload_n 1, 1) := by decide +kernel
theorem dX12_net_26 : decode cX12_net 26 = .ok (.iconst (-1), 1) := by decide +kernel
theorem dX12_net_27 : decode cX12_net 27 = .ok (.invokevirtual 423, 3) := by decide +kernel
theorem dX12_net_30 : decode cX12_net 30 = .ok (.aload_n 0, 1) := by decide +kernel
theorem dX12_net_31 : decode cX12_net 31 = .ok (.iconst 1, 1) := by decide +kernel
theorem dX12_net_32 : decode cX12_net 32 = .ok (.iload_n 1, 1) := by decide +kernel
theorem dX12_net_33 : decode cX12_net 33 = .ok (.iconst (-1), 1) := by decide +kernel
theorem dX12_net_34 : decode cX12_net 34 = .ok (.invokevirtual 423, 3) := by decide +kernel
theorem dX12_net_37 : decode cX12_net 37 = .ok (.iadd, 1) := by decide +kernel
theorem dX12_net_38 : decode cX12_net 38 = .ok (.aload_n 0, 1) := by decide +kernel
theorem dX12_net_39 : decode cX12_net 39 = .ok (.getfield 35, 3) := by decide +kernel
theorem dX12_net_42 : decode cX12_net 42 = .ok (.bipush 6, 2) := by decide +kernel
theorem dX12_net_44 : decode cX12_net 44 = .ok (.iaload, 1) := by decide +kernel
theorem dX12_net_45 : decode cX12_net 45 = .ok (.iload_n 1, 1) := by decide +kernel
theorem dX12_net_46 : decode cX12_net 46 = .ok (.iconst (-1), 1) := by decide +kernel
theorem dX12_net_47 : decode cX12_net 47 = .ok (.invokestatic 426, 3) := by decide +kernel
theorem dX12_net_50 : decode cX12_net 50 = .ok (.imul, 1) := by decide +kernel
theorem dX12_net_51 : decode cX12_net 51 = .ok (.isub, 1) := by decide +kernel
theorem dX12_net_52 : decode cX12_net 52 = .ok (.ireturn, 1) := by decide +kernel
def F_X12_net (w : Nat) (M : z_Mem) (a1 : Int32) : Option (Int32 × z_Mem) :=
  (F_X12_isPlan w (z_wI (z_wI M 137 1 (0 : Int32)) 137 0 (0 : Int32)) a1).bind fun q1 =>
  if q1.1 = true then
  (F_X12_gainOf w q1.2 (0 : Int32) a1 (-1 : Int32)).bind fun q4 =>
  (F_X12_gainOf w q4.2 (1 : Int32) a1 (-1 : Int32)).bind fun q6 =>
  (F_X12_changesOf w q6.2 a1 (-1 : Int32)).bind fun q8 =>
  some ((q4.1 + q6.1) - ((q6.2.1 142 6) * q8.1), q8.2)
  else
  (F_X12_refuse w q1.2 (5 : Int32)).bind fun q10 =>
  some (q10.1, q10.2)
set_option maxHeartbeats 4000000 in
theorem A_X12_net {w : Nat} {M : z_Mem} {a1 : Int32} {r : Int32} {M' : z_Mem} {Q : Option Value → z_Mem → Prop} (h : F_X12_net w M a1 = some (r, M')) (hq : Q (some (.int r)) M') : z_Cl 3 mX12_net [.ref 139, .int a1] M Q := by
  refine g_in (ls := [some (.ref 139), some (.int a1)]) rfl ?_
  unfold F_X12_net at h
  refine g_aload_n dX12_net_0 rfl rfl ?_
  refine g_iconst (v := (0 : Int32)) dX12_net_1 (by decide) ?_
  refine g_putI (a := 137) dX12_net_2 f_12_57 sh_137 rfl rfl rfl ?_
  refine g_aload_n dX12_net_5 rfl rfl ?_
  refine g_iconst (v := (0 : Int32)) dX12_net_6 (by decide) ?_
  refine g_putI (a := 137) dX12_net_7 f_12_60 sh_137 rfl rfl rfl ?_
  refine g_iload_n dX12_net_10 rfl rfl ?_
  obtain ⟨q1, e2, h⟩ := z_bd h
  refine g_callS (as := [.int a1]) (rest := []) (c := mX12_isPlan) (k1 := 1) dX12_net_11 rfl rfl rfl rfl rfl (Nat.le_of_ble_eq_true rfl) (Nat.le_of_ble_eq_true rfl) (by decide) ?_
  refine A_X12_isPlan e2 ?_
  show z_G none 3 mX12_net 14 [some (.ref 139), some (.int a1)] [.int (z_tb q1.1)] q1.2 Q
  refine g_if_ne (t := 23) dX12_net_14 (by decide) (fun c3 => ?_) (fun c3 => ?_)
  · replace h := z_ift (z_tbn.mp c3) h
    refine g_aload_n dX12_net_23 rfl rfl ?_
    refine g_iconst (v := (0 : Int32)) dX12_net_24 (by decide) ?_
    refine g_iload_n dX12_net_25 rfl rfl ?_
    refine g_iconst (v := (-1 : Int32)) dX12_net_26 (by decide) ?_
    obtain ⟨q4, e5, h⟩ := z_bd h
    refine g_callV (a := 137) (as := [.int (0 : Int32), .int a1, .int (-1 : Int32)]) (rest := []) (c := mX12_gainOf) (k1 := 2) dX12_net_27 rfl rfl rfl sh_137 rfl rfl (Nat.le_of_ble_eq_true rfl) (Nat.le_of_ble_eq_true rfl) (by decide) ?_
    refine A_X12_gainOf e5 ?_
    show z_G none 3 mX12_net 30 [some (.ref 139), some (.int a1)] [.int q4.1] q4.2 Q
    refine g_aload_n dX12_net_30 rfl rfl ?_
    refine g_iconst (v := (1 : Int32)) dX12_net_31 (by decide) ?_
    refine g_iload_n dX12_net_32 rfl rfl ?_
    refine g_iconst (v := (-1 : Int32)) dX12_net_33 (by decide) ?_
    obtain ⟨q6, e7, h⟩ := z_bd h
    refine g_callV (a := 137) (as := [.int (1 : Int32), .int a1, .int (-1 : Int32)]) (rest := [.int q4.1]) (c := mX12_gainOf) (k1 := 2) dX12_net_34 rfl rfl rfl sh_137 rfl rfl (Nat.le_of_ble_eq_true rfl) (Nat.le_of_ble_eq_true rfl) (by decide) ?_
    refine A_X12_gainOf e7 ?_
    show z_G none 3 mX12_net 37 [some (.ref 139), some (.int a1)] [.int q6.1, .int q4.1] q6.2 Q
    refine g_iadd dX12_net_37 ?_
    refine g_aload_n dX12_net_38 rfl rfl ?_
    refine g_get (a := 137) (v := .ref 144) dX12_net_39 f_12_35 sh_137 rfl rfl ?_
    refine g_bipush (v := (6 : Int32)) dX12_net_42 (by decide) ?_
    refine g_ialN (a := 142) (j := 6) (v := q6.2.1 142 6) dX12_net_44 sh_142 rfl (by decide) rfl ?_
    refine g_iload_n dX12_net_45 rfl rfl ?_
    refine g_iconst (v := (-1 : Int32)) dX12_net_46 (by decide) ?_
    obtain ⟨q8, e9, h⟩ := z_bd h
    refine g_callS (as := [.int a1, .int (-1 : Int32)]) (rest := [.int (q6.2.1 142 6), .int (q4.1 + q6.1)]) (c := mX12_changesOf) (k1 := 1) dX12_net_47 rfl rfl rfl rfl rfl (Nat.le_of_ble_eq_true rfl) (Nat.le_of_ble_eq_true rfl) (by decide) ?_
    refine A_X12_changesOf e9 ?_
    show z_G none 3 mX12_net 50 [some (.ref 139), some (.int a1)] [.int q8.1, .int (q6.2.1 142 6), .int (q4.1 + q6.1)] q8.2 Q
    refine g_imul dX12_net_50 ?_
    refine g_isub dX12_net_51 ?_
    cases h
    exact g_iret dX12_net_52 rfl rfl hq
  · replace h := z_iff (z_tb0.mp c3) h
    refine g_aload_n dX12_net_17 rfl rfl ?_
    refine g_iconst (v := (5 : Int32)) dX12_net_18 (by decide) ?_
    obtain ⟨q10, e11, h⟩ := z_bd h
    refine g_callV (a := 137) (as := [.int (5 : Int32)]) (rest := []) (c := mX12_refuse) (k1 := 0) dX12_net_19 rfl rfl rfl sh_137 rfl rfl (Nat.le_of_ble_eq_true rfl) (Nat.le_of_ble_eq_true rfl) (by decide) ?_
    refine A_X12_refuse e11 ?_
    show z_G none 3 mX12_net 22 [some (.ref 139), some (.int a1)] [.int q10.1] q10.2 Q
    cases h
    exact g_iret dX12_net_22 rfl rfl hq
theorem dX12_best_0 : decode cX12_best 0 = .ok (.aload_n 0, 1) := by decide +kernel
theorem dX12_best_1 : decode cX12_best 1 = .ok (.iconst 0, 1) := by decide +kernel
theorem dX12_best_2 : decode cX12_best 2 = .ok (.putfield 57, 3) := by decide +kernel
theorem dX12_best_5 : decode cX12_best 5 = .ok (.aload_n 0, 1) := by decide +kernel
theorem dX12_best_6 : decode cX12_best 6 = .ok (.iconst 0, 1) := by decide +kernel
theorem dX12_best_7 : decode cX12_best 7 = .ok (.putfield 60, 3) := by decide +kernel
theorem dX12_best_10 : decode cX12_best 10 = .ok (.iload_n 1, 1) := by decide +kernel
theorem dX12_best_11 : decode cX12_best 11 = .ok (.i2l, 1) := by decide +kernel
theorem dX12_best_12 : decode cX12_best 12 = .ok (.lconst 0, 1) := by decide +kernel
theorem dX12_best_13 : decode cX12_best 13 = .ok (.ldc2_w 429, 3) := by decide +kernel
theorem dX12_best_16 : decode cX12_best 16 = .ok (.invokestatic 92, 3) := by decide +kernel
theorem dX12_best_19 : decode cX12_best 19 = .ok (.ifCond .ne 9, 3) := by decide +kernel
theorem dX12_best_22 : decode cX12_best 22 = .ok (.aload_n 0, 1) := by decide +kernel
theorem dX12_best_23 : decode cX12_best 23 = .ok (.iconst 5, 1) := by decide +kernel
theorem dX12_best_24 : decode cX12_best 24 = .ok (.invokevirtual 333, 3) := by decide +kernel
theorem dX12_best_27 : decode cX12_best 27 = .ok (.ireturn, 1) := by decide +kernel
theorem dX12_best_28 : decode cX12_best 28 = .ok (.aload_n 0, 1) := by decide +kernel
theorem dX12_best_29 : decode cX12_best 29 = .ok (.iconst (-1), 1) := by decide +kernel
theorem dX12_best_30 : decode cX12_best 30 = .ok (.invokevirtual 431, 3) := by decide +kernel
theorem dX12_best_33 : decode cX12_best 33 = .ok (.iconst (-1), 1) := by decide +kernel
theorem dX12_best_34 : decode cX12_best 34 = .ok (.istore_n 2, 1) := by decide +kernel
theorem dX12_best_35 : decode cX12_best 35 = .ok (.iconst 0, 1) := by decide +kernel
theorem dX12_best_36 : decode cX12_best 36 = .ok (.istore_n 3, 1) := by decide +kernel
theorem dX12_best_37 : decode cX12_best 37 = .ok (.iload_n 3, 1) := by decide +kernel
theorem dX12_best_38 : decode cX12_best 38 = .ok (.sipush 4096, 3) := by decide +kernel
theorem dX12_best_41 : decode cX12_best 41 = .ok (.if_icmp .ge 39, 3) := by decide +kernel
theorem dX12_best_44 : decode cX12_best 44 = .ok (.iload_n 3, 1) := by decide +kernel
theorem dX12_best_45 : decode cX12_best 45 = .ok (.iconst (-1), 1) := by decide +kernel
theorem dX12_best_46 : decode cX12_best 46 = .ok (.invokestatic 426, 3) := by decide +kernel
theorem dX12_best_49 : decode cX12_best 49 = .ok (.iload_n 1, 1) := by decide +kernel
theorem dX12_best_50 : decode cX12_best 50 = .ok (.if_icmp .gt 24, 3) := by decide +kernel
theorem dX12_best_53 : decode cX12_best 53 = .ok (.iload_n 2, 1) := by decide +kernel
theorem dX12_best_54 : decode cX12_best 54 = .ok (.ifCond .lt 18, 3) := by decide +kernel
theorem dX12_best_57 : decode cX12_best 57 = .ok (.aload_n 0, 1) := by decide +kernel
theorem dX12_best_58 : decode cX12_best 58 = .ok (.getfield 47, 3) := by decide +kernel
theorem dX12_best_61 : decode cX12_best 61 = .ok (.iload_n 3, 1) := by decide +kernel
theorem dX12_best_62 : decode cX12_best 62 = .ok (.iaload, 1) := by decide +kernel
theorem dX12_best_63 : decode cX12_best 63 = .ok (.aload_n 0, 1) := by decide +kernel
theorem dX12_best_64 : decode cX12_best 64 = .ok (.getfield 47, 3) := by decide +kernel
theorem dX12_best_67 : decode cX12_best 67 = .ok (.iload_n 2, 1) := by decide +kernel
theorem dX12_best_68 : decode cX12_best 68 = .ok (.iaload, 1) := by decide +kernel
theorem dX12_best_69 : decode cX12_best 69 = .ok (.if_icmp .le 5, 3) := by decide +kernel
theorem dX12_best_72 : decode cX12_best 72 = .ok (.iload_n 3, 1) := by decide +kernel
theorem dX12_best_73 : decode cX12_best 73 = .ok (.istore_n 2, 1) := by decide +kernel
theorem dX12_best_74 : decode cX12_best 74 = .ok (.iinc 3 1, 3) := by decide +kernel
theorem dX12_best_77 : decode cX12_best 77 = .ok (.goto (-40), 3) := by decide +kernel
theorem dX12_best_80 : decode cX12_best 80 = .ok (.iload_n 2, 1) := by decide +kernel
theorem dX12_best_81 : decode cX12_best 81 = .ok (.ireturn, 1) := by decide +kernel
def L_X12_best (w : Nat) : Nat → z_Mem → Int32 → Int32 → Int32 → Option (Int32 × z_Mem)
  | 0, _, _, _, _ => none
  | c + 1, M, x1, x2, x3 =>
    if (4096 : Int32) ≤ x3 then
    some (x2, M)
    else
    (F_X12_changesOf w M x3 (-1 : Int32)).bind fun q2 =>
    if x1 < q2.1 then
    L_X12_best w c q2.2 x1 x2 (x3 + (1 : Int32))
    else
    if x2 < (0 : Int32) then
    L_X12_best w c q2.2 x1 x3 (x3 + (1 : Int32))
    else
    if x3 < 0 ∨ 4096 ≤ x3.toNatClampNeg then none else
    if x2 < 0 ∨ 4096 ≤ x2.toNatClampNeg then none else
    if (q2.2.1 146 x3.toNatClampNeg) ≤ (q2.2.1 146 x2.toNatClampNeg) then
    L_X12_best w c q2.2 x1 x2 (x3 + (1 : Int32))
    else
    L_X12_best w c q2.2 x1 x3 (x3 + (1 : Int32))
set_option maxHeartbeats 4000000 in
theorem AL_X12_best {w : Nat} : ∀ (c : Nat), (∀ (M : z_Mem) (x1 : Int32) (x2 : Int32) (x3 : Int32) (r : Int32) (M' : z_Mem) (Q : Option Value → z_Mem → Prop), L_X12_best w c M x1 x2 x3 = some (r, M') → Q (some (.int r)) M' → z_G none 4 mX12_best 37 [some (.ref 139), some (.int x1), some (.int x2), some (.int x3)] [] M Q) := by
  intro c
  induction c with
  | zero => exact (fun M x1 x2 x3 r M' Q h hq => by rw [L_X12_best] at h; cases h)
  | succ c ih =>
    intro M x1 x2 x3 r M' Q h hq
    rw [L_X12_best] at h
    refine g_iload_n dX12_best_37 rfl rfl ?_
    refine g_sipush (v := (4096 : Int32)) dX12_best_38 (by decide) ?_
    refine g_ic_ge (t := 80) dX12_best_41 (by decide) (fun c1 => ?_) (fun c1 => ?_)
    · replace h := z_ift c1 h
      refine g_iload_n dX12_best_80 rfl rfl ?_
      cases h
      exact g_iret dX12_best_81 rfl rfl hq
    · replace h := z_iff c1 h
      refine g_iload_n dX12_best_44 rfl rfl ?_
      refine g_iconst (v := (-1 : Int32)) dX12_best_45 (by decide) ?_
      obtain ⟨q2, e3, h⟩ := z_bd h
      refine g_callS (as := [.int x3, .int (-1 : Int32)]) (rest := []) (c := mX12_changesOf) (k1 := 1) dX12_best_46 rfl rfl rfl rfl rfl (Nat.le_of_ble_eq_true rfl) (Nat.le_of_ble_eq_true rfl) (by decide) ?_
      refine A_X12_changesOf e3 ?_
      show z_G none 4 mX12_best 49 [some (.ref 139), some (.int x1), some (.int x2), some (.int x3)] [.int q2.1] q2.2 Q
      refine g_iload_n dX12_best_49 rfl rfl ?_
      refine g_ic_gt (t := 74) dX12_best_50 (by decide) (fun c4 => ?_) (fun c4 => ?_)
      · replace h := z_ift c4 h
        refine g_iinc (v := x3 + (1 : Int32)) (ls' := [some (.ref 139), some (.int x1), some (.int x2), some (.int (x3 + (1 : Int32)))]) dX12_best_74 rfl rfl rfl ?_
        refine g_goto (t := 37) dX12_best_77 (by decide) ?_
        exact g_sub (z_sub_s (z_sub_s (z_sub_s (z_sub_s z_sub_nil)))) (ih _ _ _ _ _ _ _ h hq)
      · replace h := z_iff c4 h
        refine g_iload_n dX12_best_53 rfl rfl ?_
        refine g_if_lt (t := 72) dX12_best_54 (by decide) (fun c5 => ?_) (fun c5 => ?_)
        · replace h := z_ift c5 h
          refine g_iload_n dX12_best_72 rfl rfl ?_
          refine g_istore_n (ls' := [some (.ref 139), some (.int x1), some (.int x3), some (.int x3)]) dX12_best_73 rfl (Nat.le_of_ble_eq_true rfl) rfl ?_
          refine g_iinc (v := x3 + (1 : Int32)) (ls' := [some (.ref 139), some (.int x1), some (.int x3), some (.int (x3 + (1 : Int32)))]) dX12_best_74 rfl rfl rfl ?_
          refine g_goto (t := 37) dX12_best_77 (by decide) ?_
          exact g_sub (z_sub_s (z_sub_s (z_sub_s (z_sub_s z_sub_nil)))) (ih _ _ _ _ _ _ _ h hq)
        · replace h := z_iff c5 h
          refine g_aload_n dX12_best_57 rfl rfl ?_
          refine g_get (a := 137) (v := .ref 148) dX12_best_58 f_12_47 sh_137 rfl rfl ?_
          refine g_iload_n dX12_best_61 rfl rfl ?_
          by_cases g6 : x3 < 0 ∨ 4096 ≤ x3.toNatClampNeg
          · rw [if_pos g6] at h; cases h
          replace h := z_iff g6 h
          refine g_iald (a := 146) dX12_best_62 sh_146 g6 ?_
          refine g_aload_n dX12_best_63 rfl rfl ?_
          refine g_get (a := 137) (v := .ref 148) dX12_best_64 f_12_47 sh_137 rfl rfl ?_
          refine g_iload_n dX12_best_67 rfl rfl ?_
          by_cases g7 : x2 < 0 ∨ 4096 ≤ x2.toNatClampNeg
          · rw [if_pos g7] at h; cases h
          replace h := z_iff g7 h
          refine g_iald (a := 146) dX12_best_68 sh_146 g7 ?_
          refine g_ic_le (t := 74) dX12_best_69 (by decide) (fun c8 => ?_) (fun c8 => ?_)
          · replace h := z_ift c8 h
            refine g_iinc (v := x3 + (1 : Int32)) (ls' := [some (.ref 139), some (.int x1), some (.int x2), some (.int (x3 + (1 : Int32)))]) dX12_best_74 rfl rfl rfl ?_
            refine g_goto (t := 37) dX12_best_77 (by decide) ?_
            exact g_sub (z_sub_s (z_sub_s (z_sub_s (z_sub_s z_sub_nil)))) (ih _ _ _ _ _ _ _ h hq)
          · replace h := z_iff c8 h
            refine g_iload_n dX12_best_72 rfl rfl ?_
            refine g_istore_n (ls' := [some (.ref 139), some (.int x1), some (.int x3), some (.int x3)]) dX12_best_73 rfl (Nat.le_of_ble_eq_true rfl) rfl ?_
            refine g_iinc (v := x3 + (1 : Int32)) (ls' := [some (.ref 139), some (.int x1), some (.int x3), some (.int (x3 + (1 : Int32)))]) dX12_best_74 rfl rfl rfl ?_
            refine g_goto (t := 37) dX12_best_77 (by decide) ?_
            exact g_sub (z_sub_s (z_sub_s (z_sub_s (z_sub_s z_sub_nil)))) (ih _ _ _ _ _ _ _ h hq)
def F_X12_best (w : Nat) (M : z_Mem) (a1 : Int32) : Option (Int32 × z_Mem) :=
  (F_X12_isIn w (z_wI (z_wI M 137 1 (0 : Int32)) 137 0 (0 : Int32)) a1.toInt64 (0 : Int64) (12 : Int64)).bind fun q9 =>
  if q9.1 = true then
  (F_X12_laysPlans w q9.2 (-1 : Int32)).bind fun q12 =>
  L_X12_best w w q12.2 a1 (-1 : Int32) (0 : Int32)
  else
  (F_X12_refuse w q9.2 (5 : Int32)).bind fun q14 =>
  some (q14.1, q14.2)
set_option maxHeartbeats 4000000 in
theorem A_X12_best {w : Nat} {M : z_Mem} {a1 : Int32} {r : Int32} {M' : z_Mem} {Q : Option Value → z_Mem → Prop} (h : F_X12_best w M a1 = some (r, M')) (hq : Q (some (.int r)) M') : z_Cl 4 mX12_best [.ref 139, .int a1] M Q := by
  refine g_in (ls := [some (.ref 139), some (.int a1), none, none]) rfl ?_
  unfold F_X12_best at h
  refine g_aload_n dX12_best_0 rfl rfl ?_
  refine g_iconst (v := (0 : Int32)) dX12_best_1 (by decide) ?_
  refine g_putI (a := 137) dX12_best_2 f_12_57 sh_137 rfl rfl rfl ?_
  refine g_aload_n dX12_best_5 rfl rfl ?_
  refine g_iconst (v := (0 : Int32)) dX12_best_6 (by decide) ?_
  refine g_putI (a := 137) dX12_best_7 f_12_60 sh_137 rfl rfl rfl ?_
  refine g_iload_n dX12_best_10 rfl rfl ?_
  refine g_i2l dX12_best_11 ?_
  refine g_lconst (v := (0 : Int64)) dX12_best_12 (by decide) ?_
  refine g_ldc2_w dX12_best_13 rfl ?_
  obtain ⟨q9, e10, h⟩ := z_bd h
  refine g_callS (as := [.long a1.toInt64, .long (0 : Int64), .long (12 : Int64)]) (rest := []) (c := mX12_isIn) (k1 := 0) dX12_best_16 rfl rfl rfl rfl rfl (Nat.le_of_ble_eq_true rfl) (Nat.le_of_ble_eq_true rfl) (by decide) ?_
  refine A_X12_isIn e10 ?_
  show z_G none 4 mX12_best 19 [some (.ref 139), some (.int a1), none, none] [.int (z_tb q9.1)] q9.2 Q
  refine g_if_ne (t := 28) dX12_best_19 (by decide) (fun c11 => ?_) (fun c11 => ?_)
  · replace h := z_ift (z_tbn.mp c11) h
    refine g_aload_n dX12_best_28 rfl rfl ?_
    refine g_iconst (v := (-1 : Int32)) dX12_best_29 (by decide) ?_
    obtain ⟨q12, e13, h⟩ := z_bd h
    refine g_callV (a := 137) (as := [.int (-1 : Int32)]) (rest := []) (c := mX12_laysPlans) (k1 := 3) dX12_best_30 rfl rfl rfl sh_137 rfl rfl (Nat.le_of_ble_eq_true rfl) (Nat.le_of_ble_eq_true rfl) (by decide) ?_
    refine A_X12_laysPlans e13 ?_
    show z_G none 4 mX12_best 33 [some (.ref 139), some (.int a1), none, none] [] q12.2 Q
    refine g_iconst (v := (-1 : Int32)) dX12_best_33 (by decide) ?_
    refine g_istore_n (ls' := [some (.ref 139), some (.int a1), some (.int (-1 : Int32)), none]) dX12_best_34 rfl (Nat.le_of_ble_eq_true rfl) rfl ?_
    refine g_iconst (v := (0 : Int32)) dX12_best_35 (by decide) ?_
    refine g_istore_n (ls' := [some (.ref 139), some (.int a1), some (.int (-1 : Int32)), some (.int (0 : Int32))]) dX12_best_36 rfl (Nat.le_of_ble_eq_true rfl) rfl ?_
    exact g_sub (z_sub_s (z_sub_s (z_sub_s (z_sub_s z_sub_nil)))) ((AL_X12_best (w := w) w) _ _ _ _ _ _ _ h hq)
  · replace h := z_iff (z_tb0.mp c11) h
    refine g_aload_n dX12_best_22 rfl rfl ?_
    refine g_iconst (v := (5 : Int32)) dX12_best_23 (by decide) ?_
    obtain ⟨q14, e15, h⟩ := z_bd h
    refine g_callV (a := 137) (as := [.int (5 : Int32)]) (rest := []) (c := mX12_refuse) (k1 := 0) dX12_best_24 rfl rfl rfl sh_137 rfl rfl (Nat.le_of_ble_eq_true rfl) (Nat.le_of_ble_eq_true rfl) (by decide) ?_
    refine A_X12_refuse e15 ?_
    show z_G none 4 mX12_best 27 [some (.ref 139), some (.int a1), none, none] [.int q14.1] q14.2 Q
    cases h
    exact g_iret dX12_best_27 rfl rfl hq
theorem dX12_isFair_0 : decode cX12_isFair 0 = .ok (.sipush 4095, 3) := by decide +kernel
theorem dX12_isFair_3 : decode cX12_isFair 3 = .ok (.iload_n 1, 1) := by decide +kernel
theorem dX12_isFair_4 : decode cX12_isFair 4 = .ok (.isub, 1) := by decide +kernel
theorem dX12_isFair_5 : decode cX12_isFair 5 = .ok (.istore_n 2, 1) := by decide +kernel
theorem dX12_isFair_6 : decode cX12_isFair 6 = .ok (.aload_n 0, 1) := by decide +kernel
theorem dX12_isFair_7 : decode cX12_isFair 7 = .ok (.getfield 44, 3) := by decide +kernel
theorem dX12_isFair_10 : decode cX12_isFair 10 = .ok (.iload_n 2, 1) := by decide +kernel
theorem dX12_isFair_11 : decode cX12_isFair 11 = .ok (.iaload, 1) := by decide +kernel
theorem dX12_isFair_12 : decode cX12_isFair 12 = .ok (.aload_n 0, 1) := by decide +kernel
theorem dX12_isFair_13 : decode cX12_isFair 13 = .ok (.getfield 44, 3) := by decide +kernel
theorem dX12_isFair_16 : decode cX12_isFair 16 = .ok (.iload_n 1, 1) := by decide +kernel
theorem dX12_isFair_17 : decode cX12_isFair 17 = .ok (.iaload, 1) := by decide +kernel
theorem dX12_isFair_18 : decode cX12_isFair 18 = .ok (.if_icmp .gt 30, 3) := by decide +kernel
theorem dX12_isFair_21 : decode cX12_isFair 21 = .ok (.aload_n 0, 1) := by decide +kernel
theorem dX12_isFair_22 : decode cX12_isFair 22 = .ok (.getfield 44, 3) := by decide +kernel
theorem dX12_isFair_25 : decode cX12_isFair 25 = .ok (.sipush 4096, 3) := by decide +kernel
theorem dX12_isFair_28 : decode cX12_isFair 28 = .ok (.iload_n 2, 1) := by decide +kernel
theorem dX12_isFair_29 : decode cX12_isFair 29 = .ok (.iadd, 1) := by decide +kernel
theorem dX12_isFair_30 : decode cX12_isFair 30 = .ok (.iaload, 1) := by decide +kernel
theorem dX12_isFair_31 : decode cX12_isFair 31 = .ok (.aload_n 0, 1) := by decide +kernel
theorem dX12_isFair_32 : decode cX12_isFair 32 = .ok (.getfield 44, 3) := by decide +kernel
theorem dX12_isFair_35 : decode cX12_isFair 35 = .ok (.sipush 4096, 3) := by decide +kernel
theorem dX12_isFair_38 : decode cX12_isFair 38 = .ok (.iload_n 1, 1) := by decide +kernel
theorem dX12_isFair_39 : decode cX12_isFair 39 = .ok (.iadd, 1) := by decide +kernel
theorem dX12_isFair_40 : decode cX12_isFair 40 = .ok (.iaload, 1) := by decide +kernel
theorem dX12_isFair_41 : decode cX12_isFair 41 = .ok (.if_icmp .gt 7, 3) := by decide +kernel
theorem dX12_isFair_44 : decode cX12_isFair 44 = .ok (.iconst 1, 1) := by decide +kernel
theorem dX12_isFair_45 : decode cX12_isFair 45 = .ok (.goto 4, 3) := by decide +kernel
theorem dX12_isFair_48 : decode cX12_isFair 48 = .ok (.iconst 0, 1) := by decide +kernel
theorem dX12_isFair_49 : decode cX12_isFair 49 = .ok (.ireturn, 1) := by decide +kernel
def F_X12_isFair (w : Nat) (M : z_Mem) (a1 : Int32) : Option (Bool × z_Mem) :=
  if ((4095 : Int32) - a1) < 0 ∨ 8192 ≤ ((4095 : Int32) - a1).toNatClampNeg then none else
  if a1 < 0 ∨ 8192 ≤ a1.toNatClampNeg then none else
  if (M.1 145 a1.toNatClampNeg) < (M.1 145 ((4095 : Int32) - a1).toNatClampNeg) then
  some (false, M)
  else
  if ((4096 : Int32) + ((4095 : Int32) - a1)) < 0 ∨ 8192 ≤ ((4096 : Int32) + ((4095 : Int32) - a1)).toNatClampNeg then none else
  if ((4096 : Int32) + a1) < 0 ∨ 8192 ≤ ((4096 : Int32) + a1).toNatClampNeg then none else
  if (M.1 145 ((4096 : Int32) + a1).toNatClampNeg) < (M.1 145 ((4096 : Int32) + ((4095 : Int32) - a1)).toNatClampNeg) then
  some (false, M)
  else
  some (true, M)
set_option maxHeartbeats 4000000 in
theorem A_X12_isFair {w : Nat} {M : z_Mem} {a1 : Int32} {r : Bool} {M' : z_Mem} {Q : Option Value → z_Mem → Prop} (h : F_X12_isFair w M a1 = some (r, M')) (hq : Q (some (.int (z_tb r))) M') : z_Cl 0 mX12_isFair [.ref 139, .int a1] M Q := by
  refine g_in (ls := [some (.ref 139), some (.int a1), none]) rfl ?_
  unfold F_X12_isFair at h
  refine g_sipush (v := (4095 : Int32)) dX12_isFair_0 (by decide) ?_
  refine g_iload_n dX12_isFair_3 rfl rfl ?_
  refine g_isub dX12_isFair_4 ?_
  refine g_istore_n (ls' := [some (.ref 139), some (.int a1), some (.int ((4095 : Int32) - a1))]) dX12_isFair_5 rfl (Nat.le_of_ble_eq_true rfl) rfl ?_
  refine g_aload_n dX12_isFair_6 rfl rfl ?_
  refine g_get (a := 137) (v := .ref 147) dX12_isFair_7 f_12_44 sh_137 rfl rfl ?_
  refine g_iload_n dX12_isFair_10 rfl rfl ?_
  by_cases g1 : ((4095 : Int32) - a1) < 0 ∨ 8192 ≤ ((4095 : Int32) - a1).toNatClampNeg
  · rw [if_pos g1] at h; cases h
  replace h := z_iff g1 h
  refine g_iald (a := 145) dX12_isFair_11 sh_145 g1 ?_
  refine g_aload_n dX12_isFair_12 rfl rfl ?_
  refine g_get (a := 137) (v := .ref 147) dX12_isFair_13 f_12_44 sh_137 rfl rfl ?_
  refine g_iload_n dX12_isFair_16 rfl rfl ?_
  by_cases g2 : a1 < 0 ∨ 8192 ≤ a1.toNatClampNeg
  · rw [if_pos g2] at h; cases h
  replace h := z_iff g2 h
  refine g_iald (a := 145) dX12_isFair_17 sh_145 g2 ?_
  refine g_ic_gt (t := 48) dX12_isFair_18 (by decide) (fun c3 => ?_) (fun c3 => ?_)
  · replace h := z_ift c3 h
    refine g_iconst (v := (0 : Int32)) dX12_isFair_48 (by decide) ?_
    cases h
    exact g_iret dX12_isFair_49 rfl rfl hq
  · replace h := z_iff c3 h
    refine g_aload_n dX12_isFair_21 rfl rfl ?_
    refine g_get (a := 137) (v := .ref 147) dX12_isFair_22 f_12_44 sh_137 rfl rfl ?_
    refine g_sipush (v := (4096 : Int32)) dX12_isFair_25 (by decide) ?_
    refine g_iload_n dX12_isFair_28 rfl rfl ?_
    refine g_iadd dX12_isFair_29 ?_
    by_cases g4 : ((4096 : Int32) + ((4095 : Int32) - a1)) < 0 ∨ 8192 ≤ ((4096 : Int32) + ((4095 : Int32) - a1)).toNatClampNeg
    · rw [if_pos g4] at h; cases h
    replace h := z_iff g4 h
    refine g_iald (a := 145) dX12_isFair_30 sh_145 g4 ?_
    refine g_aload_n dX12_isFair_31 rfl rfl ?_
    refine g_get (a := 137) (v := .ref 147) dX12_isFair_32 f_12_44 sh_137 rfl rfl ?_
    refine g_sipush (v := (4096 : Int32)) dX12_isFair_35 (by decide) ?_
    refine g_iload_n dX12_isFair_38 rfl rfl ?_
    refine g_iadd dX12_isFair_39 ?_
    by_cases g5 : ((4096 : Int32) + a1) < 0 ∨ 8192 ≤ ((4096 : Int32) + a1).toNatClampNeg
    · rw [if_pos g5] at h; cases h
    replace h := z_iff g5 h
    refine g_iald (a := 145) dX12_isFair_40 sh_145 g5 ?_
    refine g_ic_gt (t := 48) dX12_isFair_41 (by decide) (fun c6 => ?_) (fun c6 => ?_)
    · replace h := z_ift c6 h
      refine g_iconst (v := (0 : Int32)) dX12_isFair_48 (by decide) ?_
      cases h
      exact g_iret dX12_isFair_49 rfl rfl hq
    · replace h := z_iff c6 h
      refine g_iconst (v := (1 : Int32)) dX12_isFair_44 (by decide) ?_
      refine g_goto (t := 49) dX12_isFair_45 (by decide) ?_
      cases h
      exact g_iret dX12_isFair_49 rfl rfl hq
theorem dX12_isTreaty_0 : decode cX12_isTreaty 0 = .ok (.iconst 0, 1) := by decide +kernel
theorem dX12_isTreaty_1 : decode cX12_isTreaty 1 = .ok (.istore_n 2, 1) := by decide +kernel
theorem dX12_isTreaty_2 : decode cX12_isTreaty 2 = .ok (.iload_n 2, 1) := by decide +kernel
theorem dX12_isTreaty_3 : decode cX12_isTreaty 3 = .ok (.bipush 12, 2) := by decide +kernel
theorem dX12_isTreaty_5 : decode cX12_isTreaty 5 = .ok (.if_icmp .ge 58, 3) := by decide +kernel
theorem dX12_isTreaty_8 : decode cX12_isTreaty 8 = .ok (.iload_n 1, 1) := by decide +kernel
theorem dX12_isTreaty_9 : decode cX12_isTreaty 9 = .ok (.iload_n 2, 1) := by decide +kernel
theorem dX12_isTreaty_10 : decode cX12_isTreaty 10 = .ok (.invokestatic 96, 3) := by decide +kernel
theorem dX12_isTreaty_13 : decode cX12_isTreaty 13 = .ok (.ifCond .eq 9, 3) := by decide +kernel
theorem dX12_isTreaty_16 : decode cX12_isTreaty 16 = .ok (.sipush 4096, 3) := by decide +kernel
theorem dX12_isTreaty_19 : decode cX12_isTreaty 19 = .ok (.goto 4, 3) := by decide +kernel
theorem dX12_isTreaty_22 : decode cX12_isTreaty 22 = .ok (.iconst 0, 1) := by decide +kernel
theorem dX12_isTreaty_23 : decode cX12_isTreaty 23 = .ok (.istore_n 3, 1) := by decide +kernel
theorem dX12_isTreaty_24 : decode cX12_isTreaty 24 = .ok (.aload_n 0, 1) := by decide +kernel
theorem dX12_isTreaty_25 : decode cX12_isTreaty 25 = .ok (.getfield 44, 3) := by decide +kernel
theorem dX12_isTreaty_28 : decode cX12_isTreaty 28 = .ok (.iload_n 3, 1) := by decide +kernel
theorem dX12_isTreaty_29 : decode cX12_isTreaty 29 = .ok (.iload_n 1, 1) := by decide +kernel
theorem dX12_isTreaty_30 : decode cX12_isTreaty 30 = .ok (.iconst 1, 1) := by decide +kernel
theorem dX12_isTreaty_31 : decode cX12_isTreaty 31 = .ok (.iload_n 2, 1) := by decide +kernel
theorem dX12_isTreaty_32 : decode cX12_isTreaty 32 = .ok (.ishl, 1) := by decide +kernel
theorem dX12_isTreaty_33 : decode cX12_isTreaty 33 = .ok (.ixor, 1) := by decide +kernel
theorem dX12_isTreaty_34 : decode cX12_isTreaty 34 = .ok (.iadd, 1) := by decide +kernel
theorem dX12_isTreaty_35 : decode cX12_isTreaty 35 = .ok (.iaload, 1) := by decide +kernel
theorem dX12_isTreaty_36 : decode cX12_isTreaty 36 = .ok (.aload_n 0, 1) := by decide +kernel
theorem dX12_isTreaty_37 : decode cX12_isTreaty 37 = .ok (.getfield 44, 3) := by decide +kernel
theorem dX12_isTreaty_40 : decode cX12_isTreaty 40 = .ok (.iload_n 3, 1) := by decide +kernel
theorem dX12_isTreaty_41 : decode cX12_isTreaty 41 = .ok (.iload_n 1, 1) := by decide +kernel
theorem dX12_isTreaty_42 : decode cX12_isTreaty 42 = .ok (.iadd, 1) := by decide +kernel
theorem dX12_isTreaty_43 : decode cX12_isTreaty 43 = .ok (.iaload, 1) := by decide +kernel
theorem dX12_isTreaty_44 : decode cX12_isTreaty 44 = .ok (.isub, 1) := by decide +kernel
theorem dX12_isTreaty_45 : decode cX12_isTreaty 45 = .ok (.aload_n 0, 1) := by decide +kernel
theorem dX12_isTreaty_46 : decode cX12_isTreaty 46 = .ok (.getfield 35, 3) := by decide +kernel
theorem dX12_isTreaty_49 : decode cX12_isTreaty 49 = .ok (.bipush 7, 2) := by decide +kernel
theorem dX12_isTreaty_51 : decode cX12_isTreaty 51 = .ok (.iaload, 1) := by decide +kernel
theorem dX12_isTreaty_52 : decode cX12_isTreaty 52 = .ok (.if_icmp .le 5, 3) := by decide +kernel
theorem dX12_isTreaty_55 : decode cX12_isTreaty 55 = .ok (.iconst 0, 1) := by decide +kernel
theorem dX12_isTreaty_56 : decode cX12_isTreaty 56 = .ok (.ireturn, 1) := by decide +kernel
theorem dX12_isTreaty_57 : decode cX12_isTreaty 57 = .ok (.iinc 2 1, 3) := by decide +kernel
theorem dX12_isTreaty_60 : decode cX12_isTreaty 60 = .ok (.goto (-58), 3) := by decide +kernel
theorem dX12_isTreaty_63 : decode cX12_isTreaty 63 = .ok (.iconst 1, 1) := by decide +kernel
theorem dX12_isTreaty_64 : decode cX12_isTreaty 64 = .ok (.ireturn, 1) := by decide +kernel
def L_X12_isTreaty (w : Nat) : Nat → z_Mem → Int32 → Int32 → Option (Bool × z_Mem)
  | 0, _, _, _ => none
  | c + 1, M, x1, x2 =>
    if (12 : Int32) ≤ x2 then
    some (true, M)
    else
    (F_X12_has w M x1 x2).bind fun q2 =>
    if q2.1 = true then
    if ((4096 : Int32) + (x1 ^^^ ((1 : Int32) <<< (x2 &&& 31)))) < 0 ∨ 8192 ≤ ((4096 : Int32) + (x1 ^^^ ((1 : Int32) <<< (x2 &&& 31)))).toNatClampNeg then none else
    if ((4096 : Int32) + x1) < 0 ∨ 8192 ≤ ((4096 : Int32) + x1).toNatClampNeg then none else
    if ((q2.2.1 145 ((4096 : Int32) + (x1 ^^^ ((1 : Int32) <<< (x2 &&& 31)))).toNatClampNeg) - (q2.2.1 145 ((4096 : Int32) + x1).toNatClampNeg)) ≤ (q2.2.1 142 7) then
    L_X12_isTreaty w c q2.2 x1 (x2 + (1 : Int32))
    else
    some (false, q2.2)
    else
    if ((0 : Int32) + (x1 ^^^ ((1 : Int32) <<< (x2 &&& 31)))) < 0 ∨ 8192 ≤ ((0 : Int32) + (x1 ^^^ ((1 : Int32) <<< (x2 &&& 31)))).toNatClampNeg then none else
    if ((0 : Int32) + x1) < 0 ∨ 8192 ≤ ((0 : Int32) + x1).toNatClampNeg then none else
    if ((q2.2.1 145 ((0 : Int32) + (x1 ^^^ ((1 : Int32) <<< (x2 &&& 31)))).toNatClampNeg) - (q2.2.1 145 ((0 : Int32) + x1).toNatClampNeg)) ≤ (q2.2.1 142 7) then
    L_X12_isTreaty w c q2.2 x1 (x2 + (1 : Int32))
    else
    some (false, q2.2)
set_option maxHeartbeats 4000000 in
theorem AL_X12_isTreaty {w : Nat} : ∀ (c : Nat), (∀ (M : z_Mem) (x1 : Int32) (x2 : Int32) (r : Bool) (M' : z_Mem) (Q : Option Value → z_Mem → Prop), L_X12_isTreaty w c M x1 x2 = some (r, M') → Q (some (.int (z_tb r))) M' → z_G none 1 mX12_isTreaty 2 [some (.ref 139), some (.int x1), some (.int x2), none] [] M Q) := by
  intro c
  induction c with
  | zero => exact (fun M x1 x2 r M' Q h hq => by rw [L_X12_isTreaty] at h; cases h)
  | succ c ih =>
    intro M x1 x2 r M' Q h hq
    rw [L_X12_isTreaty] at h
    refine g_iload_n dX12_isTreaty_2 rfl rfl ?_
    refine g_bipush (v := (12 : Int32)) dX12_isTreaty_3 (by decide) ?_
    refine g_ic_ge (t := 63) dX12_isTreaty_5 (by decide) (fun c1 => ?_) (fun c1 => ?_)
    · replace h := z_ift c1 h
      refine g_iconst (v := (1 : Int32)) dX12_isTreaty_63 (by decide) ?_
      cases h
      exact g_iret dX12_isTreaty_64 rfl rfl hq
    · replace h := z_iff c1 h
      refine g_iload_n dX12_isTreaty_8 rfl rfl ?_
      refine g_iload_n dX12_isTreaty_9 rfl rfl ?_
      obtain ⟨q2, e3, h⟩ := z_bd h
      refine g_callS (as := [.int x1, .int x2]) (rest := []) (c := mX12_has) (k1 := 0) dX12_isTreaty_10 rfl rfl rfl rfl rfl (Nat.le_of_ble_eq_true rfl) (Nat.le_of_ble_eq_true rfl) (by decide) ?_
      refine A_X12_has e3 ?_
      show z_G none 1 mX12_isTreaty 13 [some (.ref 139), some (.int x1), some (.int x2), none] [.int (z_tb q2.1)] q2.2 Q
      refine g_if_eq (t := 22) dX12_isTreaty_13 (by decide) (fun c4 => ?_) (fun c4 => ?_)
      · replace h := z_iff (z_tb0.mp c4) h
        refine g_iconst (v := (0 : Int32)) dX12_isTreaty_22 (by decide) ?_
        refine g_istore_n (ls' := [some (.ref 139), some (.int x1), some (.int x2), some (.int (0 : Int32))]) dX12_isTreaty_23 rfl (Nat.le_of_ble_eq_true rfl) rfl ?_
        refine g_aload_n dX12_isTreaty_24 rfl rfl ?_
        refine g_get (a := 137) (v := .ref 147) dX12_isTreaty_25 f_12_44 sh_137 rfl rfl ?_
        refine g_iload_n dX12_isTreaty_28 rfl rfl ?_
        refine g_iload_n dX12_isTreaty_29 rfl rfl ?_
        refine g_iconst (v := (1 : Int32)) dX12_isTreaty_30 (by decide) ?_
        refine g_iload_n dX12_isTreaty_31 rfl rfl ?_
        refine g_ishl dX12_isTreaty_32 ?_
        refine g_ixor dX12_isTreaty_33 ?_
        refine g_iadd dX12_isTreaty_34 ?_
        by_cases g5 : ((0 : Int32) + (x1 ^^^ ((1 : Int32) <<< (x2 &&& 31)))) < 0 ∨ 8192 ≤ ((0 : Int32) + (x1 ^^^ ((1 : Int32) <<< (x2 &&& 31)))).toNatClampNeg
        · rw [if_pos g5] at h; cases h
        replace h := z_iff g5 h
        refine g_iald (a := 145) dX12_isTreaty_35 sh_145 g5 ?_
        refine g_aload_n dX12_isTreaty_36 rfl rfl ?_
        refine g_get (a := 137) (v := .ref 147) dX12_isTreaty_37 f_12_44 sh_137 rfl rfl ?_
        refine g_iload_n dX12_isTreaty_40 rfl rfl ?_
        refine g_iload_n dX12_isTreaty_41 rfl rfl ?_
        refine g_iadd dX12_isTreaty_42 ?_
        by_cases g6 : ((0 : Int32) + x1) < 0 ∨ 8192 ≤ ((0 : Int32) + x1).toNatClampNeg
        · rw [if_pos g6] at h; cases h
        replace h := z_iff g6 h
        refine g_iald (a := 145) dX12_isTreaty_43 sh_145 g6 ?_
        refine g_isub dX12_isTreaty_44 ?_
        refine g_aload_n dX12_isTreaty_45 rfl rfl ?_
        refine g_get (a := 137) (v := .ref 144) dX12_isTreaty_46 f_12_35 sh_137 rfl rfl ?_
        refine g_bipush (v := (7 : Int32)) dX12_isTreaty_49 (by decide) ?_
        refine g_ialN (a := 142) (j := 7) (v := q2.2.1 142 7) dX12_isTreaty_51 sh_142 rfl (by decide) rfl ?_
        refine g_ic_le (t := 57) dX12_isTreaty_52 (by decide) (fun c7 => ?_) (fun c7 => ?_)
        · replace h := z_ift c7 h
          refine g_iinc (v := x2 + (1 : Int32)) (ls' := [some (.ref 139), some (.int x1), some (.int (x2 + (1 : Int32))), some (.int (0 : Int32))]) dX12_isTreaty_57 rfl rfl rfl ?_
          refine g_goto (t := 2) dX12_isTreaty_60 (by decide) ?_
          exact g_sub (z_sub_s (z_sub_s (z_sub_s (z_sub_n z_sub_nil)))) (ih _ _ _ _ _ _ h hq)
        · replace h := z_iff c7 h
          refine g_iconst (v := (0 : Int32)) dX12_isTreaty_55 (by decide) ?_
          cases h
          exact g_iret dX12_isTreaty_56 rfl rfl hq
      · replace h := z_ift (z_tbn.mp c4) h
        refine g_sipush (v := (4096 : Int32)) dX12_isTreaty_16 (by decide) ?_
        refine g_goto (t := 23) dX12_isTreaty_19 (by decide) ?_
        refine g_istore_n (ls' := [some (.ref 139), some (.int x1), some (.int x2), some (.int (4096 : Int32))]) dX12_isTreaty_23 rfl (Nat.le_of_ble_eq_true rfl) rfl ?_
        refine g_aload_n dX12_isTreaty_24 rfl rfl ?_
        refine g_get (a := 137) (v := .ref 147) dX12_isTreaty_25 f_12_44 sh_137 rfl rfl ?_
        refine g_iload_n dX12_isTreaty_28 rfl rfl ?_
        refine g_iload_n dX12_isTreaty_29 rfl rfl ?_
        refine g_iconst (v := (1 : Int32)) dX12_isTreaty_30 (by decide) ?_
        refine g_iload_n dX12_isTreaty_31 rfl rfl ?_
        refine g_ishl dX12_isTreaty_32 ?_
        refine g_ixor dX12_isTreaty_33 ?_
        refine g_iadd dX12_isTreaty_34 ?_
        by_cases g8 : ((4096 : Int32) + (x1 ^^^ ((1 : Int32) <<< (x2 &&& 31)))) < 0 ∨ 8192 ≤ ((4096 : Int32) + (x1 ^^^ ((1 : Int32) <<< (x2 &&& 31)))).toNatClampNeg
        · rw [if_pos g8] at h; cases h
        replace h := z_iff g8 h
        refine g_iald (a := 145) dX12_isTreaty_35 sh_145 g8 ?_
        refine g_aload_n dX12_isTreaty_36 rfl rfl ?_
        refine g_get (a := 137) (v := .ref 147) dX12_isTreaty_37 f_12_44 sh_137 rfl rfl ?_
        refine g_iload_n dX12_isTreaty_40 rfl rfl ?_
        refine g_iload_n dX12_isTreaty_41 rfl rfl ?_
        refine g_iadd dX12_isTreaty_42 ?_
        by_cases g9 : ((4096 : Int32) + x1) < 0 ∨ 8192 ≤ ((4096 : Int32) + x1).toNatClampNeg
        · rw [if_pos g9] at h; cases h
        replace h := z_iff g9 h
        refine g_iald (a := 145) dX12_isTreaty_43 sh_145 g9 ?_
        refine g_isub dX12_isTreaty_44 ?_
        refine g_aload_n dX12_isTreaty_45 rfl rfl ?_
        refine g_get (a := 137) (v := .ref 144) dX12_isTreaty_46 f_12_35 sh_137 rfl rfl ?_
        refine g_bipush (v := (7 : Int32)) dX12_isTreaty_49 (by decide) ?_
        refine g_ialN (a := 142) (j := 7) (v := q2.2.1 142 7) dX12_isTreaty_51 sh_142 rfl (by decide) rfl ?_
        refine g_ic_le (t := 57) dX12_isTreaty_52 (by decide) (fun c10 => ?_) (fun c10 => ?_)
        · replace h := z_ift c10 h
          refine g_iinc (v := x2 + (1 : Int32)) (ls' := [some (.ref 139), some (.int x1), some (.int (x2 + (1 : Int32))), some (.int (4096 : Int32))]) dX12_isTreaty_57 rfl rfl rfl ?_
          refine g_goto (t := 2) dX12_isTreaty_60 (by decide) ?_
          exact g_sub (z_sub_s (z_sub_s (z_sub_s (z_sub_n z_sub_nil)))) (ih _ _ _ _ _ _ h hq)
        · replace h := z_iff c10 h
          refine g_iconst (v := (0 : Int32)) dX12_isTreaty_55 (by decide) ?_
          cases h
          exact g_iret dX12_isTreaty_56 rfl rfl hq
def F_X12_isTreaty (w : Nat) (M : z_Mem) (a1 : Int32) : Option (Bool × z_Mem) :=
  L_X12_isTreaty w w M a1 (0 : Int32)
set_option maxHeartbeats 4000000 in
theorem A_X12_isTreaty {w : Nat} {M : z_Mem} {a1 : Int32} {r : Bool} {M' : z_Mem} {Q : Option Value → z_Mem → Prop} (h : F_X12_isTreaty w M a1 = some (r, M')) (hq : Q (some (.int (z_tb r))) M') : z_Cl 1 mX12_isTreaty [.ref 139, .int a1] M Q := by
  refine g_in (ls := [some (.ref 139), some (.int a1), none, none]) rfl ?_
  unfold F_X12_isTreaty at h
  refine g_iconst (v := (0 : Int32)) dX12_isTreaty_0 (by decide) ?_
  refine g_istore_n (ls' := [some (.ref 139), some (.int a1), some (.int (0 : Int32)), none]) dX12_isTreaty_1 rfl (Nat.le_of_ble_eq_true rfl) rfl ?_
  exact g_sub (z_sub_s (z_sub_s (z_sub_s (z_sub_n z_sub_nil)))) ((AL_X12_isTreaty (w := w) w) _ _ _ _ _ _ h hq)
theorem dX12_isSuch_0 : decode cX12_isSuch 0 = .ok (.iload_n 2, 1) := by decide +kernel
theorem dX12_isSuch_1 : decode cX12_isSuch 1 = .ok (.ifCond .ne 11, 3) := by decide +kernel
theorem dX12_isSuch_4 : decode cX12_isSuch 4 = .ok (.aload_n 0, 1) := by decide +kernel
theorem dX12_isSuch_5 : decode cX12_isSuch 5 = .ok (.iload_n 1, 1) := by decide +kernel
theorem dX12_isSuch_6 : decode cX12_isSuch 6 = .ok (.invokevirtual 434, 3) := by decide +kernel
theorem dX12_isSuch_9 : decode cX12_isSuch 9 = .ok (.goto 8, 3) := by decide +kernel
theorem dX12_isSuch_12 : decode cX12_isSuch 12 = .ok (.aload_n 0, 1) := by decide +kernel
theorem dX12_isSuch_13 : decode cX12_isSuch 13 = .ok (.iload_n 1, 1) := by decide +kernel
theorem dX12_isSuch_14 : decode cX12_isSuch 14 = .ok (.invokevirtual 437, 3) := by decide +kernel
theorem dX12_isSuch_17 : decode cX12_isSuch 17 = .ok (.ireturn, 1) := by decide +kernel
def F_X12_isSuch (w : Nat) (M : z_Mem) (a1 : Int32) (a2 : Int32) : Option (Bool × z_Mem) :=
  if a2 = (0 : Int32) then
  (F_X12_isFair w M a1).bind fun q4 =>
  some (q4.1, q4.2)
  else
  (F_X12_isTreaty w M a1).bind fun q2 =>
  some (q2.1, q2.2)
set_option maxHeartbeats 4000000 in
theorem A_X12_isSuch {w : Nat} {M : z_Mem} {a1 : Int32} {a2 : Int32} {r : Bool} {M' : z_Mem} {Q : Option Value → z_Mem → Prop} (h : F_X12_isSuch w M a1 a2 = some (r, M')) (hq : Q (some (.int (z_tb r))) M') : z_Cl 2 mX12_isSuch [.ref 139, .int a1, .int a2] M Q := by
  refine g_in (ls := [some (.ref 139), some (.int a1), some (.int a2)]) rfl ?_
  unfold F_X12_isSuch at h
  refine g_iload_n dX12_isSuch_0 rfl rfl ?_
  refine g_if_ne (t := 12) dX12_isSuch_1 (by decide) (fun c1 => ?_) (fun c1 => ?_)
  · replace h := z_iff c1 h
    refine g_aload_n dX12_isSuch_12 rfl rfl ?_
    refine g_iload_n dX12_isSuch_13 rfl rfl ?_
    obtain ⟨q2, e3, h⟩ := z_bd h
    refine g_callV (a := 137) (as := [.int a1]) (rest := []) (c := mX12_isTreaty) (k1 := 1) dX12_isSuch_14 rfl rfl rfl sh_137 rfl rfl (Nat.le_of_ble_eq_true rfl) (Nat.le_of_ble_eq_true rfl) (by decide) ?_
    refine A_X12_isTreaty e3 ?_
    show z_G none 2 mX12_isSuch 17 [some (.ref 139), some (.int a1), some (.int a2)] [.int (z_tb q2.1)] q2.2 Q
    cases h
    exact g_iret dX12_isSuch_17 rfl nb_tb hq
  · replace h := z_ift c1 h
    refine g_aload_n dX12_isSuch_4 rfl rfl ?_
    refine g_iload_n dX12_isSuch_5 rfl rfl ?_
    obtain ⟨q4, e5, h⟩ := z_bd h
    refine g_callV (a := 137) (as := [.int a1]) (rest := []) (c := mX12_isFair) (k1 := 0) dX12_isSuch_6 rfl rfl rfl sh_137 rfl rfl (Nat.le_of_ble_eq_true rfl) (Nat.le_of_ble_eq_true rfl) (by decide) ?_
    refine A_X12_isFair e5 ?_
    show z_G none 2 mX12_isSuch 9 [some (.ref 139), some (.int a1), some (.int a2)] [.int (z_tb q4.1)] q4.2 Q
    refine g_goto (t := 17) dX12_isSuch_9 (by decide) ?_
    cases h
    exact g_iret dX12_isSuch_17 rfl nb_tb hq
theorem dX12_isSo_0 : decode cX12_isSo 0 = .ok (.aload_n 0, 1) := by decide +kernel
theorem dX12_isSo_1 : decode cX12_isSo 1 = .ok (.iconst 0, 1) := by decide +kernel
theorem dX12_isSo_2 : decode cX12_isSo 2 = .ok (.putfield 57, 3) := by decide +kernel
theorem dX12_isSo_5 : decode cX12_isSo 5 = .ok (.aload_n 0, 1) := by decide +kernel
theorem dX12_isSo_6 : decode cX12_isSo 6 = .ok (.iconst 0, 1) := by decide +kernel
theorem dX12_isSo_7 : decode cX12_isSo 7 = .ok (.putfield 60, 3) := by decide +kernel
theorem dX12_isSo_10 : decode cX12_isSo 10 = .ok (.iload_n 1, 1) := by decide +kernel
theorem dX12_isSo_11 : decode cX12_isSo 11 = .ok (.invokestatic 402, 3) := by decide +kernel
theorem dX12_isSo_14 : decode cX12_isSo 14 = .ok (.ifCond .eq 13, 3) := by decide +kernel
theorem dX12_isSo_17 : decode cX12_isSo 17 = .ok (.iload_n 2, 1) := by decide +kernel
theorem dX12_isSo_18 : decode cX12_isSo 18 = .ok (.i2l, 1) := by decide +kernel
theorem dX12_isSo_19 : decode cX12_isSo 19 = .ok (.lconst 0, 1) := by decide +kernel
theorem dX12_isSo_20 : decode cX12_isSo 20 = .ok (.lconst 1, 1) := by decide +kernel
theorem dX12_isSo_21 : decode cX12_isSo 21 = .ok (.invokestatic 92, 3) := by decide +kernel
theorem dX12_isSo_24 : decode cX12_isSo 24 = .ok (.ifCond .ne 9, 3) := by decide +kernel
theorem dX12_isSo_27 : decode cX12_isSo 27 = .ok (.aload_n 0, 1) := by decide +kernel
theorem dX12_isSo_28 : decode cX12_isSo 28 = .ok (.iconst 5, 1) := by decide +kernel
theorem dX12_isSo_29 : decode cX12_isSo 29 = .ok (.invokevirtual 333, 3) := by decide +kernel
theorem dX12_isSo_32 : decode cX12_isSo 32 = .ok (.ireturn, 1) := by decide +kernel
theorem dX12_isSo_33 : decode cX12_isSo 33 = .ok (.aload_n 0, 1) := by decide +kernel
theorem dX12_isSo_34 : decode cX12_isSo 34 = .ok (.iconst (-1), 1) := by decide +kernel
theorem dX12_isSo_35 : decode cX12_isSo 35 = .ok (.invokevirtual 431, 3) := by decide +kernel
theorem dX12_isSo_38 : decode cX12_isSo 38 = .ok (.aload_n 0, 1) := by decide +kernel
theorem dX12_isSo_39 : decode cX12_isSo 39 = .ok (.iload_n 1, 1) := by decide +kernel
theorem dX12_isSo_40 : decode cX12_isSo 40 = .ok (.iload_n 2, 1) := by decide +kernel
theorem dX12_isSo_41 : decode cX12_isSo 41 = .ok (.invokevirtual 440, 3) := by decide +kernel
theorem dX12_isSo_44 : decode cX12_isSo 44 = .ok (.ifCond .eq 7, 3) := by decide +kernel
theorem dX12_isSo_47 : decode cX12_isSo 47 = .ok (.iconst 1, 1) := by decide +kernel
theorem dX12_isSo_48 : decode cX12_isSo 48 = .ok (.goto 4, 3) := by decide +kernel
theorem dX12_isSo_51 : decode cX12_isSo 51 = .ok (.iconst 0, 1) := by decide +kernel
theorem dX12_isSo_52 : decode cX12_isSo 52 = .ok (.ireturn, 1) := by decide +kernel
def F_X12_isSo (w : Nat) (M : z_Mem) (a1 : Int32) (a2 : Int32) : Option (Int32 × z_Mem) :=
  (F_X12_isPlan w (z_wI (z_wI M 137 1 (0 : Int32)) 137 0 (0 : Int32)) a1).bind fun q1 =>
  if q1.1 = true then
  (F_X12_isIn w q1.2 a2.toInt64 (0 : Int64) (1 : Int64)).bind fun q6 =>
  if q6.1 = true then
  (F_X12_laysPlans w q6.2 (-1 : Int32)).bind fun q9 =>
  (F_X12_isSuch w q9.2 a1 a2).bind fun q11 =>
  if q11.1 = true then
  some ((1 : Int32), q11.2)
  else
  some ((0 : Int32), q11.2)
  else
  (F_X12_refuse w q6.2 (5 : Int32)).bind fun q14 =>
  some (q14.1, q14.2)
  else
  (F_X12_refuse w q1.2 (5 : Int32)).bind fun q4 =>
  some (q4.1, q4.2)
set_option maxHeartbeats 4000000 in
theorem A_X12_isSo {w : Nat} {M : z_Mem} {a1 : Int32} {a2 : Int32} {r : Int32} {M' : z_Mem} {Q : Option Value → z_Mem → Prop} (h : F_X12_isSo w M a1 a2 = some (r, M')) (hq : Q (some (.int r)) M') : z_Cl 4 mX12_isSo [.ref 139, .int a1, .int a2] M Q := by
  refine g_in (ls := [some (.ref 139), some (.int a1), some (.int a2)]) rfl ?_
  unfold F_X12_isSo at h
  refine g_aload_n dX12_isSo_0 rfl rfl ?_
  refine g_iconst (v := (0 : Int32)) dX12_isSo_1 (by decide) ?_
  refine g_putI (a := 137) dX12_isSo_2 f_12_57 sh_137 rfl rfl rfl ?_
  refine g_aload_n dX12_isSo_5 rfl rfl ?_
  refine g_iconst (v := (0 : Int32)) dX12_isSo_6 (by decide) ?_
  refine g_putI (a := 137) dX12_isSo_7 f_12_60 sh_137 rfl rfl rfl ?_
  refine g_iload_n dX12_isSo_10 rfl rfl ?_
  obtain ⟨q1, e2, h⟩ := z_bd h
  refine g_callS (as := [.int a1]) (rest := []) (c := mX12_isPlan) (k1 := 1) dX12_isSo_11 rfl rfl rfl rfl rfl (Nat.le_of_ble_eq_true rfl) (Nat.le_of_ble_eq_true rfl) (by decide) ?_
  refine A_X12_isPlan e2 ?_
  show z_G none 4 mX12_isSo 14 [some (.ref 139), some (.int a1), some (.int a2)] [.int (z_tb q1.1)] q1.2 Q
  refine g_if_eq (t := 27) dX12_isSo_14 (by decide) (fun c3 => ?_) (fun c3 => ?_)
  · replace h := z_iff (z_tb0.mp c3) h
    refine g_aload_n dX12_isSo_27 rfl rfl ?_
    refine g_iconst (v := (5 : Int32)) dX12_isSo_28 (by decide) ?_
    obtain ⟨q4, e5, h⟩ := z_bd h
    refine g_callV (a := 137) (as := [.int (5 : Int32)]) (rest := []) (c := mX12_refuse) (k1 := 0) dX12_isSo_29 rfl rfl rfl sh_137 rfl rfl (Nat.le_of_ble_eq_true rfl) (Nat.le_of_ble_eq_true rfl) (by decide) ?_
    refine A_X12_refuse e5 ?_
    show z_G none 4 mX12_isSo 32 [some (.ref 139), some (.int a1), some (.int a2)] [.int q4.1] q4.2 Q
    cases h
    exact g_iret dX12_isSo_32 rfl rfl hq
  · replace h := z_ift (z_tbn.mp c3) h
    refine g_iload_n dX12_isSo_17 rfl rfl ?_
    refine g_i2l dX12_isSo_18 ?_
    refine g_lconst (v := (0 : Int64)) dX12_isSo_19 (by decide) ?_
    refine g_lconst (v := (1 : Int64)) dX12_isSo_20 (by decide) ?_
    obtain ⟨q6, e7, h⟩ := z_bd h
    refine g_callS (as := [.long a2.toInt64, .long (0 : Int64), .long (1 : Int64)]) (rest := []) (c := mX12_isIn) (k1 := 0) dX12_isSo_21 rfl rfl rfl rfl rfl (Nat.le_of_ble_eq_true rfl) (Nat.le_of_ble_eq_true rfl) (by decide) ?_
    refine A_X12_isIn e7 ?_
    show z_G none 4 mX12_isSo 24 [some (.ref 139), some (.int a1), some (.int a2)] [.int (z_tb q6.1)] q6.2 Q
    refine g_if_ne (t := 33) dX12_isSo_24 (by decide) (fun c8 => ?_) (fun c8 => ?_)
    · replace h := z_ift (z_tbn.mp c8) h
      refine g_aload_n dX12_isSo_33 rfl rfl ?_
      refine g_iconst (v := (-1 : Int32)) dX12_isSo_34 (by decide) ?_
      obtain ⟨q9, e10, h⟩ := z_bd h
      refine g_callV (a := 137) (as := [.int (-1 : Int32)]) (rest := []) (c := mX12_laysPlans) (k1 := 3) dX12_isSo_35 rfl rfl rfl sh_137 rfl rfl (Nat.le_of_ble_eq_true rfl) (Nat.le_of_ble_eq_true rfl) (by decide) ?_
      refine A_X12_laysPlans e10 ?_
      show z_G none 4 mX12_isSo 38 [some (.ref 139), some (.int a1), some (.int a2)] [] q9.2 Q
      refine g_aload_n dX12_isSo_38 rfl rfl ?_
      refine g_iload_n dX12_isSo_39 rfl rfl ?_
      refine g_iload_n dX12_isSo_40 rfl rfl ?_
      obtain ⟨q11, e12, h⟩ := z_bd h
      refine g_callV (a := 137) (as := [.int a1, .int a2]) (rest := []) (c := mX12_isSuch) (k1 := 2) dX12_isSo_41 rfl rfl rfl sh_137 rfl rfl (Nat.le_of_ble_eq_true rfl) (Nat.le_of_ble_eq_true rfl) (by decide) ?_
      refine A_X12_isSuch e12 ?_
      show z_G none 4 mX12_isSo 44 [some (.ref 139), some (.int a1), some (.int a2)] [.int (z_tb q11.1)] q11.2 Q
      refine g_if_eq (t := 51) dX12_isSo_44 (by decide) (fun c13 => ?_) (fun c13 => ?_)
      · replace h := z_iff (z_tb0.mp c13) h
        refine g_iconst (v := (0 : Int32)) dX12_isSo_51 (by decide) ?_
        cases h
        exact g_iret dX12_isSo_52 rfl rfl hq
      · replace h := z_ift (z_tbn.mp c13) h
        refine g_iconst (v := (1 : Int32)) dX12_isSo_47 (by decide) ?_
        refine g_goto (t := 52) dX12_isSo_48 (by decide) ?_
        cases h
        exact g_iret dX12_isSo_52 rfl rfl hq
    · replace h := z_iff (z_tb0.mp c8) h
      refine g_aload_n dX12_isSo_27 rfl rfl ?_
      refine g_iconst (v := (5 : Int32)) dX12_isSo_28 (by decide) ?_
      obtain ⟨q14, e15, h⟩ := z_bd h
      refine g_callV (a := 137) (as := [.int (5 : Int32)]) (rest := []) (c := mX12_refuse) (k1 := 0) dX12_isSo_29 rfl rfl rfl sh_137 rfl rfl (Nat.le_of_ble_eq_true rfl) (Nat.le_of_ble_eq_true rfl) (by decide) ?_
      refine A_X12_refuse e15 ?_
      show z_G none 4 mX12_isSo 32 [some (.ref 139), some (.int a1), some (.int a2)] [.int q14.1] q14.2 Q
      cases h
      exact g_iret dX12_isSo_32 rfl rfl hq
theorem dX12_howMany_0 : decode cX12_howMany 0 = .ok (.aload_n 0, 1) := by decide +kernel
theorem dX12_howMany_1 : decode cX12_howMany 1 = .ok (.iconst 0, 1) := by decide +kernel
theorem dX12_howMany_2 : decode cX12_howMany 2 = .ok (.putfield 57, 3) := by decide +kernel
theorem dX12_howMany_5 : decode cX12_howMany 5 = .ok (.aload_n 0, 1) := by decide +kernel
theorem dX12_howMany_6 : decode cX12_howMany 6 = .ok (.iconst 0, 1) := by decide +kernel
theorem dX12_howMany_7 : decode cX12_howMany 7 = .ok (.putfield 60, 3) := by decide +kernel
theorem dX12_howMany_10 : decode cX12_howMany 10 = .ok (.iload_n 1, 1) := by decide +kernel
theorem dX12_howMany_11 : decode cX12_howMany 11 = .ok (.i2l, 1) := by decide +kernel
theorem dX12_howMany_12 : decode cX12_howMany 12 = .ok (.lconst 0, 1) := by decide +kernel
theorem dX12_howMany_13 : decode cX12_howMany 13 = .ok (.lconst 1, 1) := by decide +kernel
theorem dX12_howMany_14 : decode cX12_howMany 14 = .ok (.invokestatic 92, 3) := by decide +kernel
theorem dX12_howMany_17 : decode cX12_howMany 17 = .ok (.ifCond .ne 9, 3) := by decide +kernel
theorem dX12_howMany_20 : decode cX12_howMany 20 = .ok (.aload_n 0, 1) := by decide +kernel
theorem dX12_howMany_21 : decode cX12_howMany 21 = .ok (.iconst 5, 1) := by decide +kernel
theorem dX12_howMany_22 : decode cX12_howMany 22 = .ok (.invokevirtual 333, 3) := by decide +kernel
theorem dX12_howMany_25 : decode cX12_howMany 25 = .ok (.ireturn, 1) := by decide +kernel
theorem dX12_howMany_26 : decode cX12_howMany 26 = .ok (.iconst 0, 1) := by decide +kernel
theorem dX12_howMany_27 : decode cX12_howMany 27 = .ok (.istore_n 2, 1) := by decide +kernel
theorem dX12_howMany_28 : decode cX12_howMany 28 = .ok (.aload_n 0, 1) := by decide +kernel
theorem dX12_howMany_29 : decode cX12_howMany 29 = .ok (.iconst (-1), 1) := by decide +kernel
theorem dX12_howMany_30 : decode cX12_howMany 30 = .ok (.invokevirtual 431, 3) := by decide +kernel
theorem dX12_howMany_33 : decode cX12_howMany 33 = .ok (.iconst 0, 1) := by decide +kernel
theorem dX12_howMany_34 : decode cX12_howMany 34 = .ok (.istore_n 3, 1) := by decide +kernel
theorem dX12_howMany_35 : decode cX12_howMany 35 = .ok (.iload_n 3, 1) := by decide +kernel
theorem dX12_howMany_36 : decode cX12_howMany 36 = .ok (.sipush 4096, 3) := by decide +kernel
theorem dX12_howMany_39 : decode cX12_howMany 39 = .ok (.if_icmp .ge 26, 3) := by decide +kernel
theorem dX12_howMany_42 : decode cX12_howMany 42 = .ok (.iload_n 2, 1) := by decide +kernel
theorem dX12_howMany_43 : decode cX12_howMany 43 = .ok (.aload_n 0, 1) := by decide +kernel
theorem dX12_howMany_44 : decode cX12_howMany 44 = .ok (.iload_n 3, 1) := by decide +kernel
theorem dX12_howMany_45 : decode cX12_howMany 45 = .ok (.iload_n 1, 1) := by decide +kernel
theorem dX12_howMany_46 : decode cX12_howMany 46 = .ok (.invokevirtual 440, 3) := by decide +kernel
theorem dX12_howMany_49 : decode cX12_howMany 49 = .ok (.ifCond .eq 7, 3) := by decide +kernel
theorem dX12_howMany_52 : decode cX12_howMany 52 = .ok (.iconst 1, 1) := by decide +kernel
theorem dX12_howMany_53 : decode cX12_howMany 53 = .ok (.goto 4, 3) := by decide +kernel
theorem dX12_howMany_56 : decode cX12_howMany 56 = .ok (.iconst 0, 1) := by decide +kernel
theorem dX12_howMany_57 : decode cX12_howMany 57 = .ok (.iadd, 1) := by decide +kernel
theorem dX12_howMany_58 : decode cX12_howMany 58 = .ok (.istore_n 2, 1) := by decide +kernel
theorem dX12_howMany_59 : decode cX12_howMany 59 = .ok (.iinc 3 1, 3) := by decide +kernel
theorem dX12_howMany_62 : decode cX12_howMany 62 = .ok (.goto (-27), 3) := by decide +kernel
theorem dX12_howMany_65 : decode cX12_howMany 65 = .ok (.iload_n 2, 1) := by decide +kernel
theorem dX12_howMany_66 : decode cX12_howMany 66 = .ok (.ireturn, 1) := by decide +kernel
def L_X12_howMany (w : Nat) : Nat → z_Mem → Int32 → Int32 → Int32 → Option (Int32 × z_Mem)
  | 0, _, _, _, _ => none
  | c + 1, M, x1, x2, x3 =>
    if (4096 : Int32) ≤ x3 then
    some (x2, M)
    else
    (F_X12_isSuch w M x3 x1).bind fun q2 =>
    if q2.1 = true then
    L_X12_howMany w c q2.2 x1 (x2 + (1 : Int32)) (x3 + (1 : Int32))
    else
    L_X12_howMany w c q2.2 x1 (x2 + (0 : Int32)) (x3 + (1 : Int32))
set_option maxHeartbeats 4000000 in
theorem AL_X12_howMany {w : Nat} : ∀ (c : Nat), (∀ (M : z_Mem) (x1 : Int32) (x2 : Int32) (x3 : Int32) (r : Int32) (M' : z_Mem) (Q : Option Value → z_Mem → Prop), L_X12_howMany w c M x1 x2 x3 = some (r, M') → Q (some (.int r)) M' → z_G none 4 mX12_howMany 35 [some (.ref 139), some (.int x1), some (.int x2), some (.int x3)] [] M Q) := by
  intro c
  induction c with
  | zero => exact (fun M x1 x2 x3 r M' Q h hq => by rw [L_X12_howMany] at h; cases h)
  | succ c ih =>
    intro M x1 x2 x3 r M' Q h hq
    rw [L_X12_howMany] at h
    refine g_iload_n dX12_howMany_35 rfl rfl ?_
    refine g_sipush (v := (4096 : Int32)) dX12_howMany_36 (by decide) ?_
    refine g_ic_ge (t := 65) dX12_howMany_39 (by decide) (fun c1 => ?_) (fun c1 => ?_)
    · replace h := z_ift c1 h
      refine g_iload_n dX12_howMany_65 rfl rfl ?_
      cases h
      exact g_iret dX12_howMany_66 rfl rfl hq
    · replace h := z_iff c1 h
      refine g_iload_n dX12_howMany_42 rfl rfl ?_
      refine g_aload_n dX12_howMany_43 rfl rfl ?_
      refine g_iload_n dX12_howMany_44 rfl rfl ?_
      refine g_iload_n dX12_howMany_45 rfl rfl ?_
      obtain ⟨q2, e3, h⟩ := z_bd h
      refine g_callV (a := 137) (as := [.int x3, .int x1]) (rest := [.int x2]) (c := mX12_isSuch) (k1 := 2) dX12_howMany_46 rfl rfl rfl sh_137 rfl rfl (Nat.le_of_ble_eq_true rfl) (Nat.le_of_ble_eq_true rfl) (by decide) ?_
      refine A_X12_isSuch e3 ?_
      show z_G none 4 mX12_howMany 49 [some (.ref 139), some (.int x1), some (.int x2), some (.int x3)] [.int (z_tb q2.1), .int x2] q2.2 Q
      refine g_if_eq (t := 56) dX12_howMany_49 (by decide) (fun c4 => ?_) (fun c4 => ?_)
      · replace h := z_iff (z_tb0.mp c4) h
        refine g_iconst (v := (0 : Int32)) dX12_howMany_56 (by decide) ?_
        refine g_iadd dX12_howMany_57 ?_
        refine g_istore_n (ls' := [some (.ref 139), some (.int x1), some (.int (x2 + (0 : Int32))), some (.int x3)]) dX12_howMany_58 rfl (Nat.le_of_ble_eq_true rfl) rfl ?_
        refine g_iinc (v := x3 + (1 : Int32)) (ls' := [some (.ref 139), some (.int x1), some (.int (x2 + (0 : Int32))), some (.int (x3 + (1 : Int32)))]) dX12_howMany_59 rfl rfl rfl ?_
        refine g_goto (t := 35) dX12_howMany_62 (by decide) ?_
        exact g_sub (z_sub_s (z_sub_s (z_sub_s (z_sub_s z_sub_nil)))) (ih _ _ _ _ _ _ _ h hq)
      · replace h := z_ift (z_tbn.mp c4) h
        refine g_iconst (v := (1 : Int32)) dX12_howMany_52 (by decide) ?_
        refine g_goto (t := 57) dX12_howMany_53 (by decide) ?_
        refine g_iadd dX12_howMany_57 ?_
        refine g_istore_n (ls' := [some (.ref 139), some (.int x1), some (.int (x2 + (1 : Int32))), some (.int x3)]) dX12_howMany_58 rfl (Nat.le_of_ble_eq_true rfl) rfl ?_
        refine g_iinc (v := x3 + (1 : Int32)) (ls' := [some (.ref 139), some (.int x1), some (.int (x2 + (1 : Int32))), some (.int (x3 + (1 : Int32)))]) dX12_howMany_59 rfl rfl rfl ?_
        refine g_goto (t := 35) dX12_howMany_62 (by decide) ?_
        exact g_sub (z_sub_s (z_sub_s (z_sub_s (z_sub_s z_sub_nil)))) (ih _ _ _ _ _ _ _ h hq)
def F_X12_howMany (w : Nat) (M : z_Mem) (a1 : Int32) : Option (Int32 × z_Mem) :=
  (F_X12_isIn w (z_wI (z_wI M 137 1 (0 : Int32)) 137 0 (0 : Int32)) a1.toInt64 (0 : Int64) (1 : Int64)).bind fun q5 =>
  if q5.1 = true then
  (F_X12_laysPlans w q5.2 (-1 : Int32)).bind fun q8 =>
  L_X12_howMany w w q8.2 a1 (0 : Int32) (0 : Int32)
  else
  (F_X12_refuse w q5.2 (5 : Int32)).bind fun q10 =>
  some (q10.1, q10.2)
set_option maxHeartbeats 4000000 in
theorem A_X12_howMany {w : Nat} {M : z_Mem} {a1 : Int32} {r : Int32} {M' : z_Mem} {Q : Option Value → z_Mem → Prop} (h : F_X12_howMany w M a1 = some (r, M')) (hq : Q (some (.int r)) M') : z_Cl 4 mX12_howMany [.ref 139, .int a1] M Q := by
  refine g_in (ls := [some (.ref 139), some (.int a1), none, none]) rfl ?_
  unfold F_X12_howMany at h
  refine g_aload_n dX12_howMany_0 rfl rfl ?_
  refine g_iconst (v := (0 : Int32)) dX12_howMany_1 (by decide) ?_
  refine g_putI (a := 137) dX12_howMany_2 f_12_57 sh_137 rfl rfl rfl ?_
  refine g_aload_n dX12_howMany_5 rfl rfl ?_
  refine g_iconst (v := (0 : Int32)) dX12_howMany_6 (by decide) ?_
  refine g_putI (a := 137) dX12_howMany_7 f_12_60 sh_137 rfl rfl rfl ?_
  refine g_iload_n dX12_howMany_10 rfl rfl ?_
  refine g_i2l dX12_howMany_11 ?_
  refine g_lconst (v := (0 : Int64)) dX12_howMany_12 (by decide) ?_
  refine g_lconst (v := (1 : Int64)) dX12_howMany_13 (by decide) ?_
  obtain ⟨q5, e6, h⟩ := z_bd h
  refine g_callS (as := [.long a1.toInt64, .long (0 : Int64), .long (1 : Int64)]) (rest := []) (c := mX12_isIn) (k1 := 0) dX12_howMany_14 rfl rfl rfl rfl rfl (Nat.le_of_ble_eq_true rfl) (Nat.le_of_ble_eq_true rfl) (by decide) ?_
  refine A_X12_isIn e6 ?_
  show z_G none 4 mX12_howMany 17 [some (.ref 139), some (.int a1), none, none] [.int (z_tb q5.1)] q5.2 Q
  refine g_if_ne (t := 26) dX12_howMany_17 (by decide) (fun c7 => ?_) (fun c7 => ?_)
  · replace h := z_ift (z_tbn.mp c7) h
    refine g_iconst (v := (0 : Int32)) dX12_howMany_26 (by decide) ?_
    refine g_istore_n (ls' := [some (.ref 139), some (.int a1), some (.int (0 : Int32)), none]) dX12_howMany_27 rfl (Nat.le_of_ble_eq_true rfl) rfl ?_
    refine g_aload_n dX12_howMany_28 rfl rfl ?_
    refine g_iconst (v := (-1 : Int32)) dX12_howMany_29 (by decide) ?_
    obtain ⟨q8, e9, h⟩ := z_bd h
    refine g_callV (a := 137) (as := [.int (-1 : Int32)]) (rest := []) (c := mX12_laysPlans) (k1 := 3) dX12_howMany_30 rfl rfl rfl sh_137 rfl rfl (Nat.le_of_ble_eq_true rfl) (Nat.le_of_ble_eq_true rfl) (by decide) ?_
    refine A_X12_laysPlans e9 ?_
    show z_G none 4 mX12_howMany 33 [some (.ref 139), some (.int a1), some (.int (0 : Int32)), none] [] q8.2 Q
    refine g_iconst (v := (0 : Int32)) dX12_howMany_33 (by decide) ?_
    refine g_istore_n (ls' := [some (.ref 139), some (.int a1), some (.int (0 : Int32)), some (.int (0 : Int32))]) dX12_howMany_34 rfl (Nat.le_of_ble_eq_true rfl) rfl ?_
    exact g_sub (z_sub_s (z_sub_s (z_sub_s (z_sub_s z_sub_nil)))) ((AL_X12_howMany (w := w) w) _ _ _ _ _ _ _ h hq)
  · replace h := z_iff (z_tb0.mp c7) h
    refine g_aload_n dX12_howMany_20 rfl rfl ?_
    refine g_iconst (v := (5 : Int32)) dX12_howMany_21 (by decide) ?_
    obtain ⟨q10, e11, h⟩ := z_bd h
    refine g_callV (a := 137) (as := [.int (5 : Int32)]) (rest := []) (c := mX12_refuse) (k1 := 0) dX12_howMany_22 rfl rfl rfl sh_137 rfl rfl (Nat.le_of_ble_eq_true rfl) (Nat.le_of_ble_eq_true rfl) (by decide) ?_
    refine A_X12_refuse e11 ?_
    show z_G none 4 mX12_howMany 25 [some (.ref 139), some (.int a1), none, none] [.int q10.1] q10.2 Q
    cases h
    exact g_iret dX12_howMany_25 rfl rfl hq
theorem dX12_bestOf_0 : decode cX12_bestOf 0 = .ok (.aload_n 0, 1) := by decide +kernel
theorem dX12_bestOf_1 : decode cX12_bestOf 1 = .ok (.iconst 0, 1) := by decide +kernel
theorem dX12_bestOf_2 : decode cX12_bestOf 2 = .ok (.putfield 57, 3) := by decide +kernel
theorem dX12_bestOf_5 : decode cX12_bestOf 5 = .ok (.aload_n 0, 1) := by decide +kernel
theorem dX12_bestOf_6 : decode cX12_bestOf 6 = .ok (.iconst 0, 1) := by decide +kernel
theorem dX12_bestOf_7 : decode cX12_bestOf 7 = .ok (.putfield 60, 3) := by decide +kernel
theorem dX12_bestOf_10 : decode cX12_bestOf 10 = .ok (.iload_n 1, 1) := by decide +kernel
theorem dX12_bestOf_11 : decode cX12_bestOf 11 = .ok (.i2l, 1) := by decide +kernel
theorem dX12_bestOf_12 : decode cX12_bestOf 12 = .ok (.lconst 0, 1) := by decide +kernel
theorem dX12_bestOf_13 : decode cX12_bestOf 13 = .ok (.lconst 1, 1) := by decide +kernel
theorem dX12_bestOf_14 : decode cX12_bestOf 14 = .ok (.invokestatic 92, 3) := by decide +kernel
theorem dX12_bestOf_17 : decode cX12_bestOf 17 = .ok (.ifCond .ne 9, 3) := by decide +kernel
theorem dX12_bestOf_20 : decode cX12_bestOf 20 = .ok (.aload_n 0, 1) := by decide +kernel
theorem dX12_bestOf_21 : decode cX12_bestOf 21 = .ok (.iconst 5, 1) := by decide +kernel
theorem dX12_bestOf_22 : decode cX12_bestOf 22 = .ok (.invokevirtual 333, 3) := by decide +kernel
theorem dX12_bestOf_25 : decode cX12_bestOf 25 = .ok (.ireturn, 1) := by decide +kernel
theorem dX12_bestOf_26 : decode cX12_bestOf 26 = .ok (.aload_n 0, 1) := by decide +kernel
theorem dX12_bestOf_27 : decode cX12_bestOf 27 = .ok (.iconst (-1), 1) := by decide +kernel
theorem dX12_bestOf_28 : decode cX12_bestOf 28 = .ok (.invokevirtual 431, 3) := by decide +kernel
theorem dX12_bestOf_31 : decode cX12_bestOf 31 = .ok (.iconst (-1), 1) := by decide +kernel
theorem dX12_bestOf_32 : decode cX12_bestOf 32 = .ok (.istore_n 2, 1) := by decide +kernel
theorem dX12_bestOf_33 : decode cX12_bestOf 33 = .ok (.iconst 0, 1) := by decide +kernel
theorem dX12_bestOf_34 : decode cX12_bestOf 34 = .ok (.istore_n 3, 1) := by decide +kernel
theorem dX12_bestOf_35 : decode cX12_bestOf 35 = .ok (.iload_n 3, 1) := by decide +kernel
theorem dX12_bestOf_36 : decode cX12_bestOf 36 = .ok (.sipush 4096, 3) := by decide +kernel
theorem dX12_bestOf_39 : decode cX12_bestOf 39 = .ok (.if_icmp .ge 39, 3) := by decide +kernel
theorem dX12_bestOf_42 : decode cX12_bestOf 42 = .ok (.aload_n 0, 1) := by decide +kernel
theorem dX12_bestOf_43 : decode cX12_bestOf 43 = .ok (.iload_n 3, 1) := by decide +kernel
theorem dX12_bestOf_44 : decode cX12_bestOf 44 = .ok (.iload_n 1, 1) := by decide +kernel
theorem dX12_bestOf_45 : decode cX12_bestOf 45 = .ok (.invokevirtual 440, 3) := by decide +kernel
theorem dX12_bestOf_48 : decode cX12_bestOf 48 = .ok (.ifCond .eq 24, 3) := by decide +kernel
theorem dX12_bestOf_51 : decode cX12_bestOf 51 = .ok (.iload_n 2, 1) := by decide +kernel
theorem dX12_bestOf_52 : decode cX12_bestOf 52 = .ok (.ifCond .lt 18, 3) := by decide +kernel
theorem dX12_bestOf_55 : decode cX12_bestOf 55 = .ok (.aload_n 0, 1) := by decide +kernel
theorem dX12_bestOf_56 : decode cX12_bestOf 56 = .ok (.getfield 47, 3) := by decide +kernel
theorem dX12_bestOf_59 : decode cX12_bestOf 59 = .ok (.iload_n 3, 1) := by decide +kernel
theorem dX12_bestOf_60 : decode cX12_bestOf 60 = .ok (.iaload, 1) := by decide +kernel
theorem dX12_bestOf_61 : decode cX12_bestOf 61 = .ok (.aload_n 0, 1) := by decide +kernel
theorem dX12_bestOf_62 : decode cX12_bestOf 62 = .ok (.getfield 47, 3) := by decide +kernel
theorem dX12_bestOf_65 : decode cX12_bestOf 65 = .ok (.iload_n 2, 1) := by decide +kernel
theorem dX12_bestOf_66 : decode cX12_bestOf 66 = .ok (.iaload, 1) := by decide +kernel
theorem dX12_bestOf_67 : decode cX12_bestOf 67 = .ok (.if_icmp .le 5, 3) := by decide +kernel
theorem dX12_bestOf_70 : decode cX12_bestOf 70 = .ok (.iload_n 3, 1) := by decide +kernel
theorem dX12_bestOf_71 : decode cX12_bestOf 71 = .ok (.istore_n 2, 1) := by decide +kernel
theorem dX12_bestOf_72 : decode cX12_bestOf 72 = .ok (.iinc 3 1, 3) := by decide +kernel
theorem dX12_bestOf_75 : decode cX12_bestOf 75 = .ok (.goto (-40), 3) := by decide +kernel
theorem dX12_bestOf_78 : decode cX12_bestOf 78 = .ok (.iload_n 2, 1) := by decide +kernel
theorem dX12_bestOf_79 : decode cX12_bestOf 79 = .ok (.ifCond .ge 12, 3) := by decide +kernel
theorem dX12_bestOf_82 : decode cX12_bestOf 82 = .ok (.aload_n 0, 1) := by decide +kernel
theorem dX12_bestOf_83 : decode cX12_bestOf 83 = .ok (.bipush 8, 2) := by decide +kernel
theorem dX12_bestOf_85 : decode cX12_bestOf 85 = .ok (.invokevirtual 333, 3) := by decide +kernel
theorem dX12_bestOf_88 : decode cX12_bestOf 88 = .ok (.goto 4, 3) := by decide +kernel
theorem dX12_bestOf_91 : decode cX12_bestOf 91 = .ok (.iload_n 2, 1) := by decide +kernel
theorem dX12_bestOf_92 : decode cX12_bestOf 92 = .ok (.ireturn, 1) := by decide +kernel
def L_X12_bestOf (w : Nat) : Nat → z_Mem → Int32 → Int32 → Int32 → Option (Int32 × z_Mem)
  | 0, _, _, _, _ => none
  | c + 1, M, x1, x2, x3 =>
    if (4096 : Int32) ≤ x3 then
    if (0 : Int32) ≤ x2 then
    some (x2, M)
    else
    (F_X12_refuse w M (8 : Int32)).bind fun q3 =>
    some (q3.1, q3.2)
    else
    (F_X12_isSuch w M x3 x1).bind fun q5 =>
    if q5.1 = true then
    if x2 < (0 : Int32) then
    L_X12_bestOf w c q5.2 x1 x3 (x3 + (1 : Int32))
    else
    if x3 < 0 ∨ 4096 ≤ x3.toNatClampNeg then none else
    if x2 < 0 ∨ 4096 ≤ x2.toNatClampNeg then none else
    if (q5.2.1 146 x3.toNatClampNeg) ≤ (q5.2.1 146 x2.toNatClampNeg) then
    L_X12_bestOf w c q5.2 x1 x2 (x3 + (1 : Int32))
    else
    L_X12_bestOf w c q5.2 x1 x3 (x3 + (1 : Int32))
    else
    L_X12_bestOf w c q5.2 x1 x2 (x3 + (1 : Int32))
set_option maxHeartbeats 4000000 in
theorem AL_X12_bestOf {w : Nat} : ∀ (c : Nat), (∀ (M : z_Mem) (x1 : Int32) (x2 : Int32) (x3 : Int32) (r : Int32) (M' : z_Mem) (Q : Option Value → z_Mem → Prop), L_X12_bestOf w c M x1 x2 x3 = some (r, M') → Q (some (.int r)) M' → z_G none 4 mX12_bestOf 35 [some (.ref 139), some (.int x1), some (.int x2), some (.int x3)] [] M Q) := by
  intro c
  induction c with
  | zero => exact (fun M x1 x2 x3 r M' Q h hq => by rw [L_X12_bestOf] at h; cases h)
  | succ c ih =>
    intro M x1 x2 x3 r M' Q h hq
    rw [L_X12_bestOf] at h
    refine g_iload_n dX12_bestOf_35 rfl rfl ?_
    refine g_sipush (v := (4096 : Int32)) dX12_bestOf_36 (by decide) ?_
    refine g_ic_ge (t := 78) dX12_bestOf_39 (by decide) (fun c1 => ?_) (fun c1 => ?_)
    · replace h := z_ift c1 h
      refine g_iload_n dX12_bestOf_78 rfl rfl ?_
      refine g_if_ge (t := 91) dX12_bestOf_79 (by decide) (fun c2 => ?_) (fun c2 => ?_)
      · replace h := z_ift c2 h
        refine g_iload_n dX12_bestOf_91 rfl rfl ?_
        cases h
        exact g_iret dX12_bestOf_92 rfl rfl hq
      · replace h := z_iff c2 h
        refine g_aload_n dX12_bestOf_82 rfl rfl ?_
        refine g_bipush (v := (8 : Int32)) dX12_bestOf_83 (by decide) ?_
        obtain ⟨q3, e4, h⟩ := z_bd h
        refine g_callV (a := 137) (as := [.int (8 : Int32)]) (rest := []) (c := mX12_refuse) (k1 := 0) dX12_bestOf_85 rfl rfl rfl sh_137 rfl rfl (Nat.le_of_ble_eq_true rfl) (Nat.le_of_ble_eq_true rfl) (by decide) ?_
        refine A_X12_refuse e4 ?_
        show z_G none 4 mX12_bestOf 88 [some (.ref 139), some (.int x1), some (.int x2), some (.int x3)] [.int q3.1] q3.2 Q
        refine g_goto (t := 92) dX12_bestOf_88 (by decide) ?_
        cases h
        exact g_iret dX12_bestOf_92 rfl rfl hq
    · replace h := z_iff c1 h
      refine g_aload_n dX12_bestOf_42 rfl rfl ?_
      refine g_iload_n dX12_bestOf_43 rfl rfl ?_
      refine g_iload_n dX12_bestOf_44 rfl rfl ?_
      obtain ⟨q5, e6, h⟩ := z_bd h
      refine g_callV (a := 137) (as := [.int x3, .int x1]) (rest := []) (c := mX12_isSuch) (k1 := 2) dX12_bestOf_45 rfl rfl rfl sh_137 rfl rfl (Nat.le_of_ble_eq_true rfl) (Nat.le_of_ble_eq_true rfl) (by decide) ?_
      refine A_X12_isSuch e6 ?_
      show z_G none 4 mX12_bestOf 48 [some (.ref 139), some (.int x1), some (.int x2), some (.int x3)] [.int (z_tb q5.1)] q5.2 Q
      refine g_if_eq (t := 72) dX12_bestOf_48 (by decide) (fun c7 => ?_) (fun c7 => ?_)
      · replace h := z_iff (z_tb0.mp c7) h
        refine g_iinc (v := x3 + (1 : Int32)) (ls' := [some (.ref 139), some (.int x1), some (.int x2), some (.int (x3 + (1 : Int32)))]) dX12_bestOf_72 rfl rfl rfl ?_
        refine g_goto (t := 35) dX12_bestOf_75 (by decide) ?_
        exact g_sub (z_sub_s (z_sub_s (z_sub_s (z_sub_s z_sub_nil)))) (ih _ _ _ _ _ _ _ h hq)
      · replace h := z_ift (z_tbn.mp c7) h
        refine g_iload_n dX12_bestOf_51 rfl rfl ?_
        refine g_if_lt (t := 70) dX12_bestOf_52 (by decide) (fun c8 => ?_) (fun c8 => ?_)
        · replace h := z_ift c8 h
          refine g_iload_n dX12_bestOf_70 rfl rfl ?_
          refine g_istore_n (ls' := [some (.ref 139), some (.int x1), some (.int x3), some (.int x3)]) dX12_bestOf_71 rfl (Nat.le_of_ble_eq_true rfl) rfl ?_
          refine g_iinc (v := x3 + (1 : Int32)) (ls' := [some (.ref 139), some (.int x1), some (.int x3), some (.int (x3 + (1 : Int32)))]) dX12_bestOf_72 rfl rfl rfl ?_
          refine g_goto (t := 35) dX12_bestOf_75 (by decide) ?_
          exact g_sub (z_sub_s (z_sub_s (z_sub_s (z_sub_s z_sub_nil)))) (ih _ _ _ _ _ _ _ h hq)
        · replace h := z_iff c8 h
          refine g_aload_n dX12_bestOf_55 rfl rfl ?_
          refine g_get (a := 137) (v := .ref 148) dX12_bestOf_56 f_12_47 sh_137 rfl rfl ?_
          refine g_iload_n dX12_bestOf_59 rfl rfl ?_
          by_cases g9 : x3 < 0 ∨ 4096 ≤ x3.toNatClampNeg
          · rw [if_pos g9] at h; cases h
          replace h := z_iff g9 h
          refine g_iald (a := 146) dX12_bestOf_60 sh_146 g9 ?_
          refine g_aload_n dX12_bestOf_61 rfl rfl ?_
          refine g_get (a := 137) (v := .ref 148) dX12_bestOf_62 f_12_47 sh_137 rfl rfl ?_
          refine g_iload_n dX12_bestOf_65 rfl rfl ?_
          by_cases g10 : x2 < 0 ∨ 4096 ≤ x2.toNatClampNeg
          · rw [if_pos g10] at h; cases h
          replace h := z_iff g10 h
          refine g_iald (a := 146) dX12_bestOf_66 sh_146 g10 ?_
          refine g_ic_le (t := 72) dX12_bestOf_67 (by decide) (fun c11 => ?_) (fun c11 => ?_)
          · replace h := z_ift c11 h
            refine g_iinc (v := x3 + (1 : Int32)) (ls' := [some (.ref 139), some (.int x1), some (.int x2), some (.int (x3 + (1 : Int32)))]) dX12_bestOf_72 rfl rfl rfl ?_
            refine g_goto (t := 35) dX12_bestOf_75 (by decide) ?_
            exact g_sub (z_sub_s (z_sub_s (z_sub_s (z_sub_s z_sub_nil)))) (ih _ _ _ _ _ _ _ h hq)
          · replace h := z_iff c11 h
            refine g_iload_n dX12_bestOf_70 rfl rfl ?_
            refine g_istore_n (ls' := [some (.ref 139), some (.int x1), some (.int x3), some (.int x3)]) dX12_bestOf_71 rfl (Nat.le_of_ble_eq_true rfl) rfl ?_
            refine g_iinc (v := x3 + (1 : Int32)) (ls' := [some (.ref 139), some (.int x1), some (.int x3), some (.int (x3 + (1 : Int32)))]) dX12_bestOf_72 rfl rfl rfl ?_
            refine g_goto (t := 35) dX12_bestOf_75 (by decide) ?_
            exact g_sub (z_sub_s (z_sub_s (z_sub_s (z_sub_s z_sub_nil)))) (ih _ _ _ _ _ _ _ h hq)
def F_X12_bestOf (w : Nat) (M : z_Mem) (a1 : Int32) : Option (Int32 × z_Mem) :=
  (F_X12_isIn w (z_wI (z_wI M 137 1 (0 : Int32)) 137 0 (0 : Int32)) a1.toInt64 (0 : Int64) (1 : Int64)).bind fun q12 =>
  if q12.1 = true then
  (F_X12_laysPlans w q12.2 (-1 : Int32)).bind fun q15 =>
  L_X12_bestOf w w q15.2 a1 (-1 : Int32) (0 : Int32)
  else
  (F_X12_refuse w q12.2 (5 : Int32)).bind fun q17 =>
  some (q17.1, q17.2)
set_option maxHeartbeats 4000000 in
theorem A_X12_bestOf {w : Nat} {M : z_Mem} {a1 : Int32} {r : Int32} {M' : z_Mem} {Q : Option Value → z_Mem → Prop} (h : F_X12_bestOf w M a1 = some (r, M')) (hq : Q (some (.int r)) M') : z_Cl 4 mX12_bestOf [.ref 139, .int a1] M Q := by
  refine g_in (ls := [some (.ref 139), some (.int a1), none, none]) rfl ?_
  unfold F_X12_bestOf at h
  refine g_aload_n dX12_bestOf_0 rfl rfl ?_
  refine g_iconst (v := (0 : Int32)) dX12_bestOf_1 (by decide) ?_
  refine g_putI (a := 137) dX12_bestOf_2 f_12_57 sh_137 rfl rfl rfl ?_
  refine g_aload_n dX12_bestOf_5 rfl rfl ?_
  refine g_iconst (v := (0 : Int32)) dX12_bestOf_6 (by decide) ?_
  refine g_putI (a := 137) dX12_bestOf_7 f_12_60 sh_137 rfl rfl rfl ?_
  refine g_iload_n dX12_bestOf_10 rfl rfl ?_
  refine g_i2l dX12_bestOf_11 ?_
  refine g_lconst (v := (0 : Int64)) dX12_bestOf_12 (by decide) ?_
  refine g_lconst (v := (1 : Int64)) dX12_bestOf_13 (by decide) ?_
  obtain ⟨q12, e13, h⟩ := z_bd h
  refine g_callS (as := [.long a1.toInt64, .long (0 : Int64), .long (1 : Int64)]) (rest := []) (c := mX12_isIn) (k1 := 0) dX12_bestOf_14 rfl rfl rfl rfl rfl (Nat.le_of_ble_eq_true rfl) (Nat.le_of_ble_eq_true rfl) (by decide) ?_
  refine A_X12_isIn e13 ?_
  show z_G none 4 mX12_bestOf 17 [some (.ref 139), some (.int a1), none, none] [.int (z_tb q12.1)] q12.2 Q
  refine g_if_ne (t := 26) dX12_bestOf_17 (by decide) (fun c14 => ?_) (fun c14 => ?_)
  · replace h := z_ift (z_tbn.mp c14) h
    refine g_aload_n dX12_bestOf_26 rfl rfl ?_
    refine g_iconst (v := (-1 : Int32)) dX12_bestOf_27 (by decide) ?_
    obtain ⟨q15, e16, h⟩ := z_bd h
    refine g_callV (a := 137) (as := [.int (-1 : Int32)]) (rest := []) (c := mX12_laysPlans) (k1 := 3) dX12_bestOf_28 rfl rfl rfl sh_137 rfl rfl (Nat.le_of_ble_eq_true rfl) (Nat.le_of_ble_eq_true rfl) (by decide) ?_
    refine A_X12_laysPlans e16 ?_
    show z_G none 4 mX12_bestOf 31 [some (.ref 139), some (.int a1), none, none] [] q15.2 Q
    refine g_iconst (v := (-1 : Int32)) dX12_bestOf_31 (by decide) ?_
    refine g_istore_n (ls' := [some (.ref 139), some (.int a1), some (.int (-1 : Int32)), none]) dX12_bestOf_32 rfl (Nat.le_of_ble_eq_true rfl) rfl ?_
    refine g_iconst (v := (0 : Int32)) dX12_bestOf_33 (by decide) ?_
    refine g_istore_n (ls' := [some (.ref 139), some (.int a1), some (.int (-1 : Int32)), some (.int (0 : Int32))]) dX12_bestOf_34 rfl (Nat.le_of_ble_eq_true rfl) rfl ?_
    exact g_sub (z_sub_s (z_sub_s (z_sub_s (z_sub_s z_sub_nil)))) ((AL_X12_bestOf (w := w) w) _ _ _ _ _ _ _ h hq)
  · replace h := z_iff (z_tb0.mp c14) h
    refine g_aload_n dX12_bestOf_20 rfl rfl ?_
    refine g_iconst (v := (5 : Int32)) dX12_bestOf_21 (by decide) ?_
    obtain ⟨q17, e18, h⟩ := z_bd h
    refine g_callV (a := 137) (as := [.int (5 : Int32)]) (rest := []) (c := mX12_refuse) (k1 := 0) dX12_bestOf_22 rfl rfl rfl sh_137 rfl rfl (Nat.le_of_ble_eq_true rfl) (Nat.le_of_ble_eq_true rfl) (by decide) ?_
    refine A_X12_refuse e18 ?_
    show z_G none 4 mX12_bestOf 25 [some (.ref 139), some (.int a1), none, none] [.int q17.1] q17.2 Q
    cases h
    exact g_iret dX12_bestOf_25 rfl rfl hq
theorem dX12_lesser_0 : decode cX12_lesser 0 = .ok (.aload_n 0, 1) := by decide +kernel
theorem dX12_lesser_1 : decode cX12_lesser 1 = .ok (.getfield 44, 3) := by decide +kernel
theorem dX12_lesser_4 : decode cX12_lesser 4 = .ok (.iload_n 1, 1) := by decide +kernel
theorem dX12_lesser_5 : decode cX12_lesser 5 = .ok (.iaload, 1) := by decide +kernel
theorem dX12_lesser_6 : decode cX12_lesser 6 = .ok (.aload_n 0, 1) := by decide +kernel
theorem dX12_lesser_7 : decode cX12_lesser 7 = .ok (.getfield 44, 3) := by decide +kernel
theorem dX12_lesser_10 : decode cX12_lesser 10 = .ok (.sipush 4096, 3) := by decide +kernel
theorem dX12_lesser_13 : decode cX12_lesser 13 = .ok (.iload_n 1, 1) := by decide +kernel
theorem dX12_lesser_14 : decode cX12_lesser 14 = .ok (.iadd, 1) := by decide +kernel
theorem dX12_lesser_15 : decode cX12_lesser 15 = .ok (.iaload, 1) := by decide +kernel
theorem dX12_lesser_16 : decode cX12_lesser 16 = .ok (.invokestatic 367, 3) := by decide +kernel
theorem dX12_lesser_19 : decode cX12_lesser 19 = .ok (.ireturn, 1) := by decide +kernel
def F_X12_lesser (w : Nat) (M : z_Mem) (a1 : Int32) : Option (Int32 × z_Mem) :=
  if a1 < 0 ∨ 8192 ≤ a1.toNatClampNeg then none else
  if ((4096 : Int32) + a1) < 0 ∨ 8192 ≤ ((4096 : Int32) + a1).toNatClampNeg then none else
  some (if (M.1 145 ((4096 : Int32) + a1).toNatClampNeg) < (M.1 145 a1.toNatClampNeg) then M.1 145 ((4096 : Int32) + a1).toNatClampNeg else M.1 145 a1.toNatClampNeg, M)
set_option maxHeartbeats 4000000 in
theorem A_X12_lesser {w : Nat} {M : z_Mem} {a1 : Int32} {r : Int32} {M' : z_Mem} {Q : Option Value → z_Mem → Prop} (h : F_X12_lesser w M a1 = some (r, M')) (hq : Q (some (.int r)) M') : z_Cl 0 mX12_lesser [.ref 139, .int a1] M Q := by
  refine g_in (ls := [some (.ref 139), some (.int a1)]) rfl ?_
  unfold F_X12_lesser at h
  refine g_aload_n dX12_lesser_0 rfl rfl ?_
  refine g_get (a := 137) (v := .ref 147) dX12_lesser_1 f_12_44 sh_137 rfl rfl ?_
  refine g_iload_n dX12_lesser_4 rfl rfl ?_
  by_cases g1 : a1 < 0 ∨ 8192 ≤ a1.toNatClampNeg
  · rw [if_pos g1] at h; cases h
  replace h := z_iff g1 h
  refine g_iald (a := 145) dX12_lesser_5 sh_145 g1 ?_
  refine g_aload_n dX12_lesser_6 rfl rfl ?_
  refine g_get (a := 137) (v := .ref 147) dX12_lesser_7 f_12_44 sh_137 rfl rfl ?_
  refine g_sipush (v := (4096 : Int32)) dX12_lesser_10 (by decide) ?_
  refine g_iload_n dX12_lesser_13 rfl rfl ?_
  refine g_iadd dX12_lesser_14 ?_
  by_cases g2 : ((4096 : Int32) + a1) < 0 ∨ 8192 ≤ ((4096 : Int32) + a1).toNatClampNeg
  · rw [if_pos g2] at h; cases h
  replace h := z_iff g2 h
  refine g_iald (a := 145) dX12_lesser_15 sh_145 g2 ?_
  refine g_min dX12_lesser_16 rfl (Nat.le_of_ble_eq_true rfl) ?_
  cases h
  exact g_iret dX12_lesser_19 rfl rfl hq
theorem dX12_even_0 : decode cX12_even 0 = .ok (.aload_n 0, 1) := by decide +kernel
theorem dX12_even_1 : decode cX12_even 1 = .ok (.iconst 0, 1) := by decide +kernel
theorem dX12_even_2 : decode cX12_even 2 = .ok (.putfield 57, 3) := by decide +kernel
theorem dX12_even_5 : decode cX12_even 5 = .ok (.aload_n 0, 1) := by decide +kernel
theorem dX12_even_6 : decode cX12_even 6 = .ok (.iconst 0, 1) := by decide +kernel
theorem dX12_even_7 : decode cX12_even 7 = .ok (.putfield 60, 3) := by decide +kernel
theorem dX12_even_10 : decode cX12_even 10 = .ok (.aload_n 0, 1) := by decide +kernel
theorem dX12_even_11 : decode cX12_even 11 = .ok (.iconst (-1), 1) := by decide +kernel
theorem dX12_even_12 : decode cX12_even 12 = .ok (.invokevirtual 431, 3) := by decide +kernel
theorem dX12_even_15 : decode cX12_even 15 = .ok (.iconst 0, 1) := by decide +kernel
theorem dX12_even_16 : decode cX12_even 16 = .ok (.istore_n 1, 1) := by decide +kernel
theorem dX12_even_17 : decode cX12_even 17 = .ok (.iconst 1, 1) := by decide +kernel
theorem dX12_even_18 : decode cX12_even 18 = .ok (.istore_n 2, 1) := by decide +kernel
theorem dX12_even_19 : decode cX12_even 19 = .ok (.iload_n 2, 1) := by decide +kernel
theorem dX12_even_20 : decode cX12_even 20 = .ok (.sipush 4096, 3) := by decide +kernel
theorem dX12_even_23 : decode cX12_even 23 = .ok (.if_icmp .ge 24, 3) := by decide +kernel
theorem dX12_even_26 : decode cX12_even 26 = .ok (.aload_n 0, 1) := by decide +kernel
theorem dX12_even_27 : decode cX12_even 27 = .ok (.iload_n 2, 1) := by decide +kernel
theorem dX12_even_28 : decode cX12_even 28 = .ok (.invokevirtual 443, 3) := by decide +kernel
theorem dX12_even_31 : decode cX12_even 31 = .ok (.aload_n 0, 1) := by decide +kernel
theorem dX12_even_32 : decode cX12_even 32 = .ok (.iload_n 1, 1) := by decide +kernel
theorem dX12_even_33 : decode cX12_even 33 = .ok (.invokevirtual 443, 3) := by decide +kernel
theorem dX12_even_36 : decode cX12_even 36 = .ok (.if_icmp .le 5, 3) := by decide +kernel
theorem dX12_even_39 : decode cX12_even 39 = .ok (.iload_n 2, 1) := by decide +kernel
theorem dX12_even_40 : decode cX12_even 40 = .ok (.istore_n 1, 1) := by decide +kernel
theorem dX12_even_41 : decode cX12_even 41 = .ok (.iinc 2 1, 3) := by decide +kernel
theorem dX12_even_44 : decode cX12_even 44 = .ok (.goto (-25), 3) := by decide +kernel
theorem dX12_even_47 : decode cX12_even 47 = .ok (.iload_n 1, 1) := by decide +kernel
theorem dX12_even_48 : decode cX12_even 48 = .ok (.ireturn, 1) := by decide +kernel
def L_X12_even (w : Nat) : Nat → z_Mem → Int32 → Int32 → Option (Int32 × z_Mem)
  | 0, _, _, _ => none
  | c + 1, M, x1, x2 =>
    if (4096 : Int32) ≤ x2 then
    some (x1, M)
    else
    (F_X12_lesser w M x2).bind fun q2 =>
    (F_X12_lesser w q2.2 x1).bind fun q4 =>
    if q2.1 ≤ q4.1 then
    L_X12_even w c q4.2 x1 (x2 + (1 : Int32))
    else
    L_X12_even w c q4.2 x2 (x2 + (1 : Int32))
set_option maxHeartbeats 4000000 in
theorem AL_X12_even {w : Nat} : ∀ (c : Nat), (∀ (M : z_Mem) (x1 : Int32) (x2 : Int32) (r : Int32) (M' : z_Mem) (Q : Option Value → z_Mem → Prop), L_X12_even w c M x1 x2 = some (r, M') → Q (some (.int r)) M' → z_G none 4 mX12_even 19 [some (.ref 139), some (.int x1), some (.int x2)] [] M Q) := by
  intro c
  induction c with
  | zero => exact (fun M x1 x2 r M' Q h hq => by rw [L_X12_even] at h; cases h)
  | succ c ih =>
    intro M x1 x2 r M' Q h hq
    rw [L_X12_even] at h
    refine g_iload_n dX12_even_19 rfl rfl ?_
    refine g_sipush (v := (4096 : Int32)) dX12_even_20 (by decide) ?_
    refine g_ic_ge (t := 47) dX12_even_23 (by decide) (fun c1 => ?_) (fun c1 => ?_)
    · replace h := z_ift c1 h
      refine g_iload_n dX12_even_47 rfl rfl ?_
      cases h
      exact g_iret dX12_even_48 rfl rfl hq
    · replace h := z_iff c1 h
      refine g_aload_n dX12_even_26 rfl rfl ?_
      refine g_iload_n dX12_even_27 rfl rfl ?_
      obtain ⟨q2, e3, h⟩ := z_bd h
      refine g_callV (a := 137) (as := [.int x2]) (rest := []) (c := mX12_lesser) (k1 := 0) dX12_even_28 rfl rfl rfl sh_137 rfl rfl (Nat.le_of_ble_eq_true rfl) (Nat.le_of_ble_eq_true rfl) (by decide) ?_
      refine A_X12_lesser e3 ?_
      show z_G none 4 mX12_even 31 [some (.ref 139), some (.int x1), some (.int x2)] [.int q2.1] q2.2 Q
      refine g_aload_n dX12_even_31 rfl rfl ?_
      refine g_iload_n dX12_even_32 rfl rfl ?_
      obtain ⟨q4, e5, h⟩ := z_bd h
      refine g_callV (a := 137) (as := [.int x1]) (rest := [.int q2.1]) (c := mX12_lesser) (k1 := 0) dX12_even_33 rfl rfl rfl sh_137 rfl rfl (Nat.le_of_ble_eq_true rfl) (Nat.le_of_ble_eq_true rfl) (by decide) ?_
      refine A_X12_lesser e5 ?_
      show z_G none 4 mX12_even 36 [some (.ref 139), some (.int x1), some (.int x2)] [.int q4.1, .int q2.1] q4.2 Q
      refine g_ic_le (t := 41) dX12_even_36 (by decide) (fun c6 => ?_) (fun c6 => ?_)
      · replace h := z_ift c6 h
        refine g_iinc (v := x2 + (1 : Int32)) (ls' := [some (.ref 139), some (.int x1), some (.int (x2 + (1 : Int32)))]) dX12_even_41 rfl rfl rfl ?_
        refine g_goto (t := 19) dX12_even_44 (by decide) ?_
        exact g_sub (z_sub_s (z_sub_s (z_sub_s z_sub_nil))) (ih _ _ _ _ _ _ h hq)
      · replace h := z_iff c6 h
        refine g_iload_n dX12_even_39 rfl rfl ?_
        refine g_istore_n (ls' := [some (.ref 139), some (.int x2), some (.int x2)]) dX12_even_40 rfl (Nat.le_of_ble_eq_true rfl) rfl ?_
        refine g_iinc (v := x2 + (1 : Int32)) (ls' := [some (.ref 139), some (.int x2), some (.int (x2 + (1 : Int32)))]) dX12_even_41 rfl rfl rfl ?_
        refine g_goto (t := 19) dX12_even_44 (by decide) ?_
        exact g_sub (z_sub_s (z_sub_s (z_sub_s z_sub_nil))) (ih _ _ _ _ _ _ h hq)
def F_X12_even (w : Nat) (M : z_Mem) : Option (Int32 × z_Mem) :=
  (F_X12_laysPlans w (z_wI (z_wI M 137 1 (0 : Int32)) 137 0 (0 : Int32)) (-1 : Int32)).bind fun q7 =>
  L_X12_even w w q7.2 (0 : Int32) (1 : Int32)
set_option maxHeartbeats 4000000 in
theorem A_X12_even {w : Nat} {M : z_Mem} {r : Int32} {M' : z_Mem} {Q : Option Value → z_Mem → Prop} (h : F_X12_even w M = some (r, M')) (hq : Q (some (.int r)) M') : z_Cl 4 mX12_even [.ref 139] M Q := by
  refine g_in (ls := [some (.ref 139), none, none]) rfl ?_
  unfold F_X12_even at h
  refine g_aload_n dX12_even_0 rfl rfl ?_
  refine g_iconst (v := (0 : Int32)) dX12_even_1 (by decide) ?_
  refine g_putI (a := 137) dX12_even_2 f_12_57 sh_137 rfl rfl rfl ?_
  refine g_aload_n dX12_even_5 rfl rfl ?_
  refine g_iconst (v := (0 : Int32)) dX12_even_6 (by decide) ?_
  refine g_putI (a := 137) dX12_even_7 f_12_60 sh_137 rfl rfl rfl ?_
  refine g_aload_n dX12_even_10 rfl rfl ?_
  refine g_iconst (v := (-1 : Int32)) dX12_even_11 (by decide) ?_
  obtain ⟨q7, e8, h⟩ := z_bd h
  refine g_callV (a := 137) (as := [.int (-1 : Int32)]) (rest := []) (c := mX12_laysPlans) (k1 := 3) dX12_even_12 rfl rfl rfl sh_137 rfl rfl (Nat.le_of_ble_eq_true rfl) (Nat.le_of_ble_eq_true rfl) (by decide) ?_
  refine A_X12_laysPlans e8 ?_
  show z_G none 4 mX12_even 15 [some (.ref 139), none, none] [] q7.2 Q
  refine g_iconst (v := (0 : Int32)) dX12_even_15 (by decide) ?_
  refine g_istore_n (ls' := [some (.ref 139), some (.int (0 : Int32)), none]) dX12_even_16 rfl (Nat.le_of_ble_eq_true rfl) rfl ?_
  refine g_iconst (v := (1 : Int32)) dX12_even_17 (by decide) ?_
  refine g_istore_n (ls' := [some (.ref 139), some (.int (0 : Int32)), some (.int (1 : Int32))]) dX12_even_18 rfl (Nat.le_of_ble_eq_true rfl) rfl ?_
  exact g_sub (z_sub_s (z_sub_s (z_sub_s z_sub_nil))) ((AL_X12_even (w := w) w) _ _ _ _ _ _ h hq)
theorem dX12_greatestNet_0 : decode cX12_greatestNet 0 = .ok (.aload_n 0, 1) := by decide +kernel
theorem dX12_greatestNet_1 : decode cX12_greatestNet 1 = .ok (.iload_n 1, 1) := by decide +kernel
theorem dX12_greatestNet_2 : decode cX12_greatestNet 2 = .ok (.invokevirtual 431, 3) := by decide +kernel
theorem dX12_greatestNet_5 : decode cX12_greatestNet 5 = .ok (.aload_n 0, 1) := by decide +kernel
theorem dX12_greatestNet_6 : decode cX12_greatestNet 6 = .ok (.getfield 47, 3) := by decide +kernel
theorem dX12_greatestNet_9 : decode cX12_greatestNet 9 = .ok (.iconst 0, 1) := by decide +kernel
theorem dX12_greatestNet_10 : decode cX12_greatestNet 10 = .ok (.iaload, 1) := by decide +kernel
theorem dX12_greatestNet_11 : decode cX12_greatestNet 11 = .ok (.istore_n 2, 1) := by decide +kernel
theorem dX12_greatestNet_12 : decode cX12_greatestNet 12 = .ok (.iconst 1, 1) := by decide +kernel
theorem dX12_greatestNet_13 : decode cX12_greatestNet 13 = .ok (.istore_n 3, 1) := by decide +kernel
theorem dX12_greatestNet_14 : decode cX12_greatestNet 14 = .ok (.iload_n 3, 1) := by decide +kernel
theorem dX12_greatestNet_15 : decode cX12_greatestNet 15 = .ok (.sipush 4096, 3) := by decide +kernel
theorem dX12_greatestNet_18 : decode cX12_greatestNet 18 = .ok (.if_icmp .ge 20, 3) := by decide +kernel
theorem dX12_greatestNet_21 : decode cX12_greatestNet 21 = .ok (.iload_n 2, 1) := by decide +kernel
theorem dX12_greatestNet_22 : decode cX12_greatestNet 22 = .ok (.aload_n 0, 1) := by decide +kernel
theorem dX12_greatestNet_23 : decode cX12_greatestNet 23 = .ok (.getfield 47, 3) := by decide +kernel
theorem dX12_greatestNet_26 : decode cX12_greatestNet 26 = .ok (.iload_n 3, 1) := by decide +kernel
theorem dX12_greatestNet_27 : decode cX12_greatestNet 27 = .ok (.iaload, 1) := by decide +kernel
theorem dX12_greatestNet_28 : decode cX12_greatestNet 28 = .ok (.invokestatic 235, 3) := by decide +kernel
theorem dX12_greatestNet_31 : decode cX12_greatestNet 31 = .ok (.istore_n 2, 1) := by decide +kernel
theorem dX12_greatestNet_32 : decode cX12_greatestNet 32 = .ok (.iinc 3 1, 3) := by decide +kernel
theorem dX12_greatestNet_35 : decode cX12_greatestNet 35 = .ok (.goto (-21), 3) := by decide +kernel
theorem dX12_greatestNet_38 : decode cX12_greatestNet 38 = .ok (.iload_n 2, 1) := by decide +kernel
theorem dX12_greatestNet_39 : decode cX12_greatestNet 39 = .ok (.ireturn, 1) := by decide +kernel
def L_X12_greatestNet (w : Nat) : Nat → z_Mem → Int32 → Int32 → Option (Int32 × z_Mem)
  | 0, _, _, _ => none
  | c + 1, M, x2, x3 =>
    if (4096 : Int32) ≤ x3 then
    some (x2, M)
    else
    if x3 < 0 ∨ 4096 ≤ x3.toNatClampNeg then none else
    L_X12_greatestNet w c M (if x2 < (M.1 146 x3.toNatClampNeg) then M.1 146 x3.toNatClampNeg else x2) (x3 + (1 : Int32))
set_option maxHeartbeats 4000000 in
theorem AL_X12_greatestNet {w : Nat} : ∀ (c : Nat), (∀ (M : z_Mem) (x2 : Int32) (x3 : Int32) (r : Int32) (M' : z_Mem) (Q : Option Value → z_Mem → Prop), L_X12_greatestNet w c M x2 x3 = some (r, M') → Q (some (.int r)) M' → z_G none 4 mX12_greatestNet 14 [some (.ref 139), none, some (.int x2), some (.int x3)] [] M Q) := by
  intro c
  induction c with
  | zero => exact (fun M x2 x3 r M' Q h hq => by rw [L_X12_greatestNet] at h; cases h)
  | succ c ih =>
    intro M x2 x3 r M' Q h hq
    rw [L_X12_greatestNet] at h
    refine g_iload_n dX12_greatestNet_14 rfl rfl ?_
    refine g_sipush (v := (4096 : Int32)) dX12_greatestNet_15 (by decide) ?_
    refine g_ic_ge (t := 38) dX12_greatestNet_18 (by decide) (fun c1 => ?_) (fun c1 => ?_)
    · replace h := z_ift c1 h
      refine g_iload_n dX12_greatestNet_38 rfl rfl ?_
      cases h
      exact g_iret dX12_greatestNet_39 rfl rfl hq
    · replace h := z_iff c1 h
      refine g_iload_n dX12_greatestNet_21 rfl rfl ?_
      refine g_aload_n dX12_greatestNet_22 rfl rfl ?_
      refine g_get (a := 137) (v := .ref 148) dX12_greatestNet_23 f_12_47 sh_137 rfl rfl ?_
      refine g_iload_n dX12_greatestNet_26 rfl rfl ?_
      by_cases g2 : x3 < 0 ∨ 4096 ≤ x3.toNatClampNeg
      · rw [if_pos g2] at h; cases h
      replace h := z_iff g2 h
      refine g_iald (a := 146) dX12_greatestNet_27 sh_146 g2 ?_
      refine g_max dX12_greatestNet_28 rfl (Nat.le_of_ble_eq_true rfl) ?_
      refine g_istore_n (ls' := [some (.ref 139), none, some (.int (if x2 < (M.1 146 x3.toNatClampNeg) then M.1 146 x3.toNatClampNeg else x2)), some (.int x3)]) dX12_greatestNet_31 rfl (Nat.le_of_ble_eq_true rfl) rfl ?_
      refine g_iinc (v := x3 + (1 : Int32)) (ls' := [some (.ref 139), none, some (.int (if x2 < (M.1 146 x3.toNatClampNeg) then M.1 146 x3.toNatClampNeg else x2)), some (.int (x3 + (1 : Int32)))]) dX12_greatestNet_32 rfl rfl rfl ?_
      refine g_goto (t := 14) dX12_greatestNet_35 (by decide) ?_
      exact g_sub (z_sub_s (z_sub_n (z_sub_s (z_sub_s z_sub_nil)))) (ih _ _ _ _ _ _ h hq)
def F_X12_greatestNet (w : Nat) (M : z_Mem) (a1 : Int32) : Option (Int32 × z_Mem) :=
  (F_X12_laysPlans w M a1).bind fun q3 =>
  L_X12_greatestNet w w q3.2 (q3.2.1 146 0) (1 : Int32)
set_option maxHeartbeats 4000000 in
theorem A_X12_greatestNet {w : Nat} {M : z_Mem} {a1 : Int32} {r : Int32} {M' : z_Mem} {Q : Option Value → z_Mem → Prop} (h : F_X12_greatestNet w M a1 = some (r, M')) (hq : Q (some (.int r)) M') : z_Cl 4 mX12_greatestNet [.ref 139, .int a1] M Q := by
  refine g_in (ls := [some (.ref 139), some (.int a1), none, none]) rfl ?_
  unfold F_X12_greatestNet at h
  refine g_aload_n dX12_greatestNet_0 rfl rfl ?_
  refine g_iload_n dX12_greatestNet_1 rfl rfl ?_
  obtain ⟨q3, e4, h⟩ := z_bd h
  refine g_callV (a := 137) (as := [.int a1]) (rest := []) (c := mX12_laysPlans) (k1 := 3) dX12_greatestNet_2 rfl rfl rfl sh_137 rfl rfl (Nat.le_of_ble_eq_true rfl) (Nat.le_of_ble_eq_true rfl) (by decide) ?_
  refine A_X12_laysPlans e4 ?_
  show z_G none 4 mX12_greatestNet 5 [some (.ref 139), some (.int a1), none, none] [] q3.2 Q
  refine g_aload_n dX12_greatestNet_5 rfl rfl ?_
  refine g_get (a := 137) (v := .ref 148) dX12_greatestNet_6 f_12_47 sh_137 rfl rfl ?_
  refine g_iconst (v := (0 : Int32)) dX12_greatestNet_9 (by decide) ?_
  refine g_ialN (a := 146) (j := 0) (v := q3.2.1 146 0) dX12_greatestNet_10 sh_146 rfl (by decide) rfl ?_
  refine g_istore_n (ls' := [some (.ref 139), some (.int a1), some (.int (q3.2.1 146 0)), none]) dX12_greatestNet_11 rfl (Nat.le_of_ble_eq_true rfl) rfl ?_
  refine g_iconst (v := (1 : Int32)) dX12_greatestNet_12 (by decide) ?_
  refine g_istore_n (ls' := [some (.ref 139), some (.int a1), some (.int (q3.2.1 146 0)), some (.int (1 : Int32))]) dX12_greatestNet_13 rfl (Nat.le_of_ble_eq_true rfl) rfl ?_
  exact g_sub (z_sub_s (z_sub_n (z_sub_s (z_sub_s z_sub_nil)))) ((AL_X12_greatestNet (w := w) w) _ _ _ _ _ _ h hq)
theorem dX12_rent_0 : decode cX12_rent 0 = .ok (.aload_n 0, 1) := by decide +kernel
theorem dX12_rent_1 : decode cX12_rent 1 = .ok (.iconst 0, 1) := by decide +kernel
theorem dX12_rent_2 : decode cX12_rent 2 = .ok (.putfield 57, 3) := by decide +kernel
theorem dX12_rent_5 : decode cX12_rent 5 = .ok (.aload_n 0, 1) := by decide +kernel
theorem dX12_rent_6 : decode cX12_rent 6 = .ok (.iconst 0, 1) := by decide +kernel
theorem dX12_rent_7 : decode cX12_rent 7 = .ok (.putfield 60, 3) := by decide +kernel
theorem dX12_rent_10 : decode cX12_rent 10 = .ok (.iload_n 1, 1) := by decide +kernel
theorem dX12_rent_11 : decode cX12_rent 11 = .ok (.i2l, 1) := by decide +kernel
theorem dX12_rent_12 : decode cX12_rent 12 = .ok (.lconst 0, 1) := by decide +kernel
theorem dX12_rent_13 : decode cX12_rent 13 = .ok (.ldc2_w 260, 3) := by decide +kernel
theorem dX12_rent_16 : decode cX12_rent 16 = .ok (.invokestatic 92, 3) := by decide +kernel
theorem dX12_rent_19 : decode cX12_rent 19 = .ok (.ifCond .ne 9, 3) := by decide +kernel
theorem dX12_rent_22 : decode cX12_rent 22 = .ok (.aload_n 0, 1) := by decide +kernel
theorem dX12_rent_23 : decode cX12_rent 23 = .ok (.iconst 5, 1) := by decide +kernel
theorem dX12_rent_24 : decode cX12_rent 24 = .ok (.invokevirtual 333, 3) := by decide +kernel
theorem dX12_rent_27 : decode cX12_rent 27 = .ok (.ireturn, 1) := by decide +kernel
theorem dX12_rent_28 : decode cX12_rent 28 = .ok (.aload_n 0, 1) := by decide +kernel
theorem dX12_rent_29 : decode cX12_rent 29 = .ok (.iconst (-1), 1) := by decide +kernel
theorem dX12_rent_30 : decode cX12_rent 30 = .ok (.invokevirtual 446, 3) := by decide +kernel
theorem dX12_rent_33 : decode cX12_rent 33 = .ok (.istore_n 2, 1) := by decide +kernel
theorem dX12_rent_34 : decode cX12_rent 34 = .ok (.iload_n 2, 1) := by decide +kernel
theorem dX12_rent_35 : decode cX12_rent 35 = .ok (.aload_n 0, 1) := by decide +kernel
theorem dX12_rent_36 : decode cX12_rent 36 = .ok (.iload_n 1, 1) := by decide +kernel
theorem dX12_rent_37 : decode cX12_rent 37 = .ok (.invokevirtual 446, 3) := by decide +kernel
theorem dX12_rent_40 : decode cX12_rent 40 = .ok (.isub, 1) := by decide +kernel
theorem dX12_rent_41 : decode cX12_rent 41 = .ok (.ireturn, 1) := by decide +kernel
def F_X12_rent (w : Nat) (M : z_Mem) (a1 : Int32) : Option (Int32 × z_Mem) :=
  (F_X12_isIn w (z_wI (z_wI M 137 1 (0 : Int32)) 137 0 (0 : Int32)) a1.toInt64 (0 : Int64) (11 : Int64)).bind fun q1 =>
  if q1.1 = true then
  (F_X12_greatestNet w q1.2 (-1 : Int32)).bind fun q4 =>
  (F_X12_greatestNet w q4.2 a1).bind fun q6 =>
  some (q4.1 - q6.1, q6.2)
  else
  (F_X12_refuse w q1.2 (5 : Int32)).bind fun q8 =>
  some (q8.1, q8.2)
set_option maxHeartbeats 4000000 in
theorem A_X12_rent {w : Nat} {M : z_Mem} {a1 : Int32} {r : Int32} {M' : z_Mem} {Q : Option Value → z_Mem → Prop} (h : F_X12_rent w M a1 = some (r, M')) (hq : Q (some (.int r)) M') : z_Cl 5 mX12_rent [.ref 139, .int a1] M Q := by
  refine g_in (ls := [some (.ref 139), some (.int a1), none]) rfl ?_
  unfold F_X12_rent at h
  refine g_aload_n dX12_rent_0 rfl rfl ?_
  refine g_iconst (v := (0 : Int32)) dX12_rent_1 (by decide) ?_
  refine g_putI (a := 137) dX12_rent_2 f_12_57 sh_137 rfl rfl rfl ?_
  refine g_aload_n dX12_rent_5 rfl rfl ?_
  refine g_iconst (v := (0 : Int32)) dX12_rent_6 (by decide) ?_
  refine g_putI (a := 137) dX12_rent_7 f_12_60 sh_137 rfl rfl rfl ?_
  refine g_iload_n dX12_rent_10 rfl rfl ?_
  refine g_i2l dX12_rent_11 ?_
  refine g_lconst (v := (0 : Int64)) dX12_rent_12 (by decide) ?_
  refine g_ldc2_w dX12_rent_13 rfl ?_
  obtain ⟨q1, e2, h⟩ := z_bd h
  refine g_callS (as := [.long a1.toInt64, .long (0 : Int64), .long (11 : Int64)]) (rest := []) (c := mX12_isIn) (k1 := 0) dX12_rent_16 rfl rfl rfl rfl rfl (Nat.le_of_ble_eq_true rfl) (Nat.le_of_ble_eq_true rfl) (by decide) ?_
  refine A_X12_isIn e2 ?_
  show z_G none 5 mX12_rent 19 [some (.ref 139), some (.int a1), none] [.int (z_tb q1.1)] q1.2 Q
  refine g_if_ne (t := 28) dX12_rent_19 (by decide) (fun c3 => ?_) (fun c3 => ?_)
  · replace h := z_ift (z_tbn.mp c3) h
    refine g_aload_n dX12_rent_28 rfl rfl ?_
    refine g_iconst (v := (-1 : Int32)) dX12_rent_29 (by decide) ?_
    obtain ⟨q4, e5, h⟩ := z_bd h
    refine g_callV (a := 137) (as := [.int (-1 : Int32)]) (rest := []) (c := mX12_greatestNet) (k1 := 4) dX12_rent_30 rfl rfl rfl sh_137 rfl rfl (Nat.le_of_ble_eq_true rfl) (Nat.le_of_ble_eq_true rfl) (by decide) ?_
    refine A_X12_greatestNet e5 ?_
    show z_G none 5 mX12_rent 33 [some (.ref 139), some (.int a1), none] [.int q4.1] q4.2 Q
    refine g_istore_n (ls' := [some (.ref 139), some (.int a1), some (.int q4.1)]) dX12_rent_33 rfl (Nat.le_of_ble_eq_true rfl) rfl ?_
    refine g_iload_n dX12_rent_34 rfl rfl ?_
    refine g_aload_n dX12_rent_35 rfl rfl ?_
    refine g_iload_n dX12_rent_36 rfl rfl ?_
    obtain ⟨q6, e7, h⟩ := z_bd h
    refine g_callV (a := 137) (as := [.int a1]) (rest := [.int q4.1]) (c := mX12_greatestNet) (k1 := 4) dX12_rent_37 rfl rfl rfl sh_137 rfl rfl (Nat.le_of_ble_eq_true rfl) (Nat.le_of_ble_eq_true rfl) (by decide) ?_
    refine A_X12_greatestNet e7 ?_
    show z_G none 5 mX12_rent 40 [some (.ref 139), some (.int a1), some (.int q4.1)] [.int q6.1, .int q4.1] q6.2 Q
    refine g_isub dX12_rent_40 ?_
    cases h
    exact g_iret dX12_rent_41 rfl rfl hq
  · replace h := z_iff (z_tb0.mp c3) h
    refine g_aload_n dX12_rent_22 rfl rfl ?_
    refine g_iconst (v := (5 : Int32)) dX12_rent_23 (by decide) ?_
    obtain ⟨q8, e9, h⟩ := z_bd h
    refine g_callV (a := 137) (as := [.int (5 : Int32)]) (rest := []) (c := mX12_refuse) (k1 := 0) dX12_rent_24 rfl rfl rfl sh_137 rfl rfl (Nat.le_of_ble_eq_true rfl) (Nat.le_of_ble_eq_true rfl) (by decide) ?_
    refine A_X12_refuse e9 ?_
    show z_G none 5 mX12_rent 27 [some (.ref 139), some (.int a1), none] [.int q8.1] q8.2 Q
    cases h
    exact g_iret dX12_rent_27 rfl rfl hq
theorem dX12_allQuestions_0 : decode cX12_allQuestions 0 = .ok (.iconst 1, 1) := by decide +kernel
theorem dX12_allQuestions_1 : decode cX12_allQuestions 1 = .ok (.aload_n 0, 1) := by decide +kernel
theorem dX12_allQuestions_2 : decode cX12_allQuestions 2 = .ok (.getfield 35, 3) := by decide +kernel
theorem dX12_allQuestions_5 : decode cX12_allQuestions 5 = .ok (.iconst 2, 1) := by decide +kernel
theorem dX12_allQuestions_6 : decode cX12_allQuestions 6 = .ok (.iaload, 1) := by decide +kernel
theorem dX12_allQuestions_7 : decode cX12_allQuestions 7 = .ok (.ishl, 1) := by decide +kernel
theorem dX12_allQuestions_8 : decode cX12_allQuestions 8 = .ok (.iconst 1, 1) := by decide +kernel
theorem dX12_allQuestions_9 : decode cX12_allQuestions 9 = .ok (.isub, 1) := by decide +kernel
theorem dX12_allQuestions_10 : decode cX12_allQuestions 10 = .ok (.ireturn, 1) := by decide +kernel
def F_X12_allQuestions (w : Nat) (M : z_Mem) : Option (Int32 × z_Mem) :=
  some (((1 : Int32) <<< ((M.1 142 2) &&& 31)) - (1 : Int32), M)
set_option maxHeartbeats 4000000 in
theorem A_X12_allQuestions {w : Nat} {M : z_Mem} {r : Int32} {M' : z_Mem} {Q : Option Value → z_Mem → Prop} (h : F_X12_allQuestions w M = some (r, M')) (hq : Q (some (.int r)) M') : z_Cl 0 mX12_allQuestions [.ref 139] M Q := by
  refine g_in (ls := [some (.ref 139)]) rfl ?_
  unfold F_X12_allQuestions at h
  refine g_iconst (v := (1 : Int32)) dX12_allQuestions_0 (by decide) ?_
  refine g_aload_n dX12_allQuestions_1 rfl rfl ?_
  refine g_get (a := 137) (v := .ref 144) dX12_allQuestions_2 f_12_35 sh_137 rfl rfl ?_
  refine g_iconst (v := (2 : Int32)) dX12_allQuestions_5 (by decide) ?_
  refine g_ialN (a := 142) (j := 2) (v := M.1 142 2) dX12_allQuestions_6 sh_142 rfl (by decide) rfl ?_
  refine g_ishl dX12_allQuestions_7 ?_
  refine g_iconst (v := (1 : Int32)) dX12_allQuestions_8 (by decide) ?_
  refine g_isub dX12_allQuestions_9 ?_
  cases h
  exact g_iret dX12_allQuestions_10 rfl rfl hq
theorem dX12_brokenBy_0 : decode cX12_brokenBy 0 = .ok (.iconst 0, 1) := by decide +kernel
theorem dX12_brokenBy_1 : decode cX12_brokenBy 1 = .ok (.istore_n 2, 1) := by decide +kernel
theorem dX12_brokenBy_2 : decode cX12_brokenBy 2 = .ok (.iconst 0, 1) := by decide +kernel
theorem dX12_brokenBy_3 : decode cX12_brokenBy 3 = .ok (.istore_n 3, 1) := by decide +kernel
theorem dX12_brokenBy_4 : decode cX12_brokenBy 4 = .ok (.iload_n 3, 1) := by decide +kernel
theorem dX12_brokenBy_5 : decode cX12_brokenBy 5 = .ok (.aload_n 0, 1) := by decide +kernel
theorem dX12_brokenBy_6 : decode cX12_brokenBy 6 = .ok (.getfield 35, 3) := by decide +kernel
theorem dX12_brokenBy_9 : decode cX12_brokenBy 9 = .ok (.iconst 3, 1) := by decide +kernel
theorem dX12_brokenBy_10 : decode cX12_brokenBy 10 = .ok (.iaload, 1) := by decide +kernel
theorem dX12_brokenBy_11 : decode cX12_brokenBy 11 = .ok (.if_icmp .ge 49, 3) := by decide +kernel
theorem dX12_brokenBy_14 : decode cX12_brokenBy 14 = .ok (.iload_n 2, 1) := by decide +kernel
theorem dX12_brokenBy_15 : decode cX12_brokenBy 15 = .ok (.aload_n 0, 1) := by decide +kernel
theorem dX12_brokenBy_16 : decode cX12_brokenBy 16 = .ok (.getfield 35, 3) := by decide +kernel
theorem dX12_brokenBy_19 : decode cX12_brokenBy 19 = .ok (.bipush 75, 2) := by decide +kernel
theorem dX12_brokenBy_21 : decode cX12_brokenBy 21 = .ok (.iload_n 3, 1) := by decide +kernel
theorem dX12_brokenBy_22 : decode cX12_brokenBy 22 = .ok (.iadd, 1) := by decide +kernel
theorem dX12_brokenBy_23 : decode cX12_brokenBy 23 = .ok (.iaload, 1) := by decide +kernel
theorem dX12_brokenBy_24 : decode cX12_brokenBy 24 = .ok (.iload_n 1, 1) := by decide +kernel
theorem dX12_brokenBy_25 : decode cX12_brokenBy 25 = .ok (.iand, 1) := by decide +kernel
theorem dX12_brokenBy_26 : decode cX12_brokenBy 26 = .ok (.ifCond .ne 25, 3) := by decide +kernel
theorem dX12_brokenBy_29 : decode cX12_brokenBy 29 = .ok (.aload_n 0, 1) := by decide +kernel
theorem dX12_brokenBy_30 : decode cX12_brokenBy 30 = .ok (.getfield 35, 3) := by decide +kernel
theorem dX12_brokenBy_33 : decode cX12_brokenBy 33 = .ok (.bipush 83, 2) := by decide +kernel
theorem dX12_brokenBy_35 : decode cX12_brokenBy 35 = .ok (.iload_n 3, 1) := by decide +kernel
theorem dX12_brokenBy_36 : decode cX12_brokenBy 36 = .ok (.iadd, 1) := by decide +kernel
theorem dX12_brokenBy_37 : decode cX12_brokenBy 37 = .ok (.iaload, 1) := by decide +kernel
theorem dX12_brokenBy_38 : decode cX12_brokenBy 38 = .ok (.iload_n 1, 1) := by decide +kernel
theorem dX12_brokenBy_39 : decode cX12_brokenBy 39 = .ok (.iconst (-1), 1) := by decide +kernel
theorem dX12_brokenBy_40 : decode cX12_brokenBy 40 = .ok (.ixor, 1) := by decide +kernel
theorem dX12_brokenBy_41 : decode cX12_brokenBy 41 = .ok (.iand, 1) := by decide +kernel
theorem dX12_brokenBy_42 : decode cX12_brokenBy 42 = .ok (.ifCond .ne 9, 3) := by decide +kernel
theorem dX12_brokenBy_45 : decode cX12_brokenBy 45 = .ok (.iconst 1, 1) := by decide +kernel
theorem dX12_brokenBy_46 : decode cX12_brokenBy 46 = .ok (.iload_n 3, 1) := by decide +kernel
theorem dX12_brokenBy_47 : decode cX12_brokenBy 47 = .ok (.ishl, 1) := by decide +kernel
theorem dX12_brokenBy_48 : decode cX12_brokenBy 48 = .ok (.goto 4, 3) := by decide +kernel
theorem dX12_brokenBy_51 : decode cX12_brokenBy 51 = .ok (.iconst 0, 1) := by decide +kernel
theorem dX12_brokenBy_52 : decode cX12_brokenBy 52 = .ok (.ior, 1) := by decide +kernel
theorem dX12_brokenBy_53 : decode cX12_brokenBy 53 = .ok (.istore_n 2, 1) := by decide +kernel
theorem dX12_brokenBy_54 : decode cX12_brokenBy 54 = .ok (.iinc 3 1, 3) := by decide +kernel
theorem dX12_brokenBy_57 : decode cX12_brokenBy 57 = .ok (.goto (-53), 3) := by decide +kernel
theorem dX12_brokenBy_60 : decode cX12_brokenBy 60 = .ok (.iload_n 2, 1) := by decide +kernel
theorem dX12_brokenBy_61 : decode cX12_brokenBy 61 = .ok (.ireturn, 1) := by decide +kernel
def L_X12_brokenBy (w : Nat) : Nat → z_Mem → Int32 → Int32 → Int32 → Option (Int32 × z_Mem)
  | 0, _, _, _, _ => none
  | c + 1, M, x1, x2, x3 =>
    if (M.1 142 3) ≤ x3 then
    some (x2, M)
    else
    if ((75 : Int32) + x3) < 0 ∨ 1875 ≤ ((75 : Int32) + x3).toNatClampNeg then none else
    if ((M.1 142 ((75 : Int32) + x3).toNatClampNeg) &&& x1) = (0 : Int32) then
    if ((83 : Int32) + x3) < 0 ∨ 1875 ≤ ((83 : Int32) + x3).toNatClampNeg then none else
    if ((M.1 142 ((83 : Int32) + x3).toNatClampNeg) &&& (x1 ^^^ (-1 : Int32))) = (0 : Int32) then
    L_X12_brokenBy w c M x1 (x2 ||| ((1 : Int32) <<< (x3 &&& 31))) (x3 + (1 : Int32))
    else
    L_X12_brokenBy w c M x1 (x2 ||| (0 : Int32)) (x3 + (1 : Int32))
    else
    L_X12_brokenBy w c M x1 (x2 ||| (0 : Int32)) (x3 + (1 : Int32))
set_option maxHeartbeats 4000000 in
theorem AL_X12_brokenBy {w : Nat} : ∀ (c : Nat), (∀ (M : z_Mem) (x1 : Int32) (x2 : Int32) (x3 : Int32) (r : Int32) (M' : z_Mem) (Q : Option Value → z_Mem → Prop), L_X12_brokenBy w c M x1 x2 x3 = some (r, M') → Q (some (.int r)) M' → z_G none 0 mX12_brokenBy 4 [some (.ref 139), some (.int x1), some (.int x2), some (.int x3)] [] M Q) := by
  intro c
  induction c with
  | zero => exact (fun M x1 x2 x3 r M' Q h hq => by rw [L_X12_brokenBy] at h; cases h)
  | succ c ih =>
    intro M x1 x2 x3 r M' Q h hq
    rw [L_X12_brokenBy] at h
    refine g_iload_n dX12_brokenBy_4 rfl rfl ?_
    refine g_aload_n dX12_brokenBy_5 rfl rfl ?_
    refine g_get (a := 137) (v := .ref 144) dX12_brokenBy_6 f_12_35 sh_137 rfl rfl ?_
    refine g_iconst (v := (3 : Int32)) dX12_brokenBy_9 (by decide) ?_
    refine g_ialN (a := 142) (j := 3) (v := M.1 142 3) dX12_brokenBy_10 sh_142 rfl (by decide) rfl ?_
    refine g_ic_ge (t := 60) dX12_brokenBy_11 (by decide) (fun c1 => ?_) (fun c1 => ?_)
    · replace h := z_ift c1 h
      refine g_iload_n dX12_brokenBy_60 rfl rfl ?_
      cases h
      exact g_iret dX12_brokenBy_61 rfl rfl hq
    · replace h := z_iff c1 h
      refine g_iload_n dX12_brokenBy_14 rfl rfl ?_
      refine g_aload_n dX12_brokenBy_15 rfl rfl ?_
      refine g_get (a := 137) (v := .ref 144) dX12_brokenBy_16 f_12_35 sh_137 rfl rfl ?_
      refine g_bipush (v := (75 : Int32)) dX12_brokenBy_19 (by decide) ?_
      refine g_iload_n dX12_brokenBy_21 rfl rfl ?_
      refine g_iadd dX12_brokenBy_22 ?_
      by_cases g2 : ((75 : Int32) + x3) < 0 ∨ 1875 ≤ ((75 : Int32) + x3).toNatClampNeg
      · rw [if_pos g2] at h; cases h
      replace h := z_iff g2 h
      refine g_iald (a := 142) dX12_brokenBy_23 sh_142 g2 ?_
      refine g_iload_n dX12_brokenBy_24 rfl rfl ?_
      refine g_iand dX12_brokenBy_25 ?_
      refine g_if_ne (t := 51) dX12_brokenBy_26 (by decide) (fun c3 => ?_) (fun c3 => ?_)
      · replace h := z_iff c3 h
        refine g_iconst (v := (0 : Int32)) dX12_brokenBy_51 (by decide) ?_
        refine g_ior dX12_brokenBy_52 ?_
        refine g_istore_n (ls' := [some (.ref 139), some (.int x1), some (.int (x2 ||| (0 : Int32))), some (.int x3)]) dX12_brokenBy_53 rfl (Nat.le_of_ble_eq_true rfl) rfl ?_
        refine g_iinc (v := x3 + (1 : Int32)) (ls' := [some (.ref 139), some (.int x1), some (.int (x2 ||| (0 : Int32))), some (.int (x3 + (1 : Int32)))]) dX12_brokenBy_54 rfl rfl rfl ?_
        refine g_goto (t := 4) dX12_brokenBy_57 (by decide) ?_
        exact g_sub (z_sub_s (z_sub_s (z_sub_s (z_sub_s z_sub_nil)))) (ih _ _ _ _ _ _ _ h hq)
      · replace h := z_ift c3 h
        refine g_aload_n dX12_brokenBy_29 rfl rfl ?_
        refine g_get (a := 137) (v := .ref 144) dX12_brokenBy_30 f_12_35 sh_137 rfl rfl ?_
        refine g_bipush (v := (83 : Int32)) dX12_brokenBy_33 (by decide) ?_
        refine g_iload_n dX12_brokenBy_35 rfl rfl ?_
        refine g_iadd dX12_brokenBy_36 ?_
        by_cases g4 : ((83 : Int32) + x3) < 0 ∨ 1875 ≤ ((83 : Int32) + x3).toNatClampNeg
        · rw [if_pos g4] at h; cases h
        replace h := z_iff g4 h
        refine g_iald (a := 142) dX12_brokenBy_37 sh_142 g4 ?_
        refine g_iload_n dX12_brokenBy_38 rfl rfl ?_
        refine g_iconst (v := (-1 : Int32)) dX12_brokenBy_39 (by decide) ?_
        refine g_ixor dX12_brokenBy_40 ?_
        refine g_iand dX12_brokenBy_41 ?_
        refine g_if_ne (t := 51) dX12_brokenBy_42 (by decide) (fun c5 => ?_) (fun c5 => ?_)
        · replace h := z_iff c5 h
          refine g_iconst (v := (0 : Int32)) dX12_brokenBy_51 (by decide) ?_
          refine g_ior dX12_brokenBy_52 ?_
          refine g_istore_n (ls' := [some (.ref 139), some (.int x1), some (.int (x2 ||| (0 : Int32))), some (.int x3)]) dX12_brokenBy_53 rfl (Nat.le_of_ble_eq_true rfl) rfl ?_
          refine g_iinc (v := x3 + (1 : Int32)) (ls' := [some (.ref 139), some (.int x1), some (.int (x2 ||| (0 : Int32))), some (.int (x3 + (1 : Int32)))]) dX12_brokenBy_54 rfl rfl rfl ?_
          refine g_goto (t := 4) dX12_brokenBy_57 (by decide) ?_
          exact g_sub (z_sub_s (z_sub_s (z_sub_s (z_sub_s z_sub_nil)))) (ih _ _ _ _ _ _ _ h hq)
        · replace h := z_ift c5 h
          refine g_iconst (v := (1 : Int32)) dX12_brokenBy_45 (by decide) ?_
          refine g_iload_n dX12_brokenBy_46 rfl rfl ?_
          refine g_ishl dX12_brokenBy_47 ?_
          refine g_goto (t := 52) dX12_brokenBy_48 (by decide) ?_
          refine g_ior dX12_brokenBy_52 ?_
          refine g_istore_n (ls' := [some (.ref 139), some (.int x1), some (.int (x2 ||| ((1 : Int32) <<< (x3 &&& 31)))), some (.int x3)]) dX12_brokenBy_53 rfl (Nat.le_of_ble_eq_true rfl) rfl ?_
          refine g_iinc (v := x3 + (1 : Int32)) (ls' := [some (.ref 139), some (.int x1), some (.int (x2 ||| ((1 : Int32) <<< (x3 &&& 31)))), some (.int (x3 + (1 : Int32)))]) dX12_brokenBy_54 rfl rfl rfl ?_
          refine g_goto (t := 4) dX12_brokenBy_57 (by decide) ?_
          exact g_sub (z_sub_s (z_sub_s (z_sub_s (z_sub_s z_sub_nil)))) (ih _ _ _ _ _ _ _ h hq)
def F_X12_brokenBy (w : Nat) (M : z_Mem) (a1 : Int32) : Option (Int32 × z_Mem) :=
  L_X12_brokenBy w w M a1 (0 : Int32) (0 : Int32)
set_option maxHeartbeats 4000000 in
theorem A_X12_brokenBy {w : Nat} {M : z_Mem} {a1 : Int32} {r : Int32} {M' : z_Mem} {Q : Option Value → z_Mem → Prop} (h : F_X12_brokenBy w M a1 = some (r, M')) (hq : Q (some (.int r)) M') : z_Cl 0 mX12_brokenBy [.ref 139, .int a1] M Q := by
  refine g_in (ls := [some (.ref 139), some (.int a1), none, none]) rfl ?_
  unfold F_X12_brokenBy at h
  refine g_iconst (v := (0 : Int32)) dX12_brokenBy_0 (by decide) ?_
  refine g_istore_n (ls' := [some (.ref 139), some (.int a1), some (.int (0 : Int32)), none]) dX12_brokenBy_1 rfl (Nat.le_of_ble_eq_true rfl) rfl ?_
  refine g_iconst (v := (0 : Int32)) dX12_brokenBy_2 (by decide) ?_
  refine g_istore_n (ls' := [some (.ref 139), some (.int a1), some (.int (0 : Int32)), some (.int (0 : Int32))]) dX12_brokenBy_3 rfl (Nat.le_of_ble_eq_true rfl) rfl ?_
  exact g_sub (z_sub_s (z_sub_s (z_sub_s (z_sub_s z_sub_nil)))) ((AL_X12_brokenBy (w := w) w) _ _ _ _ _ _ _ h hq)
theorem dX12_rulings_0 : decode cX12_rulings 0 = .ok (.aload_n 0, 1) := by decide +kernel
theorem dX12_rulings_1 : decode cX12_rulings 1 = .ok (.iconst 0, 1) := by decide +kernel
theorem dX12_rulings_2 : decode cX12_rulings 2 = .ok (.putfield 57, 3) := by decide +kernel
theorem dX12_rulings_5 : decode cX12_rulings 5 = .ok (.aload_n 0, 1) := by decide +kernel
theorem dX12_rulings_6 : decode cX12_rulings 6 = .ok (.iconst 0, 1) := by decide +kernel
theorem dX12_rulings_7 : decode cX12_rulings 7 = .ok (.putfield 60, 3) := by decide +kernel
theorem dX12_rulings_10 : decode cX12_rulings 10 = .ok (.iconst 0, 1) := by decide +kernel
theorem dX12_rulings_11 : decode cX12_rulings 11 = .ok (.istore_n 1, 1) := by decide +kernel
theorem dX12_rulings_12 : decode cX12_rulings 12 = .ok (.iconst 0, 1) := by decide +kernel
theorem dX12_rulings_13 : decode cX12_rulings 13 = .ok (.istore_n 2, 1) := by decide +kernel
theorem dX12_rulings_14 : decode cX12_rulings 14 = .ok (.iload_n 2, 1) := by decide +kernel
theorem dX12_rulings_15 : decode cX12_rulings 15 = .ok (.aload_n 0, 1) := by decide +kernel
theorem dX12_rulings_16 : decode cX12_rulings 16 = .ok (.invokevirtual 449, 3) := by decide +kernel
theorem dX12_rulings_19 : decode cX12_rulings 19 = .ok (.if_icmp .gt 25, 3) := by decide +kernel
theorem dX12_rulings_22 : decode cX12_rulings 22 = .ok (.iload_n 1, 1) := by decide +kernel
theorem dX12_rulings_23 : decode cX12_rulings 23 = .ok (.aload_n 0, 1) := by decide +kernel
theorem dX12_rulings_24 : decode cX12_rulings 24 = .ok (.iload_n 2, 1) := by decide +kernel
theorem dX12_rulings_25 : decode cX12_rulings 25 = .ok (.invokevirtual 452, 3) := by decide +kernel
theorem dX12_rulings_28 : decode cX12_rulings 28 = .ok (.ifCond .ne 7, 3) := by decide +kernel
theorem dX12_rulings_31 : decode cX12_rulings 31 = .ok (.iconst 1, 1) := by decide +kernel
theorem dX12_rulings_32 : decode cX12_rulings 32 = .ok (.goto 4, 3) := by decide +kernel
theorem dX12_rulings_35 : decode cX12_rulings 35 = .ok (.iconst 0, 1) := by decide +kernel
theorem dX12_rulings_36 : decode cX12_rulings 36 = .ok (.iadd, 1) := by decide +kernel
theorem dX12_rulings_37 : decode cX12_rulings 37 = .ok (.istore_n 1, 1) := by decide +kernel
theorem dX12_rulings_38 : decode cX12_rulings 38 = .ok (.iinc 2 1, 3) := by decide +kernel
theorem dX12_rulings_41 : decode cX12_rulings 41 = .ok (.goto (-27), 3) := by decide +kernel
theorem dX12_rulings_44 : decode cX12_rulings 44 = .ok (.iload_n 1, 1) := by decide +kernel
theorem dX12_rulings_45 : decode cX12_rulings 45 = .ok (.ireturn, 1) := by decide +kernel
def L_X12_rulings (w : Nat) : Nat → z_Mem → Int32 → Int32 → Option (Int32 × z_Mem)
  | 0, _, _, _ => none
  | c + 1, M, x1, x2 =>
    (F_X12_allQuestions w M).bind fun q1 =>
    if q1.1 < x2 then
    some (x1, q1.2)
    else
    (F_X12_brokenBy w q1.2 x2).bind fun q4 =>
    if q4.1 = (0 : Int32) then
    L_X12_rulings w c q4.2 (x1 + (1 : Int32)) (x2 + (1 : Int32))
    else
    L_X12_rulings w c q4.2 (x1 + (0 : Int32)) (x2 + (1 : Int32))
set_option maxHeartbeats 4000000 in
theorem AL_X12_rulings {w : Nat} : ∀ (c : Nat), (∀ (M : z_Mem) (x1 : Int32) (x2 : Int32) (r : Int32) (M' : z_Mem) (Q : Option Value → z_Mem → Prop), L_X12_rulings w c M x1 x2 = some (r, M') → Q (some (.int r)) M' → z_G none 1 mX12_rulings 14 [some (.ref 139), some (.int x1), some (.int x2)] [] M Q) := by
  intro c
  induction c with
  | zero => exact (fun M x1 x2 r M' Q h hq => by rw [L_X12_rulings] at h; cases h)
  | succ c ih =>
    intro M x1 x2 r M' Q h hq
    rw [L_X12_rulings] at h
    refine g_iload_n dX12_rulings_14 rfl rfl ?_
    refine g_aload_n dX12_rulings_15 rfl rfl ?_
    obtain ⟨q1, e2, h⟩ := z_bd h
    refine g_callV (a := 137) (as := []) (rest := [.int x2]) (c := mX12_allQuestions) (k1 := 0) dX12_rulings_16 rfl rfl rfl sh_137 rfl rfl (Nat.le_of_ble_eq_true rfl) (Nat.le_of_ble_eq_true rfl) (by decide) ?_
    refine A_X12_allQuestions e2 ?_
    show z_G none 1 mX12_rulings 19 [some (.ref 139), some (.int x1), some (.int x2)] [.int q1.1, .int x2] q1.2 Q
    refine g_ic_gt (t := 44) dX12_rulings_19 (by decide) (fun c3 => ?_) (fun c3 => ?_)
    · replace h := z_ift c3 h
      refine g_iload_n dX12_rulings_44 rfl rfl ?_
      cases h
      exact g_iret dX12_rulings_45 rfl rfl hq
    · replace h := z_iff c3 h
      refine g_iload_n dX12_rulings_22 rfl rfl ?_
      refine g_aload_n dX12_rulings_23 rfl rfl ?_
      refine g_iload_n dX12_rulings_24 rfl rfl ?_
      obtain ⟨q4, e5, h⟩ := z_bd h
      refine g_callV (a := 137) (as := [.int x2]) (rest := [.int x1]) (c := mX12_brokenBy) (k1 := 0) dX12_rulings_25 rfl rfl rfl sh_137 rfl rfl (Nat.le_of_ble_eq_true rfl) (Nat.le_of_ble_eq_true rfl) (by decide) ?_
      refine A_X12_brokenBy e5 ?_
      show z_G none 1 mX12_rulings 28 [some (.ref 139), some (.int x1), some (.int x2)] [.int q4.1, .int x1] q4.2 Q
      refine g_if_ne (t := 35) dX12_rulings_28 (by decide) (fun c6 => ?_) (fun c6 => ?_)
      · replace h := z_iff c6 h
        refine g_iconst (v := (0 : Int32)) dX12_rulings_35 (by decide) ?_
        refine g_iadd dX12_rulings_36 ?_
        refine g_istore_n (ls' := [some (.ref 139), some (.int (x1 + (0 : Int32))), some (.int x2)]) dX12_rulings_37 rfl (Nat.le_of_ble_eq_true rfl) rfl ?_
        refine g_iinc (v := x2 + (1 : Int32)) (ls' := [some (.ref 139), some (.int (x1 + (0 : Int32))), some (.int (x2 + (1 : Int32)))]) dX12_rulings_38 rfl rfl rfl ?_
        refine g_goto (t := 14) dX12_rulings_41 (by decide) ?_
        exact g_sub (z_sub_s (z_sub_s (z_sub_s z_sub_nil))) (ih _ _ _ _ _ _ h hq)
      · replace h := z_ift c6 h
        refine g_iconst (v := (1 : Int32)) dX12_rulings_31 (by decide) ?_
        refine g_goto (t := 36) dX12_rulings_32 (by decide) ?_
        refine g_iadd dX12_rulings_36 ?_
        refine g_istore_n (ls' := [some (.ref 139), some (.int (x1 + (1 : Int32))), some (.int x2)]) dX12_rulings_37 rfl (Nat.le_of_ble_eq_true rfl) rfl ?_
        refine g_iinc (v := x2 + (1 : Int32)) (ls' := [some (.ref 139), some (.int (x1 + (1 : Int32))), some (.int (x2 + (1 : Int32)))]) dX12_rulings_38 rfl rfl rfl ?_
        refine g_goto (t := 14) dX12_rulings_41 (by decide) ?_
        exact g_sub (z_sub_s (z_sub_s (z_sub_s z_sub_nil))) (ih _ _ _ _ _ _ h hq)
def F_X12_rulings (w : Nat) (M : z_Mem) : Option (Int32 × z_Mem) :=
  L_X12_rulings w w (z_wI (z_wI M 137 1 (0 : Int32)) 137 0 (0 : Int32)) (0 : Int32) (0 : Int32)
set_option maxHeartbeats 4000000 in
theorem A_X12_rulings {w : Nat} {M : z_Mem} {r : Int32} {M' : z_Mem} {Q : Option Value → z_Mem → Prop} (h : F_X12_rulings w M = some (r, M')) (hq : Q (some (.int r)) M') : z_Cl 1 mX12_rulings [.ref 139] M Q := by
  refine g_in (ls := [some (.ref 139), none, none]) rfl ?_
  unfold F_X12_rulings at h
  refine g_aload_n dX12_rulings_0 rfl rfl ?_
  refine g_iconst (v := (0 : Int32)) dX12_rulings_1 (by decide) ?_
  refine g_putI (a := 137) dX12_rulings_2 f_12_57 sh_137 rfl rfl rfl ?_
  refine g_aload_n dX12_rulings_5 rfl rfl ?_
  refine g_iconst (v := (0 : Int32)) dX12_rulings_6 (by decide) ?_
  refine g_putI (a := 137) dX12_rulings_7 f_12_60 sh_137 rfl rfl rfl ?_
  refine g_iconst (v := (0 : Int32)) dX12_rulings_10 (by decide) ?_
  refine g_istore_n (ls' := [some (.ref 139), some (.int (0 : Int32)), none]) dX12_rulings_11 rfl (Nat.le_of_ble_eq_true rfl) rfl ?_
  refine g_iconst (v := (0 : Int32)) dX12_rulings_12 (by decide) ?_
  refine g_istore_n (ls' := [some (.ref 139), some (.int (0 : Int32)), some (.int (0 : Int32))]) dX12_rulings_13 rfl (Nat.le_of_ble_eq_true rfl) rfl ?_
  exact g_sub (z_sub_s (z_sub_s (z_sub_s z_sub_nil))) ((AL_X12_rulings (w := w) w) _ _ _ _ _ _ h hq)
theorem dX12_rulingAt_0 : decode cX12_rulingAt 0 = .ok (.aload_n 0, 1) := by decide +kernel
theorem dX12_rulingAt_1 : decode cX12_rulingAt 1 = .ok (.iconst 0, 1) := by decide +kernel
theorem dX12_rulingAt_2 : decode cX12_rulingAt 2 = .ok (.putfield 57, 3) := by decide +kernel
theorem dX12_rulingAt_5 : decode cX12_rulingAt 5 = .ok (.aload_n 0, 1) := by decide +kernel
theorem dX12_rulingAt_6 : decode cX12_rulingAt 6 = .ok (.iconst 0, 1) := by decide +kernel
theorem dX12_rulingAt_7 : decode cX12_rulingAt 7 = .ok (.putfield 60, 3) := by decide +kernel
theorem dX12_rulingAt_10 : decode cX12_rulingAt 10 = .ok (.iconst 0, 1) := by decide +kernel
theorem dX12_rulingAt_11 : decode cX12_rulingAt 11 = .ok (.istore_n 2, 1) := by decide +kernel
theorem dX12_rulingAt_12 : decode cX12_rulingAt 12 = .ok (.iconst 0, 1) := by decide +kernel
theorem dX12_rulingAt_13 : decode cX12_rulingAt 13 = .ok (.istore_n 3, 1) := by decide +kernel
theorem dX12_rulingAt_14 : decode cX12_rulingAt 14 = .ok (.iload_n 3, 1) := by decide +kernel
theorem dX12_rulingAt_15 : decode cX12_rulingAt 15 = .ok (.aload_n 0, 1) := by decide +kernel
theorem dX12_rulingAt_16 : decode cX12_rulingAt 16 = .ok (.invokevirtual 449, 3) := by decide +kernel
theorem dX12_rulingAt_19 : decode cX12_rulingAt 19 = .ok (.if_icmp .gt 30, 3) := by decide +kernel
theorem dX12_rulingAt_22 : decode cX12_rulingAt 22 = .ok (.aload_n 0, 1) := by decide +kernel
theorem dX12_rulingAt_23 : decode cX12_rulingAt 23 = .ok (.iload_n 3, 1) := by decide +kernel
theorem dX12_rulingAt_24 : decode cX12_rulingAt 24 = .ok (.invokevirtual 452, 3) := by decide +kernel
theorem dX12_rulingAt_27 : decode cX12_rulingAt 27 = .ok (.ifCond .eq 6, 3) := by decide +kernel
theorem dX12_rulingAt_30 : decode cX12_rulingAt 30 = .ok (.goto 13, 3) := by decide +kernel
theorem dX12_rulingAt_33 : decode cX12_rulingAt 33 = .ok (.iload_n 2, 1) := by decide +kernel
theorem dX12_rulingAt_34 : decode cX12_rulingAt 34 = .ok (.iload_n 1, 1) := by decide +kernel
theorem dX12_rulingAt_35 : decode cX12_rulingAt 35 = .ok (.if_icmp .ne 5, 3) := by decide +kernel
theorem dX12_rulingAt_38 : decode cX12_rulingAt 38 = .ok (.iload_n 3, 1) := by decide +kernel
theorem dX12_rulingAt_39 : decode cX12_rulingAt 39 = .ok (.ireturn, 1) := by decide +kernel
theorem dX12_rulingAt_40 : decode cX12_rulingAt 40 = .ok (.iinc 2 1, 3) := by decide +kernel
theorem dX12_rulingAt_43 : decode cX12_rulingAt 43 = .ok (.iinc 3 1, 3) := by decide +kernel
theorem dX12_rulingAt_46 : decode cX12_rulingAt 46 = .ok (.goto (-32), 3) := by decide +kernel
theorem dX12_rulingAt_49 : decode cX12_rulingAt 49 = .ok (.aload_n 0, 1) := by decide +kernel
theorem dX12_rulingAt_50 : decode cX12_rulingAt 50 = .ok (.bipush 8, 2) := by decide +kernel
theorem dX12_rulingAt_52 : decode cX12_rulingAt 52 = .ok (.invokevirtual 333, 3) := by decide +kernel
theorem dX12_rulingAt_55 : decode cX12_rulingAt 55 = .ok (.ireturn, 1) := by decide +kernel
def L_X12_rulingAt (w : Nat) : Nat → z_Mem → Int32 → Int32 → Int32 → Option (Int32 × z_Mem)
  | 0, _, _, _, _ => none
  | c + 1, M, x1, x2, x3 =>
    (F_X12_allQuestions w M).bind fun q1 =>
    if q1.1 < x3 then
    (F_X12_refuse w q1.2 (8 : Int32)).bind fun q4 =>
    some (q4.1, q4.2)
    else
    (F_X12_brokenBy w q1.2 x3).bind fun q6 =>
    if q6.1 = (0 : Int32) then
    if x2 = x1 then
    some (x3, q6.2)
    else
    L_X12_rulingAt w c q6.2 x1 (x2 + (1 : Int32)) (x3 + (1 : Int32))
    else
    L_X12_rulingAt w c q6.2 x1 x2 (x3 + (1 : Int32))
set_option maxHeartbeats 4000000 in
theorem AL_X12_rulingAt {w : Nat} : ∀ (c : Nat), (∀ (M : z_Mem) (x1 : Int32) (x2 : Int32) (x3 : Int32) (r : Int32) (M' : z_Mem) (Q : Option Value → z_Mem → Prop), L_X12_rulingAt w c M x1 x2 x3 = some (r, M') → Q (some (.int r)) M' → z_G none 1 mX12_rulingAt 14 [some (.ref 139), some (.int x1), some (.int x2), some (.int x3)] [] M Q) := by
  intro c
  induction c with
  | zero => exact (fun M x1 x2 x3 r M' Q h hq => by rw [L_X12_rulingAt] at h; cases h)
  | succ c ih =>
    intro M x1 x2 x3 r M' Q h hq
    rw [L_X12_rulingAt] at h
    refine g_iload_n dX12_rulingAt_14 rfl rfl ?_
    refine g_aload_n dX12_rulingAt_15 rfl rfl ?_
    obtain ⟨q1, e2, h⟩ := z_bd h
    refine g_callV (a := 137) (as := []) (rest := [.int x3]) (c := mX12_allQuestions) (k1 := 0) dX12_rulingAt_16 rfl rfl rfl sh_137 rfl rfl (Nat.le_of_ble_eq_true rfl) (Nat.le_of_ble_eq_true rfl) (by decide) ?_
    refine A_X12_allQuestions e2 ?_
    show z_G none 1 mX12_rulingAt 19 [some (.ref 139), some (.int x1), some (.int x2), some (.int x3)] [.int q1.1, .int x3] q1.2 Q
    refine g_ic_gt (t := 49) dX12_rulingAt_19 (by decide) (fun c3 => ?_) (fun c3 => ?_)
    · replace h := z_ift c3 h
      refine g_aload_n dX12_rulingAt_49 rfl rfl ?_
      refine g_bipush (v := (8 : Int32)) dX12_rulingAt_50 (by decide) ?_
      obtain ⟨q4, e5, h⟩ := z_bd h
      refine g_callV (a := 137) (as := [.int (8 : Int32)]) (rest := []) (c := mX12_refuse) (k1 := 0) dX12_rulingAt_52 rfl rfl rfl sh_137 rfl rfl (Nat.le_of_ble_eq_true rfl) (Nat.le_of_ble_eq_true rfl) (by decide) ?_
      refine A_X12_refuse e5 ?_
      show z_G none 1 mX12_rulingAt 55 [some (.ref 139), some (.int x1), some (.int x2), some (.int x3)] [.int q4.1] q4.2 Q
      cases h
      exact g_iret dX12_rulingAt_55 rfl rfl hq
    · replace h := z_iff c3 h
      refine g_aload_n dX12_rulingAt_22 rfl rfl ?_
      refine g_iload_n dX12_rulingAt_23 rfl rfl ?_
      obtain ⟨q6, e7, h⟩ := z_bd h
      refine g_callV (a := 137) (as := [.int x3]) (rest := []) (c := mX12_brokenBy) (k1 := 0) dX12_rulingAt_24 rfl rfl rfl sh_137 rfl rfl (Nat.le_of_ble_eq_true rfl) (Nat.le_of_ble_eq_true rfl) (by decide) ?_
      refine A_X12_brokenBy e7 ?_
      show z_G none 1 mX12_rulingAt 27 [some (.ref 139), some (.int x1), some (.int x2), some (.int x3)] [.int q6.1] q6.2 Q
      refine g_if_eq (t := 33) dX12_rulingAt_27 (by decide) (fun c8 => ?_) (fun c8 => ?_)
      · replace h := z_ift c8 h
        refine g_iload_n dX12_rulingAt_33 rfl rfl ?_
        refine g_iload_n dX12_rulingAt_34 rfl rfl ?_
        refine g_ic_ne (t := 40) dX12_rulingAt_35 (by decide) (fun c9 => ?_) (fun c9 => ?_)
        · replace h := z_iff c9 h
          refine g_iinc (v := x2 + (1 : Int32)) (ls' := [some (.ref 139), some (.int x1), some (.int (x2 + (1 : Int32))), some (.int x3)]) dX12_rulingAt_40 rfl rfl rfl ?_
          refine g_iinc (v := x3 + (1 : Int32)) (ls' := [some (.ref 139), some (.int x1), some (.int (x2 + (1 : Int32))), some (.int (x3 + (1 : Int32)))]) dX12_rulingAt_43 rfl rfl rfl ?_
          refine g_goto (t := 14) dX12_rulingAt_46 (by decide) ?_
          exact g_sub (z_sub_s (z_sub_s (z_sub_s (z_sub_s z_sub_nil)))) (ih _ _ _ _ _ _ _ h hq)
        · replace h := z_ift c9 h
          refine g_iload_n dX12_rulingAt_38 rfl rfl ?_
          cases h
          exact g_iret dX12_rulingAt_39 rfl rfl hq
      · replace h := z_iff c8 h
        refine g_goto (t := 43) dX12_rulingAt_30 (by decide) ?_
        refine g_iinc (v := x3 + (1 : Int32)) (ls' := [some (.ref 139), some (.int x1), some (.int x2), some (.int (x3 + (1 : Int32)))]) dX12_rulingAt_43 rfl rfl rfl ?_
        refine g_goto (t := 14) dX12_rulingAt_46 (by decide) ?_
        exact g_sub (z_sub_s (z_sub_s (z_sub_s (z_sub_s z_sub_nil)))) (ih _ _ _ _ _ _ _ h hq)
def F_X12_rulingAt (w : Nat) (M : z_Mem) (a1 : Int32) : Option (Int32 × z_Mem) :=
  L_X12_rulingAt w w (z_wI (z_wI M 137 1 (0 : Int32)) 137 0 (0 : Int32)) a1 (0 : Int32) (0 : Int32)
set_option maxHeartbeats 4000000 in
theorem A_X12_rulingAt {w : Nat} {M : z_Mem} {a1 : Int32} {r : Int32} {M' : z_Mem} {Q : Option Value → z_Mem → Prop} (h : F_X12_rulingAt w M a1 = some (r, M')) (hq : Q (some (.int r)) M') : z_Cl 1 mX12_rulingAt [.ref 139, .int a1] M Q := by
  refine g_in (ls := [some (.ref 139), some (.int a1), none, none]) rfl ?_
  unfold F_X12_rulingAt at h
  refine g_aload_n dX12_rulingAt_0 rfl rfl ?_
  refine g_iconst (v := (0 : Int32)) dX12_rulingAt_1 (by decide) ?_
  refine g_putI (a := 137) dX12_rulingAt_2 f_12_57 sh_137 rfl rfl rfl ?_
  refine g_aload_n dX12_rulingAt_5 rfl rfl ?_
  refine g_iconst (v := (0 : Int32)) dX12_rulingAt_6 (by decide) ?_
  refine g_putI (a := 137) dX12_rulingAt_7 f_12_60 sh_137 rfl rfl rfl ?_
  refine g_iconst (v := (0 : Int32)) dX12_rulingAt_10 (by decide) ?_
  refine g_istore_n (ls' := [some (.ref 139), some (.int a1), some (.int (0 : Int32)), none]) dX12_rulingAt_11 rfl (Nat.le_of_ble_eq_true rfl) rfl ?_
  refine g_iconst (v := (0 : Int32)) dX12_rulingAt_12 (by decide) ?_
  refine g_istore_n (ls' := [some (.ref 139), some (.int a1), some (.int (0 : Int32)), some (.int (0 : Int32))]) dX12_rulingAt_13 rfl (Nat.le_of_ble_eq_true rfl) rfl ?_
  exact g_sub (z_sub_s (z_sub_s (z_sub_s (z_sub_s z_sub_nil)))) ((AL_X12_rulingAt (w := w) w) _ _ _ _ _ _ _ h hq)
theorem dX12_striking_0 : decode cX12_striking 0 = .ok (.aload_n 0, 1) := by decide +kernel
theorem dX12_striking_1 : decode cX12_striking 1 = .ok (.iconst 0, 1) := by decide +kernel
theorem dX12_striking_2 : decode cX12_striking 2 = .ok (.invokevirtual 452, 3) := by decide +kernel
theorem dX12_striking_5 : decode cX12_striking 5 = .ok (.istore_n 1, 1) := by decide +kernel
theorem dX12_striking_6 : decode cX12_striking 6 = .ok (.iconst 1, 1) := by decide +kernel
theorem dX12_striking_7 : decode cX12_striking 7 = .ok (.istore_n 2, 1) := by decide +kernel
theorem dX12_striking_8 : decode cX12_striking 8 = .ok (.iload_n 2, 1) := by decide +kernel
theorem dX12_striking_9 : decode cX12_striking 9 = .ok (.aload_n 0, 1) := by decide +kernel
theorem dX12_striking_10 : decode cX12_striking 10 = .ok (.invokevirtual 449, 3) := by decide +kernel
theorem dX12_striking_13 : decode cX12_striking 13 = .ok (.if_icmp .gt 44, 3) := by decide +kernel
theorem dX12_striking_16 : decode cX12_striking 16 = .ok (.aload_n 0, 1) := by decide +kernel
theorem dX12_striking_17 : decode cX12_striking 17 = .ok (.iload_n 2, 1) := by decide +kernel
theorem dX12_striking_18 : decode cX12_striking 18 = .ok (.invokevirtual 452, 3) := by decide +kernel
theorem dX12_striking_21 : decode cX12_striking 21 = .ok (.istore_n 3, 1) := by decide +kernel
theorem dX12_striking_22 : decode cX12_striking 22 = .ok (.iload_n 3, 1) := by decide +kernel
theorem dX12_striking_23 : decode cX12_striking 23 = .ok (.invokestatic 455, 3) := by decide +kernel
theorem dX12_striking_26 : decode cX12_striking 26 = .ok (.iload_n 1, 1) := by decide +kernel
theorem dX12_striking_27 : decode cX12_striking 27 = .ok (.invokestatic 455, 3) := by decide +kernel
theorem dX12_striking_30 : decode cX12_striking 30 = .ok (.if_icmp .lt 19, 3) := by decide +kernel
theorem dX12_striking_33 : decode cX12_striking 33 = .ok (.iload_n 3, 1) := by decide +kernel
theorem dX12_striking_34 : decode cX12_striking 34 = .ok (.invokestatic 455, 3) := by decide +kernel
theorem dX12_striking_37 : decode cX12_striking 37 = .ok (.iload_n 1, 1) := by decide +kernel
theorem dX12_striking_38 : decode cX12_striking 38 = .ok (.invokestatic 455, 3) := by decide +kernel
theorem dX12_striking_41 : decode cX12_striking 41 = .ok (.if_icmp .ne 10, 3) := by decide +kernel
theorem dX12_striking_44 : decode cX12_striking 44 = .ok (.iload_n 3, 1) := by decide +kernel
theorem dX12_striking_45 : decode cX12_striking 45 = .ok (.iload_n 1, 1) := by decide +kernel
theorem dX12_striking_46 : decode cX12_striking 46 = .ok (.if_icmp .ge 5, 3) := by decide +kernel
theorem dX12_striking_49 : decode cX12_striking 49 = .ok (.iload_n 3, 1) := by decide +kernel
theorem dX12_striking_50 : decode cX12_striking 50 = .ok (.istore_n 1, 1) := by decide +kernel
theorem dX12_striking_51 : decode cX12_striking 51 = .ok (.iinc 2 1, 3) := by decide +kernel
theorem dX12_striking_54 : decode cX12_striking 54 = .ok (.goto (-46), 3) := by decide +kernel
theorem dX12_striking_57 : decode cX12_striking 57 = .ok (.iload_n 1, 1) := by decide +kernel
theorem dX12_striking_58 : decode cX12_striking 58 = .ok (.ireturn, 1) := by decide +kernel
def L_X12_striking (w : Nat) : Nat → z_Mem → Int32 → Int32 → Option (Int32 × z_Mem)
  | 0, _, _, _ => none
  | c + 1, M, x1, x2 =>
    (F_X12_allQuestions w M).bind fun q1 =>
    if q1.1 < x2 then
    some (x1, q1.2)
    else
    (F_X12_brokenBy w q1.2 x2).bind fun q4 =>
    (F_X12_sizeOf w q4.2 q4.1).bind fun q6 =>
    (F_X12_sizeOf w q6.2 x1).bind fun q8 =>
    if q6.1 < q8.1 then
    L_X12_striking w c q8.2 q4.1 (x2 + (1 : Int32))
    else
    (F_X12_sizeOf w q8.2 q4.1).bind fun q11 =>
    (F_X12_sizeOf w q11.2 x1).bind fun q13 =>
    if q11.1 = q13.1 then
    if x1 ≤ q4.1 then
    L_X12_striking w c q13.2 x1 (x2 + (1 : Int32))
    else
    L_X12_striking w c q13.2 q4.1 (x2 + (1 : Int32))
    else
    L_X12_striking w c q13.2 x1 (x2 + (1 : Int32))
set_option maxHeartbeats 4000000 in
theorem AL_X12_striking {w : Nat} : ∀ (c : Nat), (∀ (M : z_Mem) (x1 : Int32) (x2 : Int32) (r : Int32) (M' : z_Mem) (Q : Option Value → z_Mem → Prop), L_X12_striking w c M x1 x2 = some (r, M') → Q (some (.int r)) M' → z_G none 2 mX12_striking 8 [some (.ref 139), some (.int x1), some (.int x2), none] [] M Q) := by
  intro c
  induction c with
  | zero => exact (fun M x1 x2 r M' Q h hq => by rw [L_X12_striking] at h; cases h)
  | succ c ih =>
    intro M x1 x2 r M' Q h hq
    rw [L_X12_striking] at h
    refine g_iload_n dX12_striking_8 rfl rfl ?_
    refine g_aload_n dX12_striking_9 rfl rfl ?_
    obtain ⟨q1, e2, h⟩ := z_bd h
    refine g_callV (a := 137) (as := []) (rest := [.int x2]) (c := mX12_allQuestions) (k1 := 0) dX12_striking_10 rfl rfl rfl sh_137 rfl rfl (Nat.le_of_ble_eq_true rfl) (Nat.le_of_ble_eq_true rfl) (by decide) ?_
    refine A_X12_allQuestions e2 ?_
    show z_G none 2 mX12_striking 13 [some (.ref 139), some (.int x1), some (.int x2), none] [.int q1.1, .int x2] q1.2 Q
    refine g_ic_gt (t := 57) dX12_striking_13 (by decide) (fun c3 => ?_) (fun c3 => ?_)
    · replace h := z_ift c3 h
      refine g_iload_n dX12_striking_57 rfl rfl ?_
      cases h
      exact g_iret dX12_striking_58 rfl rfl hq
    · replace h := z_iff c3 h
      refine g_aload_n dX12_striking_16 rfl rfl ?_
      refine g_iload_n dX12_striking_17 rfl rfl ?_
      obtain ⟨q4, e5, h⟩ := z_bd h
      refine g_callV (a := 137) (as := [.int x2]) (rest := []) (c := mX12_brokenBy) (k1 := 0) dX12_striking_18 rfl rfl rfl sh_137 rfl rfl (Nat.le_of_ble_eq_true rfl) (Nat.le_of_ble_eq_true rfl) (by decide) ?_
      refine A_X12_brokenBy e5 ?_
      show z_G none 2 mX12_striking 21 [some (.ref 139), some (.int x1), some (.int x2), none] [.int q4.1] q4.2 Q
      refine g_istore_n (ls' := [some (.ref 139), some (.int x1), some (.int x2), some (.int q4.1)]) dX12_striking_21 rfl (Nat.le_of_ble_eq_true rfl) rfl ?_
      refine g_iload_n dX12_striking_22 rfl rfl ?_
      obtain ⟨q6, e7, h⟩ := z_bd h
      refine g_callS (as := [.int q4.1]) (rest := []) (c := mX12_sizeOf) (k1 := 1) dX12_striking_23 rfl rfl rfl rfl rfl (Nat.le_of_ble_eq_true rfl) (Nat.le_of_ble_eq_true rfl) (by decide) ?_
      refine A_X12_sizeOf e7 ?_
      show z_G none 2 mX12_striking 26 [some (.ref 139), some (.int x1), some (.int x2), some (.int q4.1)] [.int q6.1] q6.2 Q
      refine g_iload_n dX12_striking_26 rfl rfl ?_
      obtain ⟨q8, e9, h⟩ := z_bd h
      refine g_callS (as := [.int x1]) (rest := [.int q6.1]) (c := mX12_sizeOf) (k1 := 1) dX12_striking_27 rfl rfl rfl rfl rfl (Nat.le_of_ble_eq_true rfl) (Nat.le_of_ble_eq_true rfl) (by decide) ?_
      refine A_X12_sizeOf e9 ?_
      show z_G none 2 mX12_striking 30 [some (.ref 139), some (.int x1), some (.int x2), some (.int q4.1)] [.int q8.1, .int q6.1] q8.2 Q
      refine g_ic_lt (t := 49) dX12_striking_30 (by decide) (fun c10 => ?_) (fun c10 => ?_)
      · replace h := z_ift c10 h
        refine g_iload_n dX12_striking_49 rfl rfl ?_
        refine g_istore_n (ls' := [some (.ref 139), some (.int q4.1), some (.int x2), some (.int q4.1)]) dX12_striking_50 rfl (Nat.le_of_ble_eq_true rfl) rfl ?_
        refine g_iinc (v := x2 + (1 : Int32)) (ls' := [some (.ref 139), some (.int q4.1), some (.int (x2 + (1 : Int32))), some (.int q4.1)]) dX12_striking_51 rfl rfl rfl ?_
        refine g_goto (t := 8) dX12_striking_54 (by decide) ?_
        exact g_sub (z_sub_s (z_sub_s (z_sub_s (z_sub_n z_sub_nil)))) (ih _ _ _ _ _ _ h hq)
      · replace h := z_iff c10 h
        refine g_iload_n dX12_striking_33 rfl rfl ?_
        obtain ⟨q11, e12, h⟩ := z_bd h
        refine g_callS (as := [.int q4.1]) (rest := []) (c := mX12_sizeOf) (k1 := 1) dX12_striking_34 rfl rfl rfl rfl rfl (Nat.le_of_ble_eq_true rfl) (Nat.le_of_ble_eq_true rfl) (by decide) ?_
        refine A_X12_sizeOf e12 ?_
        show z_G none 2 mX12_striking 37 [some (.ref 139), some (.int x1), some (.int x2), some (.int q4.1)] [.int q11.1] q11.2 Q
        refine g_iload_n dX12_striking_37 rfl rfl ?_
        obtain ⟨q13, e14, h⟩ := z_bd h
        refine g_callS (as := [.int x1]) (rest := [.int q11.1]) (c := mX12_sizeOf) (k1 := 1) dX12_striking_38 rfl rfl rfl rfl rfl (Nat.le_of_ble_eq_true rfl) (Nat.le_of_ble_eq_true rfl) (by decide) ?_
        refine A_X12_sizeOf e14 ?_
        show z_G none 2 mX12_striking 41 [some (.ref 139), some (.int x1), some (.int x2), some (.int q4.1)] [.int q13.1, .int q11.1] q13.2 Q
        refine g_ic_ne (t := 51) dX12_striking_41 (by decide) (fun c15 => ?_) (fun c15 => ?_)
        · replace h := z_iff c15 h
          refine g_iinc (v := x2 + (1 : Int32)) (ls' := [some (.ref 139), some (.int x1), some (.int (x2 + (1 : Int32))), some (.int q4.1)]) dX12_striking_51 rfl rfl rfl ?_
          refine g_goto (t := 8) dX12_striking_54 (by decide) ?_
          exact g_sub (z_sub_s (z_sub_s (z_sub_s (z_sub_n z_sub_nil)))) (ih _ _ _ _ _ _ h hq)
        · replace h := z_ift c15 h
          refine g_iload_n dX12_striking_44 rfl rfl ?_
          refine g_iload_n dX12_striking_45 rfl rfl ?_
          refine g_ic_ge (t := 51) dX12_striking_46 (by decide) (fun c16 => ?_) (fun c16 => ?_)
          · replace h := z_ift c16 h
            refine g_iinc (v := x2 + (1 : Int32)) (ls' := [some (.ref 139), some (.int x1), some (.int (x2 + (1 : Int32))), some (.int q4.1)]) dX12_striking_51 rfl rfl rfl ?_
            refine g_goto (t := 8) dX12_striking_54 (by decide) ?_
            exact g_sub (z_sub_s (z_sub_s (z_sub_s (z_sub_n z_sub_nil)))) (ih _ _ _ _ _ _ h hq)
          · replace h := z_iff c16 h
            refine g_iload_n dX12_striking_49 rfl rfl ?_
            refine g_istore_n (ls' := [some (.ref 139), some (.int q4.1), some (.int x2), some (.int q4.1)]) dX12_striking_50 rfl (Nat.le_of_ble_eq_true rfl) rfl ?_
            refine g_iinc (v := x2 + (1 : Int32)) (ls' := [some (.ref 139), some (.int q4.1), some (.int (x2 + (1 : Int32))), some (.int q4.1)]) dX12_striking_51 rfl rfl rfl ?_
            refine g_goto (t := 8) dX12_striking_54 (by decide) ?_
            exact g_sub (z_sub_s (z_sub_s (z_sub_s (z_sub_n z_sub_nil)))) (ih _ _ _ _ _ _ h hq)
def F_X12_striking (w : Nat) (M : z_Mem) : Option (Int32 × z_Mem) :=
  (F_X12_brokenBy w M (0 : Int32)).bind fun q17 =>
  L_X12_striking w w q17.2 q17.1 (1 : Int32)
set_option maxHeartbeats 4000000 in
theorem A_X12_striking {w : Nat} {M : z_Mem} {r : Int32} {M' : z_Mem} {Q : Option Value → z_Mem → Prop} (h : F_X12_striking w M = some (r, M')) (hq : Q (some (.int r)) M') : z_Cl 2 mX12_striking [.ref 139] M Q := by
  refine g_in (ls := [some (.ref 139), none, none, none]) rfl ?_
  unfold F_X12_striking at h
  refine g_aload_n dX12_striking_0 rfl rfl ?_
  refine g_iconst (v := (0 : Int32)) dX12_striking_1 (by decide) ?_
  obtain ⟨q17, e18, h⟩ := z_bd h
  refine g_callV (a := 137) (as := [.int (0 : Int32)]) (rest := []) (c := mX12_brokenBy) (k1 := 0) dX12_striking_2 rfl rfl rfl sh_137 rfl rfl (Nat.le_of_ble_eq_true rfl) (Nat.le_of_ble_eq_true rfl) (by decide) ?_
  refine A_X12_brokenBy e18 ?_
  show z_G none 2 mX12_striking 5 [some (.ref 139), none, none, none] [.int q17.1] q17.2 Q
  refine g_istore_n (ls' := [some (.ref 139), some (.int q17.1), none, none]) dX12_striking_5 rfl (Nat.le_of_ble_eq_true rfl) rfl ?_
  refine g_iconst (v := (1 : Int32)) dX12_striking_6 (by decide) ?_
  refine g_istore_n (ls' := [some (.ref 139), some (.int q17.1), some (.int (1 : Int32)), none]) dX12_striking_7 rfl (Nat.le_of_ble_eq_true rfl) rfl ?_
  exact g_sub (z_sub_s (z_sub_s (z_sub_s (z_sub_n z_sub_nil)))) ((AL_X12_striking (w := w) w) _ _ _ _ _ _ h hq)
theorem dX12_strike_0 : decode cX12_strike 0 = .ok (.aload_n 0, 1) := by decide +kernel
theorem dX12_strike_1 : decode cX12_strike 1 = .ok (.iconst 0, 1) := by decide +kernel
theorem dX12_strike_2 : decode cX12_strike 2 = .ok (.putfield 57, 3) := by decide +kernel
theorem dX12_strike_5 : decode cX12_strike 5 = .ok (.aload_n 0, 1) := by decide +kernel
theorem dX12_strike_6 : decode cX12_strike 6 = .ok (.iconst 0, 1) := by decide +kernel
theorem dX12_strike_7 : decode cX12_strike 7 = .ok (.putfield 60, 3) := by decide +kernel
theorem dX12_strike_10 : decode cX12_strike 10 = .ok (.aload_n 0, 1) := by decide +kernel
theorem dX12_strike_11 : decode cX12_strike 11 = .ok (.invokevirtual 458, 3) := by decide +kernel
theorem dX12_strike_14 : decode cX12_strike 14 = .ok (.invokestatic 455, 3) := by decide +kernel
theorem dX12_strike_17 : decode cX12_strike 17 = .ok (.ireturn, 1) := by decide +kernel
def F_X12_strike (w : Nat) (M : z_Mem) : Option (Int32 × z_Mem) :=
  (F_X12_striking w (z_wI (z_wI M 137 1 (0 : Int32)) 137 0 (0 : Int32))).bind fun q1 =>
  (F_X12_sizeOf w q1.2 q1.1).bind fun q3 =>
  some (q3.1, q3.2)
set_option maxHeartbeats 4000000 in
theorem A_X12_strike {w : Nat} {M : z_Mem} {r : Int32} {M' : z_Mem} {Q : Option Value → z_Mem → Prop} (h : F_X12_strike w M = some (r, M')) (hq : Q (some (.int r)) M') : z_Cl 3 mX12_strike [.ref 139] M Q := by
  refine g_in (ls := [some (.ref 139)]) rfl ?_
  unfold F_X12_strike at h
  refine g_aload_n dX12_strike_0 rfl rfl ?_
  refine g_iconst (v := (0 : Int32)) dX12_strike_1 (by decide) ?_
  refine g_putI (a := 137) dX12_strike_2 f_12_57 sh_137 rfl rfl rfl ?_
  refine g_aload_n dX12_strike_5 rfl rfl ?_
  refine g_iconst (v := (0 : Int32)) dX12_strike_6 (by decide) ?_
  refine g_putI (a := 137) dX12_strike_7 f_12_60 sh_137 rfl rfl rfl ?_
  refine g_aload_n dX12_strike_10 rfl rfl ?_
  obtain ⟨q1, e2, h⟩ := z_bd h
  refine g_callV (a := 137) (as := []) (rest := []) (c := mX12_striking) (k1 := 2) dX12_strike_11 rfl rfl rfl sh_137 rfl rfl (Nat.le_of_ble_eq_true rfl) (Nat.le_of_ble_eq_true rfl) (by decide) ?_
  refine A_X12_striking e2 ?_
  show z_G none 3 mX12_strike 14 [some (.ref 139)] [.int q1.1] q1.2 Q
  obtain ⟨q3, e4, h⟩ := z_bd h
  refine g_callS (as := [.int q1.1]) (rest := []) (c := mX12_sizeOf) (k1 := 1) dX12_strike_14 rfl rfl rfl rfl rfl (Nat.le_of_ble_eq_true rfl) (Nat.le_of_ble_eq_true rfl) (by decide) ?_
  refine A_X12_sizeOf e4 ?_
  show z_G none 3 mX12_strike 17 [some (.ref 139)] [.int q3.1] q3.2 Q
  cases h
  exact g_iret dX12_strike_17 rfl rfl hq
theorem dX12_strikeSet_0 : decode cX12_strikeSet 0 = .ok (.aload_n 0, 1) := by decide +kernel
theorem dX12_strikeSet_1 : decode cX12_strikeSet 1 = .ok (.iconst 0, 1) := by decide +kernel
theorem dX12_strikeSet_2 : decode cX12_strikeSet 2 = .ok (.putfield 57, 3) := by decide +kernel
theorem dX12_strikeSet_5 : decode cX12_strikeSet 5 = .ok (.aload_n 0, 1) := by decide +kernel
theorem dX12_strikeSet_6 : decode cX12_strikeSet 6 = .ok (.iconst 0, 1) := by decide +kernel
theorem dX12_strikeSet_7 : decode cX12_strikeSet 7 = .ok (.putfield 60, 3) := by decide +kernel
theorem dX12_strikeSet_10 : decode cX12_strikeSet 10 = .ok (.aload_n 0, 1) := by decide +kernel
theorem dX12_strikeSet_11 : decode cX12_strikeSet 11 = .ok (.invokevirtual 458, 3) := by decide +kernel
theorem dX12_strikeSet_14 : decode cX12_strikeSet 14 = .ok (.ireturn, 1) := by decide +kernel
def F_X12_strikeSet (w : Nat) (M : z_Mem) : Option (Int32 × z_Mem) :=
  (F_X12_striking w (z_wI (z_wI M 137 1 (0 : Int32)) 137 0 (0 : Int32))).bind fun q1 =>
  some (q1.1, q1.2)
set_option maxHeartbeats 4000000 in
theorem A_X12_strikeSet {w : Nat} {M : z_Mem} {r : Int32} {M' : z_Mem} {Q : Option Value → z_Mem → Prop} (h : F_X12_strikeSet w M = some (r, M')) (hq : Q (some (.int r)) M') : z_Cl 3 mX12_strikeSet [.ref 139] M Q := by
  refine g_in (ls := [some (.ref 139)]) rfl ?_
  unfold F_X12_strikeSet at h
  refine g_aload_n dX12_strikeSet_0 rfl rfl ?_
  refine g_iconst (v := (0 : Int32)) dX12_strikeSet_1 (by decide) ?_
  refine g_putI (a := 137) dX12_strikeSet_2 f_12_57 sh_137 rfl rfl rfl ?_
  refine g_aload_n dX12_strikeSet_5 rfl rfl ?_
  refine g_iconst (v := (0 : Int32)) dX12_strikeSet_6 (by decide) ?_
  refine g_putI (a := 137) dX12_strikeSet_7 f_12_60 sh_137 rfl rfl rfl ?_
  refine g_aload_n dX12_strikeSet_10 rfl rfl ?_
  obtain ⟨q1, e2, h⟩ := z_bd h
  refine g_callV (a := 137) (as := []) (rest := []) (c := mX12_striking) (k1 := 2) dX12_strikeSet_11 rfl rfl rfl sh_137 rfl rfl (Nat.le_of_ble_eq_true rfl) (Nat.le_of_ble_eq_true rfl) (by decide) ?_
  refine A_X12_striking e2 ?_
  show z_G none 3 mX12_strikeSet 14 [some (.ref 139)] [.int q1.1] q1.2 Q
  cases h
  exact g_iret dX12_strikeSet_14 rfl rfl hq
theorem dX12_sure_0 : decode cX12_sure 0 = .ok (.aload_n 0, 1) := by decide +kernel
theorem dX12_sure_1 : decode cX12_sure 1 = .ok (.iconst 0, 1) := by decide +kernel
theorem dX12_sure_2 : decode cX12_sure 2 = .ok (.putfield 57, 3) := by decide +kernel
theorem dX12_sure_5 : decode cX12_sure 5 = .ok (.aload_n 0, 1) := by decide +kernel
theorem dX12_sure_6 : decode cX12_sure 6 = .ok (.iconst 0, 1) := by decide +kernel
theorem dX12_sure_7 : decode cX12_sure 7 = .ok (.putfield 60, 3) := by decide +kernel
theorem dX12_sure_10 : decode cX12_sure 10 = .ok (.iload_n 1, 1) := by decide +kernel
theorem dX12_sure_11 : decode cX12_sure 11 = .ok (.i2l, 1) := by decide +kernel
theorem dX12_sure_12 : decode cX12_sure 12 = .ok (.lconst 0, 1) := by decide +kernel
theorem dX12_sure_13 : decode cX12_sure 13 = .ok (.aload_n 0, 1) := by decide +kernel
theorem dX12_sure_14 : decode cX12_sure 14 = .ok (.getfield 35, 3) := by decide +kernel
theorem dX12_sure_17 : decode cX12_sure 17 = .ok (.iconst 2, 1) := by decide +kernel
theorem dX12_sure_18 : decode cX12_sure 18 = .ok (.iaload, 1) := by decide +kernel
theorem dX12_sure_19 : decode cX12_sure 19 = .ok (.iconst 1, 1) := by decide +kernel
theorem dX12_sure_20 : decode cX12_sure 20 = .ok (.isub, 1) := by decide +kernel
theorem dX12_sure_21 : decode cX12_sure 21 = .ok (.i2l, 1) := by decide +kernel
theorem dX12_sure_22 : decode cX12_sure 22 = .ok (.invokestatic 92, 3) := by decide +kernel
theorem dX12_sure_25 : decode cX12_sure 25 = .ok (.ifCond .ne 9, 3) := by decide +kernel
theorem dX12_sure_28 : decode cX12_sure 28 = .ok (.aload_n 0, 1) := by decide +kernel
theorem dX12_sure_29 : decode cX12_sure 29 = .ok (.iconst 2, 1) := by decide +kernel
theorem dX12_sure_30 : decode cX12_sure 30 = .ok (.invokevirtual 333, 3) := by decide +kernel
theorem dX12_sure_33 : decode cX12_sure 33 = .ok (.ireturn, 1) := by decide +kernel
theorem dX12_sure_34 : decode cX12_sure 34 = .ok (.iconst 0, 1) := by decide +kernel
theorem dX12_sure_35 : decode cX12_sure 35 = .ok (.istore_n 2, 1) := by decide +kernel
theorem dX12_sure_36 : decode cX12_sure 36 = .ok (.iconst 0, 1) := by decide +kernel
theorem dX12_sure_37 : decode cX12_sure 37 = .ok (.istore_n 3, 1) := by decide +kernel
theorem dX12_sure_38 : decode cX12_sure 38 = .ok (.iconst 0, 1) := by decide +kernel
theorem dX12_sure_39 : decode cX12_sure 39 = .ok (.istore 4, 2) := by decide +kernel
theorem dX12_sure_41 : decode cX12_sure 41 = .ok (.iload 4, 2) := by decide +kernel
theorem dX12_sure_43 : decode cX12_sure 43 = .ok (.aload_n 0, 1) := by decide +kernel
theorem dX12_sure_44 : decode cX12_sure 44 = .ok (.invokevirtual 449, 3) := by decide +kernel
theorem dX12_sure_47 : decode cX12_sure 47 = .ok (.if_icmp .gt 55, 3) := by decide +kernel
theorem dX12_sure_50 : decode cX12_sure 50 = .ok (.aload_n 0, 1) := by decide +kernel
theorem dX12_sure_51 : decode cX12_sure 51 = .ok (.iload 4, 2) := by decide +kernel
theorem dX12_sure_53 : decode cX12_sure 53 = .ok (.invokevirtual 452, 3) := by decide +kernel
theorem dX12_sure_56 : decode cX12_sure 56 = .ok (.ifCond .eq 6, 3) := by decide +kernel
theorem dX12_sure_59 : decode cX12_sure 59 = .ok (.goto 37, 3) := by decide +kernel
theorem dX12_sure_62 : decode cX12_sure 62 = .ok (.iload_n 2, 1) := by decide +kernel
theorem dX12_sure_63 : decode cX12_sure 63 = .ok (.iload 4, 2) := by decide +kernel
theorem dX12_sure_65 : decode cX12_sure 65 = .ok (.iload_n 1, 1) := by decide +kernel
theorem dX12_sure_66 : decode cX12_sure 66 = .ok (.invokestatic 96, 3) := by decide +kernel
theorem dX12_sure_69 : decode cX12_sure 69 = .ok (.ifCond .eq 7, 3) := by decide +kernel
theorem dX12_sure_72 : decode cX12_sure 72 = .ok (.iconst 1, 1) := by decide +kernel
theorem dX12_sure_73 : decode cX12_sure 73 = .ok (.goto 4, 3) := by decide +kernel
theorem dX12_sure_76 : decode cX12_sure 76 = .ok (.iconst 0, 1) := by decide +kernel
theorem dX12_sure_77 : decode cX12_sure 77 = .ok (.iadd, 1) := by decide +kernel
theorem dX12_sure_78 : decode cX12_sure 78 = .ok (.istore_n 2, 1) := by decide +kernel
theorem dX12_sure_79 : decode cX12_sure 79 = .ok (.iload_n 3, 1) := by decide +kernel
theorem dX12_sure_80 : decode cX12_sure 80 = .ok (.iload 4, 2) := by decide +kernel
theorem dX12_sure_82 : decode cX12_sure 82 = .ok (.iload_n 1, 1) := by decide +kernel
theorem dX12_sure_83 : decode cX12_sure 83 = .ok (.invokestatic 96, 3) := by decide +kernel
theorem dX12_sure_86 : decode cX12_sure 86 = .ok (.ifCond .eq 7, 3) := by decide +kernel
theorem dX12_sure_89 : decode cX12_sure 89 = .ok (.iconst 0, 1) := by decide +kernel
theorem dX12_sure_90 : decode cX12_sure 90 = .ok (.goto 4, 3) := by decide +kernel
theorem dX12_sure_93 : decode cX12_sure 93 = .ok (.iconst 1, 1) := by decide +kernel
theorem dX12_sure_94 : decode cX12_sure 94 = .ok (.iadd, 1) := by decide +kernel
theorem dX12_sure_95 : decode cX12_sure 95 = .ok (.istore_n 3, 1) := by decide +kernel
theorem dX12_sure_96 : decode cX12_sure 96 = .ok (.iinc 4 1, 3) := by decide +kernel
theorem dX12_sure_99 : decode cX12_sure 99 = .ok (.goto (-58), 3) := by decide +kernel
theorem dX12_sure_102 : decode cX12_sure 102 = .ok (.iload_n 2, 1) := by decide +kernel
theorem dX12_sure_103 : decode cX12_sure 103 = .ok (.ifCond .le 7, 3) := by decide +kernel
theorem dX12_sure_106 : decode cX12_sure 106 = .ok (.iconst 1, 1) := by decide +kernel
theorem dX12_sure_107 : decode cX12_sure 107 = .ok (.goto 4, 3) := by decide +kernel
theorem dX12_sure_110 : decode cX12_sure 110 = .ok (.iconst 0, 1) := by decide +kernel
theorem dX12_sure_111 : decode cX12_sure 111 = .ok (.iload_n 3, 1) := by decide +kernel
theorem dX12_sure_112 : decode cX12_sure 112 = .ok (.ifCond .le 7, 3) := by decide +kernel
theorem dX12_sure_115 : decode cX12_sure 115 = .ok (.iconst 1, 1) := by decide +kernel
theorem dX12_sure_116 : decode cX12_sure 116 = .ok (.goto 4, 3) := by decide +kernel
theorem dX12_sure_119 : decode cX12_sure 119 = .ok (.iconst 0, 1) := by decide +kernel
theorem dX12_sure_120 : decode cX12_sure 120 = .ok (.if_icmp .ne 12, 3) := by decide +kernel
theorem dX12_sure_123 : decode cX12_sure 123 = .ok (.aload_n 0, 1) := by decide +kernel
theorem dX12_sure_124 : decode cX12_sure 124 = .ok (.bipush 8, 2) := by decide +kernel
theorem dX12_sure_126 : decode cX12_sure 126 = .ok (.invokevirtual 333, 3) := by decide +kernel
theorem dX12_sure_129 : decode cX12_sure 129 = .ok (.goto 12, 3) := by decide +kernel
theorem dX12_sure_132 : decode cX12_sure 132 = .ok (.iload_n 2, 1) := by decide +kernel
theorem dX12_sure_133 : decode cX12_sure 133 = .ok (.ifCond .le 7, 3) := by decide +kernel
theorem dX12_sure_136 : decode cX12_sure 136 = .ok (.iconst 1, 1) := by decide +kernel
theorem dX12_sure_137 : decode cX12_sure 137 = .ok (.goto 4, 3) := by decide +kernel
theorem dX12_sure_140 : decode cX12_sure 140 = .ok (.iconst 0, 1) := by decide +kernel
theorem dX12_sure_141 : decode cX12_sure 141 = .ok (.ireturn, 1) := by decide +kernel
def L_X12_sure (w : Nat) : Nat → z_Mem → Int32 → Int32 → Int32 → Int32 → Option (Int32 × z_Mem)
  | 0, _, _, _, _, _ => none
  | c + 1, M, x1, x2, x3, x4 =>
    (F_X12_allQuestions w M).bind fun q1 =>
    if q1.1 < x4 then
    if x2 ≤ (0 : Int32) then
    if x3 ≤ (0 : Int32) then
    (F_X12_refuse w q1.2 (8 : Int32)).bind fun q7 =>
    some (q7.1, q7.2)
    else
    if x2 ≤ (0 : Int32) then
    some ((0 : Int32), q1.2)
    else
    some ((1 : Int32), q1.2)
    else
    if x3 ≤ (0 : Int32) then
    if x2 ≤ (0 : Int32) then
    some ((0 : Int32), q1.2)
    else
    some ((1 : Int32), q1.2)
    else
    (F_X12_refuse w q1.2 (8 : Int32)).bind fun q15 =>
    some (q15.1, q15.2)
    else
    (F_X12_brokenBy w q1.2 x4).bind fun q17 =>
    if q17.1 = (0 : Int32) then
    (F_X12_has w q17.2 x4 x1).bind fun q20 =>
    if q20.1 = true then
    (F_X12_has w q20.2 x4 x1).bind fun q26 =>
    if q26.1 = true then
    L_X12_sure w c q26.2 x1 (x2 + (1 : Int32)) (x3 + (0 : Int32)) (x4 + (1 : Int32))
    else
    L_X12_sure w c q26.2 x1 (x2 + (1 : Int32)) (x3 + (1 : Int32)) (x4 + (1 : Int32))
    else
    (F_X12_has w q20.2 x4 x1).bind fun q23 =>
    if q23.1 = true then
    L_X12_sure w c q23.2 x1 (x2 + (0 : Int32)) (x3 + (0 : Int32)) (x4 + (1 : Int32))
    else
    L_X12_sure w c q23.2 x1 (x2 + (0 : Int32)) (x3 + (1 : Int32)) (x4 + (1 : Int32))
    else
    L_X12_sure w c q17.2 x1 x2 x3 (x4 + (1 : Int32))
set_option maxHeartbeats 4000000 in
theorem AL_X12_sure {w : Nat} : ∀ (c : Nat), (∀ (M : z_Mem) (x1 : Int32) (x2 : Int32) (x3 : Int32) (x4 : Int32) (r : Int32) (M' : z_Mem) (Q : Option Value → z_Mem → Prop), L_X12_sure w c M x1 x2 x3 x4 = some (r, M') → Q (some (.int r)) M' → z_G none 1 mX12_sure 41 [some (.ref 139), some (.int x1), some (.int x2), some (.int x3), some (.int x4)] [] M Q) := by
  intro c
  induction c with
  | zero => exact (fun M x1 x2 x3 x4 r M' Q h hq => by rw [L_X12_sure] at h; cases h)
  | succ c ih =>
    intro M x1 x2 x3 x4 r M' Q h hq
    rw [L_X12_sure] at h
    refine g_iload dX12_sure_41 rfl ?_
    refine g_aload_n dX12_sure_43 rfl rfl ?_
    obtain ⟨q1, e2, h⟩ := z_bd h
    refine g_callV (a := 137) (as := []) (rest := [.int x4]) (c := mX12_allQuestions) (k1 := 0) dX12_sure_44 rfl rfl rfl sh_137 rfl rfl (Nat.le_of_ble_eq_true rfl) (Nat.le_of_ble_eq_true rfl) (by decide) ?_
    refine A_X12_allQuestions e2 ?_
    show z_G none 1 mX12_sure 47 [some (.ref 139), some (.int x1), some (.int x2), some (.int x3), some (.int x4)] [.int q1.1, .int x4] q1.2 Q
    refine g_ic_gt (t := 102) dX12_sure_47 (by decide) (fun c3 => ?_) (fun c3 => ?_)
    · replace h := z_ift c3 h
      refine g_iload_n dX12_sure_102 rfl rfl ?_
      refine g_if_le (t := 110) dX12_sure_103 (by decide) (fun c4 => ?_) (fun c4 => ?_)
      · replace h := z_ift c4 h
        refine g_iconst (v := (0 : Int32)) dX12_sure_110 (by decide) ?_
        refine g_iload_n dX12_sure_111 rfl rfl ?_
        refine g_if_le (t := 119) dX12_sure_112 (by decide) (fun c5 => ?_) (fun c5 => ?_)
        · replace h := z_ift c5 h
          refine g_iconst (v := (0 : Int32)) dX12_sure_119 (by decide) ?_
          refine g_ic_ne (t := 132) dX12_sure_120 (by decide) (fun c6 => ?_) (fun c6 => ?_)
          · exact absurd c6 (by decide)
          · skip
            refine g_aload_n dX12_sure_123 rfl rfl ?_
            refine g_bipush (v := (8 : Int32)) dX12_sure_124 (by decide) ?_
            obtain ⟨q7, e8, h⟩ := z_bd h
            refine g_callV (a := 137) (as := [.int (8 : Int32)]) (rest := []) (c := mX12_refuse) (k1 := 0) dX12_sure_126 rfl rfl rfl sh_137 rfl rfl (Nat.le_of_ble_eq_true rfl) (Nat.le_of_ble_eq_true rfl) (by decide) ?_
            refine A_X12_refuse e8 ?_
            show z_G none 1 mX12_sure 129 [some (.ref 139), some (.int x1), some (.int x2), some (.int x3), some (.int x4)] [.int q7.1] q7.2 Q
            refine g_goto (t := 141) dX12_sure_129 (by decide) ?_
            cases h
            exact g_iret dX12_sure_141 rfl rfl hq
        · replace h := z_iff c5 h
          refine g_iconst (v := (1 : Int32)) dX12_sure_115 (by decide) ?_
          refine g_goto (t := 120) dX12_sure_116 (by decide) ?_
          refine g_ic_ne (t := 132) dX12_sure_120 (by decide) (fun c9 => ?_) (fun c9 => ?_)
          · skip
            refine g_iload_n dX12_sure_132 rfl rfl ?_
            refine g_if_le (t := 140) dX12_sure_133 (by decide) (fun c10 => ?_) (fun c10 => ?_)
            · replace h := z_ift c10 h
              refine g_iconst (v := (0 : Int32)) dX12_sure_140 (by decide) ?_
              cases h
              exact g_iret dX12_sure_141 rfl rfl hq
            · replace h := z_iff c10 h
              refine g_iconst (v := (1 : Int32)) dX12_sure_136 (by decide) ?_
              refine g_goto (t := 141) dX12_sure_137 (by decide) ?_
              cases h
              exact g_iret dX12_sure_141 rfl rfl hq
          · exact absurd c9 (by decide)
      · replace h := z_iff c4 h
        refine g_iconst (v := (1 : Int32)) dX12_sure_106 (by decide) ?_
        refine g_goto (t := 111) dX12_sure_107 (by decide) ?_
        refine g_iload_n dX12_sure_111 rfl rfl ?_
        refine g_if_le (t := 119) dX12_sure_112 (by decide) (fun c11 => ?_) (fun c11 => ?_)
        · replace h := z_ift c11 h
          refine g_iconst (v := (0 : Int32)) dX12_sure_119 (by decide) ?_
          refine g_ic_ne (t := 132) dX12_sure_120 (by decide) (fun c12 => ?_) (fun c12 => ?_)
          · skip
            refine g_iload_n dX12_sure_132 rfl rfl ?_
            refine g_if_le (t := 140) dX12_sure_133 (by decide) (fun c13 => ?_) (fun c13 => ?_)
            · replace h := z_ift c13 h
              refine g_iconst (v := (0 : Int32)) dX12_sure_140 (by decide) ?_
              cases h
              exact g_iret dX12_sure_141 rfl rfl hq
            · replace h := z_iff c13 h
              refine g_iconst (v := (1 : Int32)) dX12_sure_136 (by decide) ?_
              refine g_goto (t := 141) dX12_sure_137 (by decide) ?_
              cases h
              exact g_iret dX12_sure_141 rfl rfl hq
          · exact absurd c12 (by decide)
        · replace h := z_iff c11 h
          refine g_iconst (v := (1 : Int32)) dX12_sure_115 (by decide) ?_
          refine g_goto (t := 120) dX12_sure_116 (by decide) ?_
          refine g_ic_ne (t := 132) dX12_sure_120 (by decide) (fun c14 => ?_) (fun c14 => ?_)
          · exact absurd c14 (by decide)
          · skip
            refine g_aload_n dX12_sure_123 rfl rfl ?_
            refine g_bipush (v := (8 : Int32)) dX12_sure_124 (by decide) ?_
            obtain ⟨q15, e16, h⟩ := z_bd h
            refine g_callV (a := 137) (as := [.int (8 : Int32)]) (rest := []) (c := mX12_refuse) (k1 := 0) dX12_sure_126 rfl rfl rfl sh_137 rfl rfl (Nat.le_of_ble_eq_true rfl) (Nat.le_of_ble_eq_true rfl) (by decide) ?_
            refine A_X12_refuse e16 ?_
            show z_G none 1 mX12_sure 129 [some (.ref 139), some (.int x1), some (.int x2), some (.int x3), some (.int x4)] [.int q15.1] q15.2 Q
            refine g_goto (t := 141) dX12_sure_129 (by decide) ?_
            cases h
            exact g_iret dX12_sure_141 rfl rfl hq
    · replace h := z_iff c3 h
      refine g_aload_n dX12_sure_50 rfl rfl ?_
      refine g_iload dX12_sure_51 rfl ?_
      obtain ⟨q17, e18, h⟩ := z_bd h
      refine g_callV (a := 137) (as := [.int x4]) (rest := []) (c := mX12_brokenBy) (k1 := 0) dX12_sure_53 rfl rfl rfl sh_137 rfl rfl (Nat.le_of_ble_eq_true rfl) (Nat.le_of_ble_eq_true rfl) (by decide) ?_
      refine A_X12_brokenBy e18 ?_
      show z_G none 1 mX12_sure 56 [some (.ref 139), some (.int x1), some (.int x2), some (.int x3), some (.int x4)] [.int q17.1] q17.2 Q
      refine g_if_eq (t := 62) dX12_sure_56 (by decide) (fun c19 => ?_) (fun c19 => ?_)
      · replace h := z_ift c19 h
        refine g_iload_n dX12_sure_62 rfl rfl ?_
        refine g_iload dX12_sure_63 rfl ?_
        refine g_iload_n dX12_sure_65 rfl rfl ?_
        obtain ⟨q20, e21, h⟩ := z_bd h
        refine g_callS (as := [.int x4, .int x1]) (rest := [.int x2]) (c := mX12_has) (k1 := 0) dX12_sure_66 rfl rfl rfl rfl rfl (Nat.le_of_ble_eq_true rfl) (Nat.le_of_ble_eq_true rfl) (by decide) ?_
        refine A_X12_has e21 ?_
        show z_G none 1 mX12_sure 69 [some (.ref 139), some (.int x1), some (.int x2), some (.int x3), some (.int x4)] [.int (z_tb q20.1), .int x2] q20.2 Q
        refine g_if_eq (t := 76) dX12_sure_69 (by decide) (fun c22 => ?_) (fun c22 => ?_)
        · replace h := z_iff (z_tb0.mp c22) h
          refine g_iconst (v := (0 : Int32)) dX12_sure_76 (by decide) ?_
          refine g_iadd dX12_sure_77 ?_
          refine g_istore_n (ls' := [some (.ref 139), some (.int x1), some (.int (x2 + (0 : Int32))), some (.int x3), some (.int x4)]) dX12_sure_78 rfl (Nat.le_of_ble_eq_true rfl) rfl ?_
          refine g_iload_n dX12_sure_79 rfl rfl ?_
          refine g_iload dX12_sure_80 rfl ?_
          refine g_iload_n dX12_sure_82 rfl rfl ?_
          obtain ⟨q23, e24, h⟩ := z_bd h
          refine g_callS (as := [.int x4, .int x1]) (rest := [.int x3]) (c := mX12_has) (k1 := 0) dX12_sure_83 rfl rfl rfl rfl rfl (Nat.le_of_ble_eq_true rfl) (Nat.le_of_ble_eq_true rfl) (by decide) ?_
          refine A_X12_has e24 ?_
          show z_G none 1 mX12_sure 86 [some (.ref 139), some (.int x1), some (.int (x2 + (0 : Int32))), some (.int x3), some (.int x4)] [.int (z_tb q23.1), .int x3] q23.2 Q
          refine g_if_eq (t := 93) dX12_sure_86 (by decide) (fun c25 => ?_) (fun c25 => ?_)
          · replace h := z_iff (z_tb0.mp c25) h
            refine g_iconst (v := (1 : Int32)) dX12_sure_93 (by decide) ?_
            refine g_iadd dX12_sure_94 ?_
            refine g_istore_n (ls' := [some (.ref 139), some (.int x1), some (.int (x2 + (0 : Int32))), some (.int (x3 + (1 : Int32))), some (.int x4)]) dX12_sure_95 rfl (Nat.le_of_ble_eq_true rfl) rfl ?_
            refine g_iinc (v := x4 + (1 : Int32)) (ls' := [some (.ref 139), some (.int x1), some (.int (x2 + (0 : Int32))), some (.int (x3 + (1 : Int32))), some (.int (x4 + (1 : Int32)))]) dX12_sure_96 rfl rfl rfl ?_
            refine g_goto (t := 41) dX12_sure_99 (by decide) ?_
            exact g_sub (z_sub_s (z_sub_s (z_sub_s (z_sub_s (z_sub_s z_sub_nil))))) (ih _ _ _ _ _ _ _ _ h hq)
          · replace h := z_ift (z_tbn.mp c25) h
            refine g_iconst (v := (0 : Int32)) dX12_sure_89 (by decide) ?_
            refine g_goto (t := 94) dX12_sure_90 (by decide) ?_
            refine g_iadd dX12_sure_94 ?_
            refine g_istore_n (ls' := [some (.ref 139), some (.int x1), some (.int (x2 + (0 : Int32))), some (.int (x3 + (0 : Int32))), some (.int x4)]) dX12_sure_95 rfl (Nat.le_of_ble_eq_true rfl) rfl ?_
            refine g_iinc (v := x4 + (1 : Int32)) (ls' := [some (.ref 139), some (.int x1), some (.int (x2 + (0 : Int32))), some (.int (x3 + (0 : Int32))), some (.int (x4 + (1 : Int32)))]) dX12_sure_96 rfl rfl rfl ?_
            refine g_goto (t := 41) dX12_sure_99 (by decide) ?_
            exact g_sub (z_sub_s (z_sub_s (z_sub_s (z_sub_s (z_sub_s z_sub_nil))))) (ih _ _ _ _ _ _ _ _ h hq)
        · replace h := z_ift (z_tbn.mp c22) h
          refine g_iconst (v := (1 : Int32)) dX12_sure_72 (by decide) ?_
          refine g_goto (t := 77) dX12_sure_73 (by decide) ?_
          refine g_iadd dX12_sure_77 ?_
          refine g_istore_n (ls' := [some (.ref 139), some (.int x1), some (.int (x2 + (1 : Int32))), some (.int x3), some (.int x4)]) dX12_sure_78 rfl (Nat.le_of_ble_eq_true rfl) rfl ?_
          refine g_iload_n dX12_sure_79 rfl rfl ?_
          refine g_iload dX12_sure_80 rfl ?_
          refine g_iload_n dX12_sure_82 rfl rfl ?_
          obtain ⟨q26, e27, h⟩ := z_bd h
          refine g_callS (as := [.int x4, .int x1]) (rest := [.int x3]) (c := mX12_has) (k1 := 0) dX12_sure_83 rfl rfl rfl rfl rfl (Nat.le_of_ble_eq_true rfl) (Nat.le_of_ble_eq_true rfl) (by decide) ?_
          refine A_X12_has e27 ?_
          show z_G none 1 mX12_sure 86 [some (.ref 139), some (.int x1), some (.int (x2 + (1 : Int32))), some (.int x3), some (.int x4)] [.int (z_tb q26.1), .int x3] q26.2 Q
          refine g_if_eq (t := 93) dX12_sure_86 (by decide) (fun c28 => ?_) (fun c28 => ?_)
          · replace h := z_iff (z_tb0.mp c28) h
            refine g_iconst (v := (1 : Int32)) dX12_sure_93 (by decide) ?_
            refine g_iadd dX12_sure_94 ?_
            refine g_istore_n (ls' := [some (.ref 139), some (.int x1), some (.int (x2 + (1 : Int32))), some (.int (x3 + (1 : Int32))), some (.int x4)]) dX12_sure_95 rfl (Nat.le_of_ble_eq_true rfl) rfl ?_
            refine g_iinc (v := x4 + (1 : Int32)) (ls' := [some (.ref 139), some (.int x1), some (.int (x2 + (1 : Int32))), some (.int (x3 + (1 : Int32))), some (.int (x4 + (1 : Int32)))]) dX12_sure_96 rfl rfl rfl ?_
            refine g_goto (t := 41) dX12_sure_99 (by decide) ?_
            exact g_sub (z_sub_s (z_sub_s (z_sub_s (z_sub_s (z_sub_s z_sub_nil))))) (ih _ _ _ _ _ _ _ _ h hq)
          · replace h := z_ift (z_tbn.mp c28) h
            refine g_iconst (v := (0 : Int32)) dX12_sure_89 (by decide) ?_
            refine g_goto (t := 94) dX12_sure_90 (by decide) ?_
            refine g_iadd dX12_sure_94 ?_
            refine g_istore_n (ls' := [some (.ref 139), some (.int x1), some (.int (x2 + (1 : Int32))), some (.int (x3 + (0 : Int32))), some (.int x4)]) dX12_sure_95 rfl (Nat.le_of_ble_eq_true rfl) rfl ?_
            refine g_iinc (v := x4 + (1 : Int32)) (ls' := [some (.ref 139), some (.int x1), some (.int (x2 + (1 : Int32))), some (.int (x3 + (0 : Int32))), some (.int (x4 + (1 : Int32)))]) dX12_sure_96 rfl rfl rfl ?_
            refine g_goto (t := 41) dX12_sure_99 (by decide) ?_
            exact g_sub (z_sub_s (z_sub_s (z_sub_s (z_sub_s (z_sub_s z_sub_nil))))) (ih _ _ _ _ _ _ _ _ h hq)
      · replace h := z_iff c19 h
        refine g_goto (t := 96) dX12_sure_59 (by decide) ?_
        refine g_iinc (v := x4 + (1 : Int32)) (ls' := [some (.ref 139), some (.int x1), some (.int x2), some (.int x3), some (.int (x4 + (1 : Int32)))]) dX12_sure_96 rfl rfl rfl ?_
        refine g_goto (t := 41) dX12_sure_99 (by decide) ?_
        exact g_sub (z_sub_s (z_sub_s (z_sub_s (z_sub_s (z_sub_s z_sub_nil))))) (ih _ _ _ _ _ _ _ _ h hq)
def F_X12_sure (w : Nat) (M : z_Mem) (a1 : Int32) : Option (Int32 × z_Mem) :=
  (F_X12_isIn w (z_wI (z_wI M 137 1 (0 : Int32)) 137 0 (0 : Int32)) a1.toInt64 (0 : Int64) (((M.1 142 2) - (1 : Int32)).toInt64)).bind fun q29 =>
  if q29.1 = true then
  L_X12_sure w w q29.2 a1 (0 : Int32) (0 : Int32) (0 : Int32)
  else
  (F_X12_refuse w q29.2 (2 : Int32)).bind fun q32 =>
  some (q32.1, q32.2)
set_option maxHeartbeats 4000000 in
theorem A_X12_sure {w : Nat} {M : z_Mem} {a1 : Int32} {r : Int32} {M' : z_Mem} {Q : Option Value → z_Mem → Prop} (h : F_X12_sure w M a1 = some (r, M')) (hq : Q (some (.int r)) M') : z_Cl 1 mX12_sure [.ref 139, .int a1] M Q := by
  refine g_in (ls := [some (.ref 139), some (.int a1), none, none, none]) rfl ?_
  unfold F_X12_sure at h
  refine g_aload_n dX12_sure_0 rfl rfl ?_
  refine g_iconst (v := (0 : Int32)) dX12_sure_1 (by decide) ?_
  refine g_putI (a := 137) dX12_sure_2 f_12_57 sh_137 rfl rfl rfl ?_
  refine g_aload_n dX12_sure_5 rfl rfl ?_
  refine g_iconst (v := (0 : Int32)) dX12_sure_6 (by decide) ?_
  refine g_putI (a := 137) dX12_sure_7 f_12_60 sh_137 rfl rfl rfl ?_
  refine g_iload_n dX12_sure_10 rfl rfl ?_
  refine g_i2l dX12_sure_11 ?_
  refine g_lconst (v := (0 : Int64)) dX12_sure_12 (by decide) ?_
  refine g_aload_n dX12_sure_13 rfl rfl ?_
  refine g_get (a := 137) (v := .ref 144) dX12_sure_14 f_12_35 sh_137 rfl rfl ?_
  refine g_iconst (v := (2 : Int32)) dX12_sure_17 (by decide) ?_
  refine g_ialN (a := 142) (j := 2) (v := M.1 142 2) dX12_sure_18 sh_142 rfl (by decide) (by simp [z_wI, z_wL, z_wLs, upd, vp_updL]) ?_
  refine g_iconst (v := (1 : Int32)) dX12_sure_19 (by decide) ?_
  refine g_isub dX12_sure_20 ?_
  refine g_i2l dX12_sure_21 ?_
  obtain ⟨q29, e30, h⟩ := z_bd h
  refine g_callS (as := [.long a1.toInt64, .long (0 : Int64), .long (((M.1 142 2) - (1 : Int32)).toInt64)]) (rest := []) (c := mX12_isIn) (k1 := 0) dX12_sure_22 rfl rfl rfl rfl rfl (Nat.le_of_ble_eq_true rfl) (Nat.le_of_ble_eq_true rfl) (by decide) ?_
  refine A_X12_isIn e30 ?_
  show z_G none 1 mX12_sure 25 [some (.ref 139), some (.int a1), none, none, none] [.int (z_tb q29.1)] q29.2 Q
  refine g_if_ne (t := 34) dX12_sure_25 (by decide) (fun c31 => ?_) (fun c31 => ?_)
  · replace h := z_ift (z_tbn.mp c31) h
    refine g_iconst (v := (0 : Int32)) dX12_sure_34 (by decide) ?_
    refine g_istore_n (ls' := [some (.ref 139), some (.int a1), some (.int (0 : Int32)), none, none]) dX12_sure_35 rfl (Nat.le_of_ble_eq_true rfl) rfl ?_
    refine g_iconst (v := (0 : Int32)) dX12_sure_36 (by decide) ?_
    refine g_istore_n (ls' := [some (.ref 139), some (.int a1), some (.int (0 : Int32)), some (.int (0 : Int32)), none]) dX12_sure_37 rfl (Nat.le_of_ble_eq_true rfl) rfl ?_
    refine g_iconst (v := (0 : Int32)) dX12_sure_38 (by decide) ?_
    refine g_istore (ls' := [some (.ref 139), some (.int a1), some (.int (0 : Int32)), some (.int (0 : Int32)), some (.int (0 : Int32))]) dX12_sure_39 (Nat.le_of_ble_eq_true rfl) rfl ?_
    exact g_sub (z_sub_s (z_sub_s (z_sub_s (z_sub_s (z_sub_s z_sub_nil))))) ((AL_X12_sure (w := w) w) _ _ _ _ _ _ _ _ h hq)
  · replace h := z_iff (z_tb0.mp c31) h
    refine g_aload_n dX12_sure_28 rfl rfl ?_
    refine g_iconst (v := (2 : Int32)) dX12_sure_29 (by decide) ?_
    obtain ⟨q32, e33, h⟩ := z_bd h
    refine g_callV (a := 137) (as := [.int (2 : Int32)]) (rest := []) (c := mX12_refuse) (k1 := 0) dX12_sure_30 rfl rfl rfl sh_137 rfl rfl (Nat.le_of_ble_eq_true rfl) (Nat.le_of_ble_eq_true rfl) (by decide) ?_
    refine A_X12_refuse e33 ?_
    show z_G none 1 mX12_sure 33 [some (.ref 139), some (.int a1), none, none, none] [.int q32.1] q32.2 Q
    cases h
    exact g_iret dX12_sure_33 rfl rfl hq
theorem dX12_whose_0 : decode cX12_whose 0 = .ok (.aload_n 0, 1) := by decide +kernel
theorem dX12_whose_1 : decode cX12_whose 1 = .ok (.iconst 0, 1) := by decide +kernel
theorem dX12_whose_2 : decode cX12_whose 2 = .ok (.putfield 57, 3) := by decide +kernel
theorem dX12_whose_5 : decode cX12_whose 5 = .ok (.aload_n 0, 1) := by decide +kernel
theorem dX12_whose_6 : decode cX12_whose 6 = .ok (.iconst 0, 1) := by decide +kernel
theorem dX12_whose_7 : decode cX12_whose 7 = .ok (.putfield 60, 3) := by decide +kernel
theorem dX12_whose_10 : decode cX12_whose 10 = .ok (.iload_n 1, 1) := by decide +kernel
theorem dX12_whose_11 : decode cX12_whose 11 = .ok (.i2l, 1) := by decide +kernel
theorem dX12_whose_12 : decode cX12_whose 12 = .ok (.lconst 0, 1) := by decide +kernel
theorem dX12_whose_13 : decode cX12_whose 13 = .ok (.aload_n 0, 1) := by decide +kernel
theorem dX12_whose_14 : decode cX12_whose 14 = .ok (.getfield 35, 3) := by decide +kernel
theorem dX12_whose_17 : decode cX12_whose 17 = .ok (.iconst 4, 1) := by decide +kernel
theorem dX12_whose_18 : decode cX12_whose 18 = .ok (.iaload, 1) := by decide +kernel
theorem dX12_whose_19 : decode cX12_whose 19 = .ok (.i2l, 1) := by decide +kernel
theorem dX12_whose_20 : decode cX12_whose 20 = .ok (.invokestatic 92, 3) := by decide +kernel
theorem dX12_whose_23 : decode cX12_whose 23 = .ok (.ifCond .ne 9, 3) := by decide +kernel
theorem dX12_whose_26 : decode cX12_whose 26 = .ok (.aload_n 0, 1) := by decide +kernel
theorem dX12_whose_27 : decode cX12_whose 27 = .ok (.iconst 5, 1) := by decide +kernel
theorem dX12_whose_28 : decode cX12_whose 28 = .ok (.invokevirtual 72, 3) := by decide +kernel
theorem dX12_whose_31 : decode cX12_whose 31 = .ok (.ireturn, 1) := by decide +kernel
theorem dX12_whose_32 : decode cX12_whose 32 = .ok (.aload_n 0, 1) := by decide +kernel
theorem dX12_whose_33 : decode cX12_whose 33 = .ok (.getfield 35, 3) := by decide +kernel
theorem dX12_whose_36 : decode cX12_whose 36 = .ok (.iconst 5, 1) := by decide +kernel
theorem dX12_whose_37 : decode cX12_whose 37 = .ok (.iaload, 1) := by decide +kernel
theorem dX12_whose_38 : decode cX12_whose 38 = .ok (.i2l, 1) := by decide +kernel
theorem dX12_whose_39 : decode cX12_whose 39 = .ok (.lstore_n 2, 1) := by decide +kernel
theorem dX12_whose_40 : decode cX12_whose 40 = .ok (.bipush 16, 2) := by decide +kernel
theorem dX12_whose_42 : decode cX12_whose 42 = .ok (.aload_n 0, 1) := by decide +kernel
theorem dX12_whose_43 : decode cX12_whose 43 = .ok (.getfield 35, 3) := by decide +kernel
theorem dX12_whose_46 : decode cX12_whose 46 = .ok (.iconst 5, 1) := by decide +kernel
theorem dX12_whose_47 : decode cX12_whose 47 = .ok (.iaload, 1) := by decide +kernel
theorem dX12_whose_48 : decode cX12_whose 48 = .ok (.isub, 1) := by decide +kernel
theorem dX12_whose_49 : decode cX12_whose 49 = .ok (.i2l, 1) := by decide +kernel
theorem dX12_whose_50 : decode cX12_whose 50 = .ok (.lstore 4, 2) := by decide +kernel
theorem dX12_whose_52 : decode cX12_whose 52 = .ok (.iconst 0, 1) := by decide +kernel
theorem dX12_whose_53 : decode cX12_whose 53 = .ok (.istore 6, 2) := by decide +kernel
theorem dX12_whose_55 : decode cX12_whose 55 = .ok (.iload 6, 2) := by decide +kernel
theorem dX12_whose_57 : decode cX12_whose 57 = .ok (.iload_n 1, 1) := by decide +kernel
theorem dX12_whose_58 : decode cX12_whose 58 = .ok (.if_icmp .ge 39, 3) := by decide +kernel
theorem dX12_whose_61 : decode cX12_whose 61 = .ok (.lload_n 2, 1) := by decide +kernel
theorem dX12_whose_62 : decode cX12_whose 62 = .ok (.aload_n 0, 1) := by decide +kernel
theorem dX12_whose_63 : decode cX12_whose 63 = .ok (.getfield 35, 3) := by decide +kernel
theorem dX12_whose_66 : decode cX12_whose 66 = .ok (.bipush 91, 2) := by decide +kernel
theorem dX12_whose_68 : decode cX12_whose 68 = .ok (.iload 6, 2) := by decide +kernel
theorem dX12_whose_70 : decode cX12_whose 70 = .ok (.iadd, 1) := by decide +kernel
theorem dX12_whose_71 : decode cX12_whose 71 = .ok (.iaload, 1) := by decide +kernel
theorem dX12_whose_72 : decode cX12_whose 72 = .ok (.i2l, 1) := by decide +kernel
theorem dX12_whose_73 : decode cX12_whose 73 = .ok (.lmul, 1) := by decide +kernel
theorem dX12_whose_74 : decode cX12_whose 74 = .ok (.lstore_n 2, 1) := by decide +kernel
theorem dX12_whose_75 : decode cX12_whose 75 = .ok (.lload 4, 2) := by decide +kernel
theorem dX12_whose_77 : decode cX12_whose 77 = .ok (.aload_n 0, 1) := by decide +kernel
theorem dX12_whose_78 : decode cX12_whose 78 = .ok (.getfield 35, 3) := by decide +kernel
theorem dX12_whose_81 : decode cX12_whose 81 = .ok (.bipush 97, 2) := by decide +kernel
theorem dX12_whose_83 : decode cX12_whose 83 = .ok (.iload 6, 2) := by decide +kernel
theorem dX12_whose_85 : decode cX12_whose 85 = .ok (.iadd, 1) := by decide +kernel
theorem dX12_whose_86 : decode cX12_whose 86 = .ok (.iaload, 1) := by decide +kernel
theorem dX12_whose_87 : decode cX12_whose 87 = .ok (.i2l, 1) := by decide +kernel
theorem dX12_whose_88 : decode cX12_whose 88 = .ok (.lmul, 1) := by decide +kernel
theorem dX12_whose_89 : decode cX12_whose 89 = .ok (.lstore 4, 2) := by decide +kernel
theorem dX12_whose_91 : decode cX12_whose 91 = .ok (.iinc 6 1, 3) := by decide +kernel
theorem dX12_whose_94 : decode cX12_whose 94 = .ok (.goto (-39), 3) := by decide +kernel
theorem dX12_whose_97 : decode cX12_whose 97 = .ok (.lload_n 2, 1) := by decide +kernel
theorem dX12_whose_98 : decode cX12_whose 98 = .ok (.lload 4, 2) := by decide +kernel
theorem dX12_whose_100 : decode cX12_whose 100 = .ok (.ladd, 1) := by decide +kernel
theorem dX12_whose_101 : decode cX12_whose 101 = .ok (.lconst 0, 1) := by decide +kernel
theorem dX12_whose_102 : decode cX12_whose 102 = .ok (.lcmp, 1) := by decide +kernel
theorem dX12_whose_103 : decode cX12_whose 103 = .ok (.ifCond .ne 12, 3) := by decide +kernel
theorem dX12_whose_106 : decode cX12_whose 106 = .ok (.aload_n 0, 1) := by decide +kernel
theorem dX12_whose_107 : decode cX12_whose 107 = .ok (.bipush 8, 2) := by decide +kernel
theorem dX12_whose_109 : decode cX12_whose 109 = .ok (.invokevirtual 72, 3) := by decide +kernel
theorem dX12_whose_112 : decode cX12_whose 112 = .ok (.goto 12, 3) := by decide +kernel
theorem dX12_whose_115 : decode cX12_whose 115 = .ok (.aload_n 0, 1) := by decide +kernel
theorem dX12_whose_116 : decode cX12_whose 116 = .ok (.lload_n 2, 1) := by decide +kernel
theorem dX12_whose_117 : decode cX12_whose 117 = .ok (.lload_n 2, 1) := by decide +kernel
theorem dX12_whose_118 : decode cX12_whose 118 = .ok (.lload 4, 2) := by decide +kernel
theorem dX12_whose_120 : decode cX12_whose 120 = .ok (.ladd, 1) := by decide +kernel
theorem dX12_whose_121 : decode cX12_whose 121 = .ok (.invokevirtual 468, 3) := by decide +kernel
theorem dX12_whose_124 : decode cX12_whose 124 = .ok (.ireturn, 1) := by decide +kernel
def L_X12_whose (w : Nat) : Nat → z_Mem → Int32 → Int64 → Int64 → Int32 → Option (Bool × z_Mem)
  | 0, _, _, _, _, _ => none
  | c + 1, M, x1, x2, x4, x6 =>
    if x1 ≤ x6 then
    if (lg_cmp (x2 + x4) (0 : Int64)) = (0 : Int32) then
    (F_X12_no w M (8 : Int32)).bind fun q5 =>
    some (q5.1, q5.2)
    else
    (F_X12_fraction w M x2 (x2 + x4)).bind fun q3 =>
    some (q3.1, q3.2)
    else
    if ((91 : Int32) + x6) < 0 ∨ 1875 ≤ ((91 : Int32) + x6).toNatClampNeg then none else
    if ((97 : Int32) + x6) < 0 ∨ 1875 ≤ ((97 : Int32) + x6).toNatClampNeg then none else
    L_X12_whose w c M x1 (x2 * ((M.1 142 ((91 : Int32) + x6).toNatClampNeg).toInt64)) (x4 * ((M.1 142 ((97 : Int32) + x6).toNatClampNeg).toInt64)) (x6 + (1 : Int32))
set_option maxHeartbeats 4000000 in
theorem AL_X12_whose {w : Nat} : ∀ (c : Nat), (∀ (M : z_Mem) (x1 : Int32) (x2 : Int64) (x4 : Int64) (x6 : Int32) (r : Bool) (M' : z_Mem) (Q : Option Value → z_Mem → Prop), L_X12_whose w c M x1 x2 x4 x6 = some (r, M') → Q (some (.int (z_tb r))) M' → z_G none 1 mX12_whose 55 [some (.ref 139), some (.int x1), some (.long x2), none, some (.long x4), none, some (.int x6)] [] M Q) := by
  intro c
  induction c with
  | zero => exact (fun M x1 x2 x4 x6 r M' Q h hq => by rw [L_X12_whose] at h; cases h)
  | succ c ih =>
    intro M x1 x2 x4 x6 r M' Q h hq
    rw [L_X12_whose] at h
    refine g_iload dX12_whose_55 rfl ?_
    refine g_iload_n dX12_whose_57 rfl rfl ?_
    refine g_ic_ge (t := 97) dX12_whose_58 (by decide) (fun c1 => ?_) (fun c1 => ?_)
    · replace h := z_ift c1 h
      refine g_lload_n dX12_whose_97 rfl rfl ?_
      refine g_lload dX12_whose_98 rfl ?_
      refine g_ladd dX12_whose_100 ?_
      refine g_lconst (v := (0 : Int64)) dX12_whose_101 (by decide) ?_
      refine g_lcmp dX12_whose_102 ?_
      refine g_if_ne (t := 115) dX12_whose_103 (by decide) (fun c2 => ?_) (fun c2 => ?_)
      · replace h := z_iff c2 h
        refine g_aload_n dX12_whose_115 rfl rfl ?_
        refine g_lload_n dX12_whose_116 rfl rfl ?_
        refine g_lload_n dX12_whose_117 rfl rfl ?_
        refine g_lload dX12_whose_118 rfl ?_
        refine g_ladd dX12_whose_120 ?_
        obtain ⟨q3, e4, h⟩ := z_bd h
        refine g_callV (a := 137) (as := [.long x2, .long (x2 + x4)]) (rest := []) (c := mX12_fraction) (k1 := 0) dX12_whose_121 rfl rfl rfl sh_137 rfl rfl (Nat.le_of_ble_eq_true rfl) (Nat.le_of_ble_eq_true rfl) (by decide) ?_
        refine A_X12_fraction e4 ?_
        show z_G none 1 mX12_whose 124 [some (.ref 139), some (.int x1), some (.long x2), none, some (.long x4), none, some (.int x6)] [.int (z_tb q3.1)] q3.2 Q
        cases h
        exact g_iret dX12_whose_124 rfl nb_tb hq
      · replace h := z_ift c2 h
        refine g_aload_n dX12_whose_106 rfl rfl ?_
        refine g_bipush (v := (8 : Int32)) dX12_whose_107 (by decide) ?_
        obtain ⟨q5, e6, h⟩ := z_bd h
        refine g_callV (a := 137) (as := [.int (8 : Int32)]) (rest := []) (c := mX12_no) (k1 := 0) dX12_whose_109 rfl rfl rfl sh_137 rfl rfl (Nat.le_of_ble_eq_true rfl) (Nat.le_of_ble_eq_true rfl) (by decide) ?_
        refine A_X12_no e6 ?_
        show z_G none 1 mX12_whose 112 [some (.ref 139), some (.int x1), some (.long x2), none, some (.long x4), none, some (.int x6)] [.int (z_tb q5.1)] q5.2 Q
        refine g_goto (t := 124) dX12_whose_112 (by decide) ?_
        cases h
        exact g_iret dX12_whose_124 rfl nb_tb hq
    · replace h := z_iff c1 h
      refine g_lload_n dX12_whose_61 rfl rfl ?_
      refine g_aload_n dX12_whose_62 rfl rfl ?_
      refine g_get (a := 137) (v := .ref 144) dX12_whose_63 f_12_35 sh_137 rfl rfl ?_
      refine g_bipush (v := (91 : Int32)) dX12_whose_66 (by decide) ?_
      refine g_iload dX12_whose_68 rfl ?_
      refine g_iadd dX12_whose_70 ?_
      by_cases g7 : ((91 : Int32) + x6) < 0 ∨ 1875 ≤ ((91 : Int32) + x6).toNatClampNeg
      · rw [if_pos g7] at h; cases h
      replace h := z_iff g7 h
      refine g_iald (a := 142) dX12_whose_71 sh_142 g7 ?_
      refine g_i2l dX12_whose_72 ?_
      refine g_lmul dX12_whose_73 ?_
      refine g_lstore_n (ls' := [some (.ref 139), some (.int x1), some (.long (x2 * ((M.1 142 ((91 : Int32) + x6).toNatClampNeg).toInt64))), none, some (.long x4), none, some (.int x6)]) dX12_whose_74 rfl (Nat.le_of_ble_eq_true rfl) rfl ?_
      refine g_lload dX12_whose_75 rfl ?_
      refine g_aload_n dX12_whose_77 rfl rfl ?_
      refine g_get (a := 137) (v := .ref 144) dX12_whose_78 f_12_35 sh_137 rfl rfl ?_
      refine g_bipush (v := (97 : Int32)) dX12_whose_81 (by decide) ?_
      refine g_iload dX12_whose_83 rfl ?_
      refine g_iadd dX12_whose_85 ?_
      by_cases g8 : ((97 : Int32) + x6) < 0 ∨ 1875 ≤ ((97 : Int32) + x6).toNatClampNeg
      · rw [if_pos g8] at h; cases h
      replace h := z_iff g8 h
      refine g_iald (a := 142) dX12_whose_86 sh_142 g8 ?_
      refine g_i2l dX12_whose_87 ?_
      refine g_lmul dX12_whose_88 ?_
      refine g_lstore (ls' := [some (.ref 139), some (.int x1), some (.long (x2 * ((M.1 142 ((91 : Int32) + x6).toNatClampNeg).toInt64))), none, some (.long (x4 * ((M.1 142 ((97 : Int32) + x6).toNatClampNeg).toInt64))), none, some (.int x6)]) dX12_whose_89 (Nat.le_of_ble_eq_true rfl) rfl ?_
      refine g_iinc (v := x6 + (1 : Int32)) (ls' := [some (.ref 139), some (.int x1), some (.long (x2 * ((M.1 142 ((91 : Int32) + x6).toNatClampNeg).toInt64))), none, some (.long (x4 * ((M.1 142 ((97 : Int32) + x6).toNatClampNeg).toInt64))), none, some (.int (x6 + (1 : Int32)))]) dX12_whose_91 rfl rfl rfl ?_
      refine g_goto (t := 55) dX12_whose_94 (by decide) ?_
      exact g_sub (z_sub_s (z_sub_s (z_sub_s (z_sub_n (z_sub_s (z_sub_n (z_sub_s z_sub_nil))))))) (ih _ _ _ _ _ _ _ _ h hq)
def F_X12_whose (w : Nat) (M : z_Mem) (a1 : Int32) : Option (Bool × z_Mem) :=
  (F_X12_isIn w (z_wI (z_wI M 137 1 (0 : Int32)) 137 0 (0 : Int32)) a1.toInt64 (0 : Int64) ((M.1 142 4).toInt64)).bind fun q9 =>
  if q9.1 = true then
  L_X12_whose w w q9.2 a1 ((q9.2.1 142 5).toInt64) (((16 : Int32) - (q9.2.1 142 5)).toInt64) (0 : Int32)
  else
  (F_X12_no w q9.2 (5 : Int32)).bind fun q12 =>
  some (q12.1, q12.2)
set_option maxHeartbeats 4000000 in
theorem A_X12_whose {w : Nat} {M : z_Mem} {a1 : Int32} {r : Bool} {M' : z_Mem} {Q : Option Value → z_Mem → Prop} (h : F_X12_whose w M a1 = some (r, M')) (hq : Q (some (.int (z_tb r))) M') : z_Cl 1 mX12_whose [.ref 139, .int a1] M Q := by
  refine g_in (ls := [some (.ref 139), some (.int a1), none, none, none, none, none]) rfl ?_
  unfold F_X12_whose at h
  refine g_aload_n dX12_whose_0 rfl rfl ?_
  refine g_iconst (v := (0 : Int32)) dX12_whose_1 (by decide) ?_
  refine g_putI (a := 137) dX12_whose_2 f_12_57 sh_137 rfl rfl rfl ?_
  refine g_aload_n dX12_whose_5 rfl rfl ?_
  refine g_iconst (v := (0 : Int32)) dX12_whose_6 (by decide) ?_
  refine g_putI (a := 137) dX12_whose_7 f_12_60 sh_137 rfl rfl rfl ?_
  refine g_iload_n dX12_whose_10 rfl rfl ?_
  refine g_i2l dX12_whose_11 ?_
  refine g_lconst (v := (0 : Int64)) dX12_whose_12 (by decide) ?_
  refine g_aload_n dX12_whose_13 rfl rfl ?_
  refine g_get (a := 137) (v := .ref 144) dX12_whose_14 f_12_35 sh_137 rfl rfl ?_
  refine g_iconst (v := (4 : Int32)) dX12_whose_17 (by decide) ?_
  refine g_ialN (a := 142) (j := 4) (v := M.1 142 4) dX12_whose_18 sh_142 rfl (by decide) (by simp [z_wI, z_wL, z_wLs, upd, vp_updL]) ?_
  refine g_i2l dX12_whose_19 ?_
  obtain ⟨q9, e10, h⟩ := z_bd h
  refine g_callS (as := [.long a1.toInt64, .long (0 : Int64), .long ((M.1 142 4).toInt64)]) (rest := []) (c := mX12_isIn) (k1 := 0) dX12_whose_20 rfl rfl rfl rfl rfl (Nat.le_of_ble_eq_true rfl) (Nat.le_of_ble_eq_true rfl) (by decide) ?_
  refine A_X12_isIn e10 ?_
  show z_G none 1 mX12_whose 23 [some (.ref 139), some (.int a1), none, none, none, none, none] [.int (z_tb q9.1)] q9.2 Q
  refine g_if_ne (t := 32) dX12_whose_23 (by decide) (fun c11 => ?_) (fun c11 => ?_)
  · replace h := z_ift (z_tbn.mp c11) h
    refine g_aload_n dX12_whose_32 rfl rfl ?_
    refine g_get (a := 137) (v := .ref 144) dX12_whose_33 f_12_35 sh_137 rfl rfl ?_
    refine g_iconst (v := (5 : Int32)) dX12_whose_36 (by decide) ?_
    refine g_ialN (a := 142) (j := 5) (v := q9.2.1 142 5) dX12_whose_37 sh_142 rfl (by decide) rfl ?_
    refine g_i2l dX12_whose_38 ?_
    refine g_lstore_n (ls' := [some (.ref 139), some (.int a1), some (.long ((q9.2.1 142 5).toInt64)), none, none, none, none]) dX12_whose_39 rfl (Nat.le_of_ble_eq_true rfl) rfl ?_
    refine g_bipush (v := (16 : Int32)) dX12_whose_40 (by decide) ?_
    refine g_aload_n dX12_whose_42 rfl rfl ?_
    refine g_get (a := 137) (v := .ref 144) dX12_whose_43 f_12_35 sh_137 rfl rfl ?_
    refine g_iconst (v := (5 : Int32)) dX12_whose_46 (by decide) ?_
    refine g_ialN (a := 142) (j := 5) (v := q9.2.1 142 5) dX12_whose_47 sh_142 rfl (by decide) rfl ?_
    refine g_isub dX12_whose_48 ?_
    refine g_i2l dX12_whose_49 ?_
    refine g_lstore (ls' := [some (.ref 139), some (.int a1), some (.long ((q9.2.1 142 5).toInt64)), none, some (.long (((16 : Int32) - (q9.2.1 142 5)).toInt64)), none, none]) dX12_whose_50 (Nat.le_of_ble_eq_true rfl) rfl ?_
    refine g_iconst (v := (0 : Int32)) dX12_whose_52 (by decide) ?_
    refine g_istore (ls' := [some (.ref 139), some (.int a1), some (.long ((q9.2.1 142 5).toInt64)), none, some (.long (((16 : Int32) - (q9.2.1 142 5)).toInt64)), none, some (.int (0 : Int32))]) dX12_whose_53 (Nat.le_of_ble_eq_true rfl) rfl ?_
    exact g_sub (z_sub_s (z_sub_s (z_sub_s (z_sub_n (z_sub_s (z_sub_n (z_sub_s z_sub_nil))))))) ((AL_X12_whose (w := w) w) _ _ _ _ _ _ _ _ h hq)
  · replace h := z_iff (z_tb0.mp c11) h
    refine g_aload_n dX12_whose_26 rfl rfl ?_
    refine g_iconst (v := (5 : Int32)) dX12_whose_27 (by decide) ?_
    obtain ⟨q12, e13, h⟩ := z_bd h
    refine g_callV (a := 137) (as := [.int (5 : Int32)]) (rest := []) (c := mX12_no) (k1 := 0) dX12_whose_28 rfl rfl rfl sh_137 rfl rfl (Nat.le_of_ble_eq_true rfl) (Nat.le_of_ble_eq_true rfl) (by decide) ?_
    refine A_X12_no e13 ?_
    show z_G none 1 mX12_whose 31 [some (.ref 139), some (.int a1), none, none, none, none, none] [.int (z_tb q12.1)] q12.2 Q
    cases h
    exact g_iret dX12_whose_31 rfl nb_tb hq
theorem dX12_share_0 : decode cX12_share 0 = .ok (.aload_n 0, 1) := by decide +kernel
theorem dX12_share_1 : decode cX12_share 1 = .ok (.iconst 0, 1) := by decide +kernel
theorem dX12_share_2 : decode cX12_share 2 = .ok (.putfield 57, 3) := by decide +kernel
theorem dX12_share_5 : decode cX12_share 5 = .ok (.aload_n 0, 1) := by decide +kernel
theorem dX12_share_6 : decode cX12_share 6 = .ok (.iconst 0, 1) := by decide +kernel
theorem dX12_share_7 : decode cX12_share 7 = .ok (.putfield 60, 3) := by decide +kernel
theorem dX12_share_10 : decode cX12_share 10 = .ok (.iload_n 1, 1) := by decide +kernel
theorem dX12_share_11 : decode cX12_share 11 = .ok (.invokestatic 336, 3) := by decide +kernel
theorem dX12_share_14 : decode cX12_share 14 = .ok (.ifCond .ne 9, 3) := by decide +kernel
theorem dX12_share_17 : decode cX12_share 17 = .ok (.aload_n 0, 1) := by decide +kernel
theorem dX12_share_18 : decode cX12_share 18 = .ok (.iconst 2, 1) := by decide +kernel
theorem dX12_share_19 : decode cX12_share 19 = .ok (.invokevirtual 72, 3) := by decide +kernel
theorem dX12_share_22 : decode cX12_share 22 = .ok (.ireturn, 1) := by decide +kernel
theorem dX12_share_23 : decode cX12_share 23 = .ok (.aload_n 0, 1) := by decide +kernel
theorem dX12_share_24 : decode cX12_share 24 = .ok (.invokevirtual 384, 3) := by decide +kernel
theorem dX12_share_27 : decode cX12_share 27 = .ok (.ifCond .ne 12, 3) := by decide +kernel
theorem dX12_share_30 : decode cX12_share 30 = .ok (.aload_n 0, 1) := by decide +kernel
theorem dX12_share_31 : decode cX12_share 31 = .ok (.bipush 8, 2) := by decide +kernel
theorem dX12_share_33 : decode cX12_share 33 = .ok (.invokevirtual 72, 3) := by decide +kernel
theorem dX12_share_36 : decode cX12_share 36 = .ok (.goto 22, 3) := by decide +kernel
theorem dX12_share_39 : decode cX12_share 39 = .ok (.aload_n 0, 1) := by decide +kernel
theorem dX12_share_40 : decode cX12_share 40 = .ok (.aload_n 0, 1) := by decide +kernel
theorem dX12_share_41 : decode cX12_share 41 = .ok (.getfield 35, 3) := by decide +kernel
theorem dX12_share_44 : decode cX12_share 44 = .ok (.bipush 12, 2) := by decide +kernel
theorem dX12_share_46 : decode cX12_share 46 = .ok (.iload_n 1, 1) := by decide +kernel
theorem dX12_share_47 : decode cX12_share 47 = .ok (.iadd, 1) := by decide +kernel
theorem dX12_share_48 : decode cX12_share 48 = .ok (.iaload, 1) := by decide +kernel
theorem dX12_share_49 : decode cX12_share 49 = .ok (.i2l, 1) := by decide +kernel
theorem dX12_share_50 : decode cX12_share 50 = .ok (.aload_n 0, 1) := by decide +kernel
theorem dX12_share_51 : decode cX12_share 51 = .ok (.invokevirtual 384, 3) := by decide +kernel
theorem dX12_share_54 : decode cX12_share 54 = .ok (.i2l, 1) := by decide +kernel
theorem dX12_share_55 : decode cX12_share 55 = .ok (.invokevirtual 468, 3) := by decide +kernel
theorem dX12_share_58 : decode cX12_share 58 = .ok (.ireturn, 1) := by decide +kernel
def F_X12_share (w : Nat) (M : z_Mem) (a1 : Int32) : Option (Bool × z_Mem) :=
  (F_X12_isSideAt w (z_wI (z_wI M 137 1 (0 : Int32)) 137 0 (0 : Int32)) a1).bind fun q1 =>
  if q1.1 = true then
  (F_X12_bothChests w q1.2).bind fun q4 =>
  if q4.1 = (0 : Int32) then
  (F_X12_no w q4.2 (8 : Int32)).bind fun q12 =>
  some (q12.1, q12.2)
  else
  if ((12 : Int32) + a1) < 0 ∨ 1875 ≤ ((12 : Int32) + a1).toNatClampNeg then none else
  (F_X12_bothChests w q4.2).bind fun q8 =>
  (F_X12_fraction w q8.2 ((q4.2.1 142 ((12 : Int32) + a1).toNatClampNeg).toInt64) q8.1.toInt64).bind fun q10 =>
  some (q10.1, q10.2)
  else
  (F_X12_no w q1.2 (2 : Int32)).bind fun q14 =>
  some (q14.1, q14.2)
set_option maxHeartbeats 4000000 in
theorem A_X12_share {w : Nat} {M : z_Mem} {a1 : Int32} {r : Bool} {M' : z_Mem} {Q : Option Value → z_Mem → Prop} (h : F_X12_share w M a1 = some (r, M')) (hq : Q (some (.int (z_tb r))) M') : z_Cl 1 mX12_share [.ref 139, .int a1] M Q := by
  refine g_in (ls := [some (.ref 139), some (.int a1)]) rfl ?_
  unfold F_X12_share at h
  refine g_aload_n dX12_share_0 rfl rfl ?_
  refine g_iconst (v := (0 : Int32)) dX12_share_1 (by decide) ?_
  refine g_putI (a := 137) dX12_share_2 f_12_57 sh_137 rfl rfl rfl ?_
  refine g_aload_n dX12_share_5 rfl rfl ?_
  refine g_iconst (v := (0 : Int32)) dX12_share_6 (by decide) ?_
  refine g_putI (a := 137) dX12_share_7 f_12_60 sh_137 rfl rfl rfl ?_
  refine g_iload_n dX12_share_10 rfl rfl ?_
  obtain ⟨q1, e2, h⟩ := z_bd h
  refine g_callS (as := [.int a1]) (rest := []) (c := mX12_isSideAt) (k1 := 0) dX12_share_11 rfl rfl rfl rfl rfl (Nat.le_of_ble_eq_true rfl) (Nat.le_of_ble_eq_true rfl) (by decide) ?_
  refine A_X12_isSideAt e2 ?_
  show z_G none 1 mX12_share 14 [some (.ref 139), some (.int a1)] [.int (z_tb q1.1)] q1.2 Q
  refine g_if_ne (t := 23) dX12_share_14 (by decide) (fun c3 => ?_) (fun c3 => ?_)
  · replace h := z_ift (z_tbn.mp c3) h
    refine g_aload_n dX12_share_23 rfl rfl ?_
    obtain ⟨q4, e5, h⟩ := z_bd h
    refine g_callV (a := 137) (as := []) (rest := []) (c := mX12_bothChests) (k1 := 0) dX12_share_24 rfl rfl rfl sh_137 rfl rfl (Nat.le_of_ble_eq_true rfl) (Nat.le_of_ble_eq_true rfl) (by decide) ?_
    refine A_X12_bothChests e5 ?_
    show z_G none 1 mX12_share 27 [some (.ref 139), some (.int a1)] [.int q4.1] q4.2 Q
    refine g_if_ne (t := 39) dX12_share_27 (by decide) (fun c6 => ?_) (fun c6 => ?_)
    · replace h := z_iff c6 h
      refine g_aload_n dX12_share_39 rfl rfl ?_
      refine g_aload_n dX12_share_40 rfl rfl ?_
      refine g_get (a := 137) (v := .ref 144) dX12_share_41 f_12_35 sh_137 rfl rfl ?_
      refine g_bipush (v := (12 : Int32)) dX12_share_44 (by decide) ?_
      refine g_iload_n dX12_share_46 rfl rfl ?_
      refine g_iadd dX12_share_47 ?_
      by_cases g7 : ((12 : Int32) + a1) < 0 ∨ 1875 ≤ ((12 : Int32) + a1).toNatClampNeg
      · rw [if_pos g7] at h; cases h
      replace h := z_iff g7 h
      refine g_iald (a := 142) dX12_share_48 sh_142 g7 ?_
      refine g_i2l dX12_share_49 ?_
      refine g_aload_n dX12_share_50 rfl rfl ?_
      obtain ⟨q8, e9, h⟩ := z_bd h
      refine g_callV (a := 137) (as := []) (rest := [.long ((q4.2.1 142 ((12 : Int32) + a1).toNatClampNeg).toInt64), .ref 139]) (c := mX12_bothChests) (k1 := 0) dX12_share_51 rfl rfl rfl sh_137 rfl rfl (Nat.le_of_ble_eq_true rfl) (Nat.le_of_ble_eq_true rfl) (by decide) ?_
      refine A_X12_bothChests e9 ?_
      show z_G none 1 mX12_share 54 [some (.ref 139), some (.int a1)] [.int q8.1, .long ((q4.2.1 142 ((12 : Int32) + a1).toNatClampNeg).toInt64), .ref 139] q8.2 Q
      refine g_i2l dX12_share_54 ?_
      obtain ⟨q10, e11, h⟩ := z_bd h
      refine g_callV (a := 137) (as := [.long ((q4.2.1 142 ((12 : Int32) + a1).toNatClampNeg).toInt64), .long q8.1.toInt64]) (rest := []) (c := mX12_fraction) (k1 := 0) dX12_share_55 rfl rfl rfl sh_137 rfl rfl (Nat.le_of_ble_eq_true rfl) (Nat.le_of_ble_eq_true rfl) (by decide) ?_
      refine A_X12_fraction e11 ?_
      show z_G none 1 mX12_share 58 [some (.ref 139), some (.int a1)] [.int (z_tb q10.1)] q10.2 Q
      cases h
      exact g_iret dX12_share_58 rfl nb_tb hq
    · replace h := z_ift c6 h
      refine g_aload_n dX12_share_30 rfl rfl ?_
      refine g_bipush (v := (8 : Int32)) dX12_share_31 (by decide) ?_
      obtain ⟨q12, e13, h⟩ := z_bd h
      refine g_callV (a := 137) (as := [.int (8 : Int32)]) (rest := []) (c := mX12_no) (k1 := 0) dX12_share_33 rfl rfl rfl sh_137 rfl rfl (Nat.le_of_ble_eq_true rfl) (Nat.le_of_ble_eq_true rfl) (by decide) ?_
      refine A_X12_no e13 ?_
      show z_G none 1 mX12_share 36 [some (.ref 139), some (.int a1)] [.int (z_tb q12.1)] q12.2 Q
      refine g_goto (t := 58) dX12_share_36 (by decide) ?_
      cases h
      exact g_iret dX12_share_58 rfl nb_tb hq
  · replace h := z_iff (z_tb0.mp c3) h
    refine g_aload_n dX12_share_17 rfl rfl ?_
    refine g_iconst (v := (2 : Int32)) dX12_share_18 (by decide) ?_
    obtain ⟨q14, e15, h⟩ := z_bd h
    refine g_callV (a := 137) (as := [.int (2 : Int32)]) (rest := []) (c := mX12_no) (k1 := 0) dX12_share_19 rfl rfl rfl sh_137 rfl rfl (Nat.le_of_ble_eq_true rfl) (Nat.le_of_ble_eq_true rfl) (by decide) ?_
    refine A_X12_no e15 ?_
    show z_G none 1 mX12_share 22 [some (.ref 139), some (.int a1)] [.int (z_tb q14.1)] q14.2 Q
    cases h
    exact g_iret dX12_share_22 rfl nb_tb hq
theorem dX12_draw_0 : decode cX12_draw 0 = .ok (.aload_n 0, 1) := by decide +kernel
theorem dX12_draw_1 : decode cX12_draw 1 = .ok (.aload_n 0, 1) := by decide +kernel
theorem dX12_draw_2 : decode cX12_draw 2 = .ok (.getfield 472, 3) := by decide +kernel
theorem dX12_draw_5 : decode cX12_draw 5 = .ok (.sipush 2971, 3) := by decide +kernel
theorem dX12_draw_8 : decode cX12_draw 8 = .ok (.imul, 1) := by decide +kernel
theorem dX12_draw_9 : decode cX12_draw 9 = .ok (.sipush 10939, 3) := by decide +kernel
theorem dX12_draw_12 : decode cX12_draw 12 = .ok (.iadd, 1) := by decide +kernel
theorem dX12_draw_13 : decode cX12_draw 13 = .ok (.ldc_w 475, 3) := by decide +kernel
theorem dX12_draw_16 : decode cX12_draw 16 = .ok (.irem, 1) := by decide +kernel
theorem dX12_draw_17 : decode cX12_draw 17 = .ok (.putfield 472, 3) := by decide +kernel
theorem dX12_draw_20 : decode cX12_draw 20 = .ok (.aload_n 0, 1) := by decide +kernel
theorem dX12_draw_21 : decode cX12_draw 21 = .ok (.getfield 472, 3) := by decide +kernel
theorem dX12_draw_24 : decode cX12_draw 24 = .ok (.bipush 8, 2) := by decide +kernel
theorem dX12_draw_26 : decode cX12_draw 26 = .ok (.idiv, 1) := by decide +kernel
theorem dX12_draw_27 : decode cX12_draw 27 = .ok (.iload_n 1, 1) := by decide +kernel
theorem dX12_draw_28 : decode cX12_draw 28 = .ok (.irem, 1) := by decide +kernel
theorem dX12_draw_29 : decode cX12_draw 29 = .ok (.ireturn, 1) := by decide +kernel
def F_X12_draw (w : Nat) (M : z_Mem) (a1 : Int32) : Option (Int32 × z_Mem) :=
  if a1 = 0 then none else
  some ((((((M.1 137 32) * (2971 : Int32)) + (10939 : Int32)) - (((M.1 137 32) * (2971 : Int32)) + (10939 : Int32)) / (65536 : Int32) * (65536 : Int32)) / (8 : Int32)) - (((((M.1 137 32) * (2971 : Int32)) + (10939 : Int32)) - (((M.1 137 32) * (2971 : Int32)) + (10939 : Int32)) / (65536 : Int32) * (65536 : Int32)) / (8 : Int32)) / a1 * a1, (z_wI M 137 32 ((((M.1 137 32) * (2971 : Int32)) + (10939 : Int32)) - (((M.1 137 32) * (2971 : Int32)) + (10939 : Int32)) / (65536 : Int32) * (65536 : Int32))))
set_option maxHeartbeats 4000000 in
theorem A_X12_draw {w : Nat} {M : z_Mem} {a1 : Int32} {r : Int32} {M' : z_Mem} {Q : Option Value → z_Mem → Prop} (h : F_X12_draw w M a1 = some (r, M')) (hq : Q (some (.int r)) M') : z_Cl 0 mX12_draw [.ref 139, .int a1] M Q := by
  refine g_in (ls := [some (.ref 139), some (.int a1)]) rfl ?_
  unfold F_X12_draw at h
  refine g_aload_n dX12_draw_0 rfl rfl ?_
  refine g_aload_n dX12_draw_1 rfl rfl ?_
  refine g_get (a := 137) (v := .int (M.1 137 32)) dX12_draw_2 f_12_472 sh_137 rfl rfl ?_
  refine g_sipush (v := (2971 : Int32)) dX12_draw_5 (by decide) ?_
  refine g_imul dX12_draw_8 ?_
  refine g_sipush (v := (10939 : Int32)) dX12_draw_9 (by decide) ?_
  refine g_iadd dX12_draw_12 ?_
  refine g_ldc_w dX12_draw_13 rfl ?_
  refine g_irem dX12_draw_16 (by decide) ?_
  refine g_putI (a := 137) dX12_draw_17 f_12_472 sh_137 rfl rfl rfl ?_
  refine g_aload_n dX12_draw_20 rfl rfl ?_
  refine g_get (a := 137) (v := .int ((((M.1 137 32) * (2971 : Int32)) + (10939 : Int32)) - (((M.1 137 32) * (2971 : Int32)) + (10939 : Int32)) / (65536 : Int32) * (65536 : Int32))) dX12_draw_21 f_12_472 sh_137 rfl (by simp [z_fv, z_wI, z_wL, z_wLs, upd, vp_updL]) ?_
  refine g_bipush (v := (8 : Int32)) dX12_draw_24 (by decide) ?_
  refine g_idiv dX12_draw_26 (by decide) ?_
  refine g_iload_n dX12_draw_27 rfl rfl ?_
  by_cases g1 : a1 = 0
  · rw [if_pos g1] at h; cases h
  replace h := z_iff g1 h
  refine g_irem dX12_draw_28 g1 ?_
  cases h
  exact g_iret dX12_draw_29 rfl rfl hq
theorem dX12_pass_0 : decode cX12_pass 0 = .ok (.aload_n 0, 1) := by decide +kernel
theorem dX12_pass_1 : decode cX12_pass 1 = .ok (.getfield 35, 3) := by decide +kernel
theorem dX12_pass_4 : decode cX12_pass 4 = .ok (.bipush 9, 2) := by decide +kernel
theorem dX12_pass_6 : decode cX12_pass 6 = .ok (.iaload, 1) := by decide +kernel
theorem dX12_pass_7 : decode cX12_pass 7 = .ok (.iload_n 1, 1) := by decide +kernel
theorem dX12_pass_8 : decode cX12_pass 8 = .ok (.iadd, 1) := by decide +kernel
theorem dX12_pass_9 : decode cX12_pass 9 = .ok (.sipush 9999, 3) := by decide +kernel
theorem dX12_pass_12 : decode cX12_pass 12 = .ok (.if_icmp .le 5, 3) := by decide +kernel
theorem dX12_pass_15 : decode cX12_pass 15 = .ok (.iconst 0, 1) := by decide +kernel
theorem dX12_pass_16 : decode cX12_pass 16 = .ok (.ireturn, 1) := by decide +kernel
theorem dX12_pass_17 : decode cX12_pass 17 = .ok (.iconst 0, 1) := by decide +kernel
theorem dX12_pass_18 : decode cX12_pass 18 = .ok (.istore_n 2, 1) := by decide +kernel
theorem dX12_pass_19 : decode cX12_pass 19 = .ok (.iload_n 2, 1) := by decide +kernel
theorem dX12_pass_20 : decode cX12_pass 20 = .ok (.iload_n 1, 1) := by decide +kernel
theorem dX12_pass_21 : decode cX12_pass 21 = .ok (.if_icmp .ge 13, 3) := by decide +kernel
theorem dX12_pass_24 : decode cX12_pass 24 = .ok (.aload_n 0, 1) := by decide +kernel
theorem dX12_pass_25 : decode cX12_pass 25 = .ok (.invokevirtual 381, 3) := by decide +kernel
theorem dX12_pass_28 : decode cX12_pass 28 = .ok (.iinc 2 1, 3) := by decide +kernel
theorem dX12_pass_31 : decode cX12_pass 31 = .ok (.goto (-12), 3) := by decide +kernel
theorem dX12_pass_34 : decode cX12_pass 34 = .ok (.iconst 1, 1) := by decide +kernel
theorem dX12_pass_35 : decode cX12_pass 35 = .ok (.ireturn, 1) := by decide +kernel
def L_X12_pass (w : Nat) : Nat → z_Mem → Int32 → Int32 → Option (Bool × z_Mem)
  | 0, _, _, _ => none
  | c + 1, M, x1, x2 =>
    if x1 ≤ x2 then
    some (true, M)
    else
    (F_X12_passes w M).bind fun q2 =>
    L_X12_pass w c q2.2 x1 (x2 + (1 : Int32))
set_option maxHeartbeats 4000000 in
theorem AL_X12_pass {w : Nat} : ∀ (c : Nat), (∀ (M : z_Mem) (x1 : Int32) (x2 : Int32) (r : Bool) (M' : z_Mem) (Q : Option Value → z_Mem → Prop), L_X12_pass w c M x1 x2 = some (r, M') → Q (some (.int (z_tb r))) M' → z_G none 4 mX12_pass 19 [some (.ref 139), some (.int x1), some (.int x2)] [] M Q) := by
  intro c
  induction c with
  | zero => exact (fun M x1 x2 r M' Q h hq => by rw [L_X12_pass] at h; cases h)
  | succ c ih =>
    intro M x1 x2 r M' Q h hq
    rw [L_X12_pass] at h
    refine g_iload_n dX12_pass_19 rfl rfl ?_
    refine g_iload_n dX12_pass_20 rfl rfl ?_
    refine g_ic_ge (t := 34) dX12_pass_21 (by decide) (fun c1 => ?_) (fun c1 => ?_)
    · replace h := z_ift c1 h
      refine g_iconst (v := (1 : Int32)) dX12_pass_34 (by decide) ?_
      cases h
      exact g_iret dX12_pass_35 rfl rfl hq
    · replace h := z_iff c1 h
      refine g_aload_n dX12_pass_24 rfl rfl ?_
      obtain ⟨q2, e3, h⟩ := z_bd h
      refine g_callV (a := 137) (as := []) (rest := []) (c := mX12_passes) (k1 := 3) dX12_pass_25 rfl rfl rfl sh_137 rfl rfl (Nat.le_of_ble_eq_true rfl) (Nat.le_of_ble_eq_true rfl) (by decide) ?_
      refine A_X12_passes e3 ?_
      show z_G none 4 mX12_pass 28 [some (.ref 139), some (.int x1), some (.int x2)] [] q2.2 Q
      refine g_iinc (v := x2 + (1 : Int32)) (ls' := [some (.ref 139), some (.int x1), some (.int (x2 + (1 : Int32)))]) dX12_pass_28 rfl rfl rfl ?_
      refine g_goto (t := 19) dX12_pass_31 (by decide) ?_
      exact g_sub (z_sub_s (z_sub_s (z_sub_s z_sub_nil))) (ih _ _ _ _ _ _ h hq)
def F_X12_pass (w : Nat) (M : z_Mem) (a1 : Int32) : Option (Bool × z_Mem) :=
  if ((M.1 142 9) + a1) ≤ (9999 : Int32) then
  L_X12_pass w w M a1 (0 : Int32)
  else
  some (false, M)
set_option maxHeartbeats 4000000 in
theorem A_X12_pass {w : Nat} {M : z_Mem} {a1 : Int32} {r : Bool} {M' : z_Mem} {Q : Option Value → z_Mem → Prop} (h : F_X12_pass w M a1 = some (r, M')) (hq : Q (some (.int (z_tb r))) M') : z_Cl 4 mX12_pass [.ref 139, .int a1] M Q := by
  refine g_in (ls := [some (.ref 139), some (.int a1), none]) rfl ?_
  unfold F_X12_pass at h
  refine g_aload_n dX12_pass_0 rfl rfl ?_
  refine g_get (a := 137) (v := .ref 144) dX12_pass_1 f_12_35 sh_137 rfl rfl ?_
  refine g_bipush (v := (9 : Int32)) dX12_pass_4 (by decide) ?_
  refine g_ialN (a := 142) (j := 9) (v := M.1 142 9) dX12_pass_6 sh_142 rfl (by decide) rfl ?_
  refine g_iload_n dX12_pass_7 rfl rfl ?_
  refine g_iadd dX12_pass_8 ?_
  refine g_sipush (v := (9999 : Int32)) dX12_pass_9 (by decide) ?_
  refine g_ic_le (t := 17) dX12_pass_12 (by decide) (fun c4 => ?_) (fun c4 => ?_)
  · replace h := z_ift c4 h
    refine g_iconst (v := (0 : Int32)) dX12_pass_17 (by decide) ?_
    refine g_istore_n (ls' := [some (.ref 139), some (.int a1), some (.int (0 : Int32))]) dX12_pass_18 rfl (Nat.le_of_ble_eq_true rfl) rfl ?_
    exact g_sub (z_sub_s (z_sub_s (z_sub_s z_sub_nil))) ((AL_X12_pass (w := w) w) _ _ _ _ _ _ h hq)
  · replace h := z_iff c4 h
    refine g_iconst (v := (0 : Int32)) dX12_pass_15 (by decide) ?_
    cases h
    exact g_iret dX12_pass_16 rfl rfl hq
