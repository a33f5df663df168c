/-! ===== what calls the methods that call themselves ===== -/
theorem dX5_firstMove_0 : decode cX5_firstMove 0 = .ok (.iconst (-1), 1) := by decide +kernel
theorem dX5_firstMove_1 : decode cX5_firstMove 1 = .ok (.istore_n 2, 1) := by decide +kernel
theorem dX5_firstMove_2 : decode cX5_firstMove 2 = .ok (.ldc 104, 2) := by decide +kernel
theorem dX5_firstMove_4 : decode cX5_firstMove 4 = .ok (.istore_n 3, 1) := by decide +kernel
theorem dX5_firstMove_5 : decode cX5_firstMove 5 = .ok (.iconst 0, 1) := by decide +kernel
theorem dX5_firstMove_6 : decode cX5_firstMove 6 = .ok (.istore 4, 2) := by decide +kernel
theorem dX5_firstMove_8 : decode cX5_firstMove 8 = .ok (.iload 4, 2) := by decide +kernel
theorem dX5_firstMove_10 : decode cX5_firstMove 10 = .ok (.bipush 12, 2) := by decide +kernel
theorem dX5_firstMove_12 : decode cX5_firstMove 12 = .ok (.if_icmp .ge 39, 3) := by decide +kernel
theorem dX5_firstMove_15 : decode cX5_firstMove 15 = .ok (.aload_n 0, 1) := by decide +kernel
theorem dX5_firstMove_16 : decode cX5_firstMove 16 = .ok (.iconst 1, 1) := by decide +kernel
theorem dX5_firstMove_17 : decode cX5_firstMove 17 = .ok (.iload 4, 2) := by decide +kernel
theorem dX5_firstMove_19 : decode cX5_firstMove 19 = .ok (.ishl, 1) := by decide +kernel
theorem dX5_firstMove_20 : decode cX5_firstMove 20 = .ok (.iconst 0, 1) := by decide +kernel
theorem dX5_firstMove_21 : decode cX5_firstMove 21 = .ok (.iload_n 1, 1) := by decide +kernel
theorem dX5_firstMove_22 : decode cX5_firstMove 22 = .ok (.iconst 1, 1) := by decide +kernel
theorem dX5_firstMove_23 : decode cX5_firstMove 23 = .ok (.isub, 1) := by decide +kernel
theorem dX5_firstMove_24 : decode cX5_firstMove 24 = .ok (.iconst 0, 1) := by decide +kernel
theorem dX5_firstMove_25 : decode cX5_firstMove 25 = .ok (.iload_n 3, 1) := by decide +kernel
theorem dX5_firstMove_26 : decode cX5_firstMove 26 = .ok (.ldc 113, 2) := by decide +kernel
theorem dX5_firstMove_28 : decode cX5_firstMove 28 = .ok (.invokestatic 114, 3) := by decide +kernel
theorem dX5_firstMove_31 : decode cX5_firstMove 31 = .ok (.istore 5, 2) := by decide +kernel
theorem dX5_firstMove_33 : decode cX5_firstMove 33 = .ok (.iload 5, 2) := by decide +kernel
theorem dX5_firstMove_35 : decode cX5_firstMove 35 = .ok (.iload_n 3, 1) := by decide +kernel
theorem dX5_firstMove_36 : decode cX5_firstMove 36 = .ok (.if_icmp .le 9, 3) := by decide +kernel
theorem dX5_firstMove_39 : decode cX5_firstMove 39 = .ok (.iload 4, 2) := by decide +kernel
theorem dX5_firstMove_41 : decode cX5_firstMove 41 = .ok (.istore_n 2, 1) := by decide +kernel
theorem dX5_firstMove_42 : decode cX5_firstMove 42 = .ok (.iload 5, 2) := by decide +kernel
theorem dX5_firstMove_44 : decode cX5_firstMove 44 = .ok (.istore_n 3, 1) := by decide +kernel
theorem dX5_firstMove_45 : decode cX5_firstMove 45 = .ok (.iinc 4 1, 3) := by decide +kernel
theorem dX5_firstMove_48 : decode cX5_firstMove 48 = .ok (.goto (-40), 3) := by decide +kernel
theorem dX5_firstMove_51 : decode cX5_firstMove 51 = .ok (.aload_n 0, 1) := by decide +kernel
theorem dX5_firstMove_52 : decode cX5_firstMove 52 = .ok (.iconst 0, 1) := by decide +kernel
theorem dX5_firstMove_53 : decode cX5_firstMove 53 = .ok (.iconst 0, 1) := by decide +kernel
theorem dX5_firstMove_54 : decode cX5_firstMove 54 = .ok (.iload_n 1, 1) := by decide +kernel
theorem dX5_firstMove_55 : decode cX5_firstMove 55 = .ok (.iconst 1, 1) := by decide +kernel
theorem dX5_firstMove_56 : decode cX5_firstMove 56 = .ok (.isub, 1) := by decide +kernel
theorem dX5_firstMove_57 : decode cX5_firstMove 57 = .ok (.iconst 0, 1) := by decide +kernel
theorem dX5_firstMove_58 : decode cX5_firstMove 58 = .ok (.iload_n 3, 1) := by decide +kernel
theorem dX5_firstMove_59 : decode cX5_firstMove 59 = .ok (.ldc 113, 2) := by decide +kernel
theorem dX5_firstMove_61 : decode cX5_firstMove 61 = .ok (.invokestatic 114, 3) := by decide +kernel
theorem dX5_firstMove_64 : decode cX5_firstMove 64 = .ok (.istore 4, 2) := by decide +kernel
theorem dX5_firstMove_66 : decode cX5_firstMove 66 = .ok (.iload 4, 2) := by decide +kernel
theorem dX5_firstMove_68 : decode cX5_firstMove 68 = .ok (.iload_n 3, 1) := by decide +kernel
theorem dX5_firstMove_69 : decode cX5_firstMove 69 = .ok (.if_icmp .le 7, 3) := by decide +kernel
theorem dX5_firstMove_72 : decode cX5_firstMove 72 = .ok (.iconst (-1), 1) := by decide +kernel
theorem dX5_firstMove_73 : decode cX5_firstMove 73 = .ok (.goto 4, 3) := by decide +kernel
theorem dX5_firstMove_76 : decode cX5_firstMove 76 = .ok (.iload_n 2, 1) := by decide +kernel
theorem dX5_firstMove_77 : decode cX5_firstMove 77 = .ok (.ireturn, 1) := by decide +kernel
def L_X5_firstMove (w : Nat) : Nat → z_Mem → Int32 → Int32 → Int32 → Int32 → Option (Int32 × z_Mem)
  | 0, _, _, _, _, _ => none
  | c + 1, M, x1, x2, x3, x4 =>
    if (12 : Int32) ≤ x4 then
    (F_X5_bestPlay w 10 M (0 : Int32) (0 : Int32) (x1 - (1 : Int32)) (0 : Int32) x3 (1000000 : Int32)).bind fun q2 =>
    if q2.1 ≤ x3 then
    some (x2, q2.2)
    else
    some ((-1 : Int32), q2.2)
    else
    (F_X5_bestPlay w 10 M ((1 : Int32) <<< (x4 &&& 31)) (0 : Int32) (x1 - (1 : Int32)) (0 : Int32) x3 (1000000 : Int32)).bind fun q5 =>
    if q5.1 ≤ x3 then
    L_X5_firstMove w c q5.2 x1 x2 x3 (x4 + (1 : Int32))
    else
    L_X5_firstMove w c q5.2 x1 x4 q5.1 (x4 + (1 : Int32))
set_option maxHeartbeats 4000000 in
theorem AL_X5_firstMove {w : Nat} : ∀ (c : Nat), (∀ (M : z_Mem) (x1 : Int32) (x2 : Int32) (x3 : Int32) (x4 : Int32) (r : Int32) (M' : z_Mem) (Q : Option Value → z_Mem → Prop), L_X5_firstMove w c M x1 x2 x3 x4 = some (r, M') → Q (some (.int r)) M' → z_G none 12 mX5_firstMove 8 [some (.ref 61), some (.int x1), some (.int x2), some (.int x3), some (.int x4), none] [] M Q) := by
  intro c
  induction c with
  | zero => exact (fun M x1 x2 x3 x4 r M' Q h hq => by rw [L_X5_firstMove] at h; cases h)
  | succ c ih =>
    intro M x1 x2 x3 x4 r M' Q h hq
    rw [L_X5_firstMove] at h
    refine g_iload dX5_firstMove_8 rfl ?_
    refine g_bipush (v := (12 : Int32)) dX5_firstMove_10 (by decide) ?_
    refine g_ic_ge (t := 51) dX5_firstMove_12 (by decide) (fun c1 => ?_) (fun c1 => ?_)
    · replace h := z_ift c1 h
      refine g_aload_n dX5_firstMove_51 rfl rfl ?_
      refine g_iconst (v := (0 : Int32)) dX5_firstMove_52 (by decide) ?_
      refine g_iconst (v := (0 : Int32)) dX5_firstMove_53 (by decide) ?_
      refine g_iload_n dX5_firstMove_54 rfl rfl ?_
      refine g_iconst (v := (1 : Int32)) dX5_firstMove_55 (by decide) ?_
      refine g_isub dX5_firstMove_56 ?_
      refine g_iconst (v := (0 : Int32)) dX5_firstMove_57 (by decide) ?_
      refine g_iload_n dX5_firstMove_58 rfl rfl ?_
      refine g_ldc dX5_firstMove_59 rfl ?_
      obtain ⟨q2, e3, h⟩ := z_bd h
      refine g_callS (as := [.ref 61, .int (0 : Int32), .int (0 : Int32), .int (x1 - (1 : Int32)), .int (0 : Int32), .int x3, .int (1000000 : Int32)]) (rest := []) (c := mX5_bestPlay) (k1 := 11) dX5_firstMove_61 rfl rfl rfl rfl rfl (Nat.le_of_ble_eq_true rfl) (Nat.le_of_ble_eq_true rfl) (by decide) ?_
      refine A_X5_bestPlay 10 _ _ _ _ _ _ _ _ _ _ e3 ?_
      show z_G none 12 mX5_firstMove 64 [some (.ref 61), some (.int x1), some (.int x2), some (.int x3), some (.int x4), none] [.int q2.1] q2.2 Q
      refine g_istore (ls' := [some (.ref 61), some (.int x1), some (.int x2), some (.int x3), some (.int q2.1), none]) dX5_firstMove_64 (Nat.le_of_ble_eq_true rfl) rfl ?_
      refine g_iload dX5_firstMove_66 rfl ?_
      refine g_iload_n dX5_firstMove_68 rfl rfl ?_
      refine g_ic_le (t := 76) dX5_firstMove_69 (by decide) (fun c4 => ?_) (fun c4 => ?_)
      · replace h := z_ift c4 h
        refine g_iload_n dX5_firstMove_76 rfl rfl ?_
        cases h
        exact g_iret dX5_firstMove_77 rfl rfl hq
      · replace h := z_iff c4 h
        refine g_iconst (v := (-1 : Int32)) dX5_firstMove_72 (by decide) ?_
        refine g_goto (t := 77) dX5_firstMove_73 (by decide) ?_
        cases h
        exact g_iret dX5_firstMove_77 rfl rfl hq
    · replace h := z_iff c1 h
      refine g_aload_n dX5_firstMove_15 rfl rfl ?_
      refine g_iconst (v := (1 : Int32)) dX5_firstMove_16 (by decide) ?_
      refine g_iload dX5_firstMove_17 rfl ?_
      refine g_ishl dX5_firstMove_19 ?_
      refine g_iconst (v := (0 : Int32)) dX5_firstMove_20 (by decide) ?_
      refine g_iload_n dX5_firstMove_21 rfl rfl ?_
      refine g_iconst (v := (1 : Int32)) dX5_firstMove_22 (by decide) ?_
      refine g_isub dX5_firstMove_23 ?_
      refine g_iconst (v := (0 : Int32)) dX5_firstMove_24 (by decide) ?_
      refine g_iload_n dX5_firstMove_25 rfl rfl ?_
      refine g_ldc dX5_firstMove_26 rfl ?_
      obtain ⟨q5, e6, h⟩ := z_bd h
      refine g_callS (as := [.ref 61, .int ((1 : Int32) <<< (x4 &&& 31)), .int (0 : Int32), .int (x1 - (1 : Int32)), .int (0 : Int32), .int x3, .int (1000000 : Int32)]) (rest := []) (c := mX5_bestPlay) (k1 := 11) dX5_firstMove_28 rfl rfl rfl rfl rfl (Nat.le_of_ble_eq_true rfl) (Nat.le_of_ble_eq_true rfl) (by decide) ?_
      refine A_X5_bestPlay 10 _ _ _ _ _ _ _ _ _ _ e6 ?_
      show z_G none 12 mX5_firstMove 31 [some (.ref 61), some (.int x1), some (.int x2), some (.int x3), some (.int x4), none] [.int q5.1] q5.2 Q
      refine g_istore (ls' := [some (.ref 61), some (.int x1), some (.int x2), some (.int x3), some (.int x4), some (.int q5.1)]) dX5_firstMove_31 (Nat.le_of_ble_eq_true rfl) rfl ?_
      refine g_iload dX5_firstMove_33 rfl ?_
      refine g_iload_n dX5_firstMove_35 rfl rfl ?_
      refine g_ic_le (t := 45) dX5_firstMove_36 (by decide) (fun c7 => ?_) (fun c7 => ?_)
      · replace h := z_ift c7 h
        refine g_iinc (v := x4 + (1 : Int32)) (ls' := [some (.ref 61), some (.int x1), some (.int x2), some (.int x3), some (.int (x4 + (1 : Int32))), some (.int q5.1)]) dX5_firstMove_45 rfl rfl rfl ?_
        refine g_goto (t := 8) dX5_firstMove_48 (by decide) ?_
        exact g_sub (z_sub_s (z_sub_s (z_sub_s (z_sub_s (z_sub_s (z_sub_n z_sub_nil)))))) (ih _ _ _ _ _ _ _ _ h hq)
      · replace h := z_iff c7 h
        refine g_iload dX5_firstMove_39 rfl ?_
        refine g_istore_n (ls' := [some (.ref 61), some (.int x1), some (.int x4), some (.int x3), some (.int x4), some (.int q5.1)]) dX5_firstMove_41 rfl (Nat.le_of_ble_eq_true rfl) rfl ?_
        refine g_iload dX5_firstMove_42 rfl ?_
        refine g_istore_n (ls' := [some (.ref 61), some (.int x1), some (.int x4), some (.int q5.1), some (.int x4), some (.int q5.1)]) dX5_firstMove_44 rfl (Nat.le_of_ble_eq_true rfl) rfl ?_
        refine g_iinc (v := x4 + (1 : Int32)) (ls' := [some (.ref 61), some (.int x1), some (.int x4), some (.int q5.1), some (.int (x4 + (1 : Int32))), some (.int q5.1)]) dX5_firstMove_45 rfl rfl rfl ?_
        refine g_goto (t := 8) dX5_firstMove_48 (by decide) ?_
        exact g_sub (z_sub_s (z_sub_s (z_sub_s (z_sub_s (z_sub_s (z_sub_n z_sub_nil)))))) (ih _ _ _ _ _ _ _ _ h hq)
def F_X5_firstMove (w : Nat) (M : z_Mem) (a1 : Int32) : Option (Int32 × z_Mem) :=
  L_X5_firstMove w w M a1 (-1 : Int32) (-1000000 : Int32) (0 : Int32)
set_option maxHeartbeats 4000000 in
theorem A_X5_firstMove {w : Nat} {M : z_Mem} {a1 : Int32} {r : Int32} {M' : z_Mem} {Q : Option Value → z_Mem → Prop} (h : F_X5_firstMove w M a1 = some (r, M')) (hq : Q (some (.int r)) M') : z_Cl 12 mX5_firstMove [.ref 61, .int a1] M Q := by
  refine g_in (ls := [some (.ref 61), some (.int a1), none, none, none, none]) rfl ?_
  unfold F_X5_firstMove at h
  refine g_iconst (v := (-1 : Int32)) dX5_firstMove_0 (by decide) ?_
  refine g_istore_n (ls' := [some (.ref 61), some (.int a1), some (.int (-1 : Int32)), none, none, none]) dX5_firstMove_1 rfl (Nat.le_of_ble_eq_true rfl) rfl ?_
  refine g_ldc dX5_firstMove_2 rfl ?_
  refine g_istore_n (ls' := [some (.ref 61), some (.int a1), some (.int (-1 : Int32)), some (.int (-1000000 : Int32)), none, none]) dX5_firstMove_4 rfl (Nat.le_of_ble_eq_true rfl) rfl ?_
  refine g_iconst (v := (0 : Int32)) dX5_firstMove_5 (by decide) ?_
  refine g_istore (ls' := [some (.ref 61), some (.int a1), some (.int (-1 : Int32)), some (.int (-1000000 : Int32)), some (.int (0 : Int32)), none]) dX5_firstMove_6 (Nat.le_of_ble_eq_true rfl) rfl ?_
  exact g_sub (z_sub_s (z_sub_s (z_sub_s (z_sub_s (z_sub_s (z_sub_n z_sub_nil)))))) ((AL_X5_firstMove (w := w) w) _ _ _ _ _ _ _ _ h hq)
theorem dX12_runsYears_0 : decode cX12_runsYears 0 = .ok (.aload_n 0, 1) := by decide +kernel
theorem dX12_runsYears_1 : decode cX12_runsYears 1 = .ok (.iload_n 1, 1) := by decide +kernel
theorem dX12_runsYears_2 : decode cX12_runsYears 2 = .ok (.putfield 472, 3) := by decide +kernel
theorem dX12_runsYears_5 : decode cX12_runsYears 5 = .ok (.aload_n 0, 1) := by decide +kernel
theorem dX12_runsYears_6 : decode cX12_runsYears 6 = .ok (.iconst 0, 1) := by decide +kernel
theorem dX12_runsYears_7 : decode cX12_runsYears 7 = .ok (.putfield 489, 3) := by decide +kernel
theorem dX12_runsYears_10 : decode cX12_runsYears 10 = .ok (.aload_n 0, 1) := by decide +kernel
theorem dX12_runsYears_11 : decode cX12_runsYears 11 = .ok (.iconst 0, 1) := by decide +kernel
theorem dX12_runsYears_12 : decode cX12_runsYears 12 = .ok (.putfield 499, 3) := by decide +kernel
theorem dX12_runsYears_15 : decode cX12_runsYears 15 = .ok (.aload_n 0, 1) := by decide +kernel
theorem dX12_runsYears_16 : decode cX12_runsYears 16 = .ok (.aload_n 0, 1) := by decide +kernel
theorem dX12_runsYears_17 : decode cX12_runsYears 17 = .ok (.getfield 35, 3) := by decide +kernel
theorem dX12_runsYears_20 : decode cX12_runsYears 20 = .ok (.bipush 9, 2) := by decide +kernel
theorem dX12_runsYears_22 : decode cX12_runsYears 22 = .ok (.iaload, 1) := by decide +kernel
theorem dX12_runsYears_23 : decode cX12_runsYears 23 = .ok (.putfield 514, 3) := by decide +kernel
theorem dX12_runsYears_26 : decode cX12_runsYears 26 = .ok (.aload_n 0, 1) := by decide +kernel
theorem dX12_runsYears_27 : decode cX12_runsYears 27 = .ok (.aload_n 0, 1) := by decide +kernel
theorem dX12_runsYears_28 : decode cX12_runsYears 28 = .ok (.getfield 35, 3) := by decide +kernel
theorem dX12_runsYears_31 : decode cX12_runsYears 31 = .ok (.bipush 11, 2) := by decide +kernel
theorem dX12_runsYears_33 : decode cX12_runsYears 33 = .ok (.iaload, 1) := by decide +kernel
theorem dX12_runsYears_34 : decode cX12_runsYears 34 = .ok (.putfield 517, 3) := by decide +kernel
theorem dX12_runsYears_37 : decode cX12_runsYears 37 = .ok (.aload_n 0, 1) := by decide +kernel
theorem dX12_runsYears_38 : decode cX12_runsYears 38 = .ok (.aload_n 0, 1) := by decide +kernel
theorem dX12_runsYears_39 : decode cX12_runsYears 39 = .ok (.getfield 35, 3) := by decide +kernel
theorem dX12_runsYears_42 : decode cX12_runsYears 42 = .ok (.bipush 10, 2) := by decide +kernel
theorem dX12_runsYears_44 : decode cX12_runsYears 44 = .ok (.iaload, 1) := by decide +kernel
theorem dX12_runsYears_45 : decode cX12_runsYears 45 = .ok (.putfield 520, 3) := by decide +kernel
theorem dX12_runsYears_48 : decode cX12_runsYears 48 = .ok (.aload_n 0, 1) := by decide +kernel
theorem dX12_runsYears_49 : decode cX12_runsYears 49 = .ok (.iconst 0, 1) := by decide +kernel
theorem dX12_runsYears_50 : decode cX12_runsYears 50 = .ok (.putfield 496, 3) := by decide +kernel
theorem dX12_runsYears_53 : decode cX12_runsYears 53 = .ok (.aload_n 0, 1) := by decide +kernel
theorem dX12_runsYears_54 : decode cX12_runsYears 54 = .ok (.iconst 0, 1) := by decide +kernel
theorem dX12_runsYears_55 : decode cX12_runsYears 55 = .ok (.putfield 492, 3) := by decide +kernel
theorem dX12_runsYears_58 : decode cX12_runsYears 58 = .ok (.aload_n 0, 1) := by decide +kernel
theorem dX12_runsYears_59 : decode cX12_runsYears 59 = .ok (.iconst 0, 1) := by decide +kernel
theorem dX12_runsYears_60 : decode cX12_runsYears 60 = .ok (.aload_n 0, 1) := by decide +kernel
theorem dX12_runsYears_61 : decode cX12_runsYears 61 = .ok (.getfield 35, 3) := by decide +kernel
theorem dX12_runsYears_64 : decode cX12_runsYears 64 = .ok (.bipush 104, 2) := by decide +kernel
theorem dX12_runsYears_66 : decode cX12_runsYears 66 = .ok (.iaload, 1) := by decide +kernel
theorem dX12_runsYears_67 : decode cX12_runsYears 67 = .ok (.invokevirtual 508, 3) := by decide +kernel
theorem dX12_runsYears_70 : decode cX12_runsYears 70 = .ok (.return_, 1) := by decide +kernel
def F_X12_runsYears (w : Nat) (M : z_Mem) (a1 : Int32) : Option (Unit × z_Mem) :=
  (F_X12_doAll w 10 (z_wI (z_wI (z_wI (z_wI (z_wI (z_wI (z_wI (z_wI M 137 32 a1) 137 33 (0 : Int32)) 137 34 (0 : Int32)) 137 35 (M.1 142 9)) 137 36 (M.1 142 11)) 137 37 (M.1 142 10)) 137 38 (0 : Int32)) 137 31 (0 : Int32)) (0 : Int32) (M.1 142 104)).bind fun q1 =>
  some ((), q1.2)
set_option maxHeartbeats 4000000 in
theorem A_X12_runsYears {w : Nat} {M : z_Mem} {a1 : Int32} {r : Unit} {M' : z_Mem} {Q : Option Value → z_Mem → Prop} (h : F_X12_runsYears w M a1 = some (r, M')) (hq : Q none M') : z_Cl 27 mX12_runsYears [.ref 139, .int a1] M Q := by
  refine g_in (ls := [some (.ref 139), some (.int a1)]) rfl ?_
  unfold F_X12_runsYears at h
  refine g_aload_n dX12_runsYears_0 rfl rfl ?_
  refine g_iload_n dX12_runsYears_1 rfl rfl ?_
  refine g_putI (a := 137) dX12_runsYears_2 f_12_472 sh_137 rfl rfl rfl ?_
  refine g_aload_n dX12_runsYears_5 rfl rfl ?_
  refine g_iconst (v := (0 : Int32)) dX12_runsYears_6 (by decide) ?_
  refine g_putI (a := 137) dX12_runsYears_7 f_12_489 sh_137 rfl rfl rfl ?_
  refine g_aload_n dX12_runsYears_10 rfl rfl ?_
  refine g_iconst (v := (0 : Int32)) dX12_runsYears_11 (by decide) ?_
  refine g_putI (a := 137) dX12_runsYears_12 f_12_499 sh_137 rfl rfl rfl ?_
  refine g_aload_n dX12_runsYears_15 rfl rfl ?_
  refine g_aload_n dX12_runsYears_16 rfl rfl ?_
  refine g_get (a := 137) (v := .ref 144) dX12_runsYears_17 f_12_35 sh_137 rfl rfl ?_
  refine g_bipush (v := (9 : Int32)) dX12_runsYears_20 (by decide) ?_
  refine g_ialN (a := 142) (j := 9) (v := M.1 142 9) dX12_runsYears_22 sh_142 rfl (by decide) (by simp [z_wI, z_wL, z_wLs, upd, vp_updL]) ?_
  refine g_putI (a := 137) dX12_runsYears_23 f_12_514 sh_137 rfl rfl rfl ?_
  refine g_aload_n dX12_runsYears_26 rfl rfl ?_
  refine g_aload_n dX12_runsYears_27 rfl rfl ?_
  refine g_get (a := 137) (v := .ref 144) dX12_runsYears_28 f_12_35 sh_137 rfl rfl ?_
  refine g_bipush (v := (11 : Int32)) dX12_runsYears_31 (by decide) ?_
  refine g_ialN (a := 142) (j := 11) (v := M.1 142 11) dX12_runsYears_33 sh_142 rfl (by decide) (by simp [z_wI, z_wL, z_wLs, upd, vp_updL]) ?_
  refine g_putI (a := 137) dX12_runsYears_34 f_12_517 sh_137 rfl rfl rfl ?_
  refine g_aload_n dX12_runsYears_37 rfl rfl ?_
  refine g_aload_n dX12_runsYears_38 rfl rfl ?_
  refine g_get (a := 137) (v := .ref 144) dX12_runsYears_39 f_12_35 sh_137 rfl rfl ?_
  refine g_bipush (v := (10 : Int32)) dX12_runsYears_42 (by decide) ?_
  refine g_ialN (a := 142) (j := 10) (v := M.1 142 10) dX12_runsYears_44 sh_142 rfl (by decide) (by simp [z_wI, z_wL, z_wLs, upd, vp_updL]) ?_
  refine g_putI (a := 137) dX12_runsYears_45 f_12_520 sh_137 rfl rfl rfl ?_
  refine g_aload_n dX12_runsYears_48 rfl rfl ?_
  refine g_iconst (v := (0 : Int32)) dX12_runsYears_49 (by decide) ?_
  refine g_putI (a := 137) dX12_runsYears_50 f_12_496 sh_137 rfl rfl rfl ?_
  refine g_aload_n dX12_runsYears_53 rfl rfl ?_
  refine g_iconst (v := (0 : Int32)) dX12_runsYears_54 (by decide) ?_
  refine g_putZ (a := 137) dX12_runsYears_55 f_12_492 sh_137 rfl rfl rfl (by first | exact Or.inl rfl | exact Or.inr rfl | exact z_tb01) ?_
  refine g_aload_n dX12_runsYears_58 rfl rfl ?_
  refine g_iconst (v := (0 : Int32)) dX12_runsYears_59 (by decide) ?_
  refine g_aload_n dX12_runsYears_60 rfl rfl ?_
  refine g_get (a := 137) (v := .ref 144) dX12_runsYears_61 f_12_35 sh_137 rfl rfl ?_
  refine g_bipush (v := (104 : Int32)) dX12_runsYears_64 (by decide) ?_
  refine g_ialN (a := 142) (j := 104) (v := M.1 142 104) dX12_runsYears_66 sh_142 rfl (by decide) (by simp [z_wI, z_wL, z_wLs, upd, vp_updL]) ?_
  obtain ⟨q1, e2, h⟩ := z_bd h
  refine g_callV (a := 137) (as := [.int (0 : Int32), .int (M.1 142 104)]) (rest := []) (c := mX12_doAll) (k1 := 26) dX12_runsYears_67 rfl rfl rfl sh_137 rfl rfl (Nat.le_of_ble_eq_true rfl) (Nat.le_of_ble_eq_true rfl) (by decide) ?_
  refine A_X12_doAll 10 _ _ _ _ _ _ e2 ?_
  show z_G none 27 mX12_runsYears 70 [some (.ref 139), some (.int a1)] [] q1.2 Q
  cases h
  exact g_vret dX12_runsYears_70 rfl hq
theorem dX12_years_0 : decode cX12_years 0 = .ok (.aload_n 0, 1) := by decide +kernel
theorem dX12_years_1 : decode cX12_years 1 = .ok (.iconst 0, 1) := by decide +kernel
theorem dX12_years_2 : decode cX12_years 2 = .ok (.putfield 57, 3) := by decide +kernel
theorem dX12_years_5 : decode cX12_years 5 = .ok (.aload_n 0, 1) := by decide +kernel
theorem dX12_years_6 : decode cX12_years 6 = .ok (.iconst 0, 1) := by decide +kernel
theorem dX12_years_7 : decode cX12_years 7 = .ok (.putfield 60, 3) := by decide +kernel
theorem dX12_years_10 : decode cX12_years 10 = .ok (.aload_n 0, 1) := by decide +kernel
theorem dX12_years_11 : decode cX12_years 11 = .ok (.iload_n 1, 1) := by decide +kernel
theorem dX12_years_12 : decode cX12_years 12 = .ok (.sipush 300, 3) := by decide +kernel
theorem dX12_years_15 : decode cX12_years 15 = .ok (.invokevirtual 304, 3) := by decide +kernel
theorem dX12_years_18 : decode cX12_years 18 = .ok (.ifCond .ne 5, 3) := by decide +kernel
theorem dX12_years_21 : decode cX12_years 21 = .ok (.iconst (-1), 1) := by decide +kernel
theorem dX12_years_22 : decode cX12_years 22 = .ok (.ireturn, 1) := by decide +kernel
theorem dX12_years_23 : decode cX12_years 23 = .ok (.aload_n 0, 1) := by decide +kernel
theorem dX12_years_24 : decode cX12_years 24 = .ok (.iconst 0, 1) := by decide +kernel
theorem dX12_years_25 : decode cX12_years 25 = .ok (.putfield 322, 3) := by decide +kernel
theorem dX12_years_28 : decode cX12_years 28 = .ok (.aload_n 0, 1) := by decide +kernel
theorem dX12_years_29 : decode cX12_years 29 = .ok (.getfield 212, 3) := by decide +kernel
theorem dX12_years_32 : decode cX12_years 32 = .ok (.ifCond .ne 18, 3) := by decide +kernel
theorem dX12_years_35 : decode cX12_years 35 = .ok (.aload_n 0, 1) := by decide +kernel
theorem dX12_years_36 : decode cX12_years 36 = .ok (.getfield 112, 3) := by decide +kernel
theorem dX12_years_39 : decode cX12_years 39 = .ok (.ifCond .eq 11, 3) := by decide +kernel
theorem dX12_years_42 : decode cX12_years 42 = .ok (.aload_n 0, 1) := by decide +kernel
theorem dX12_years_43 : decode cX12_years 43 = .ok (.iconst 0, 1) := by decide +kernel
theorem dX12_years_44 : decode cX12_years 44 = .ok (.invokevirtual 328, 3) := by decide +kernel
theorem dX12_years_47 : decode cX12_years 47 = .ok (.goto (-19), 3) := by decide +kernel
theorem dX12_years_50 : decode cX12_years 50 = .ok (.aload_n 0, 1) := by decide +kernel
theorem dX12_years_51 : decode cX12_years 51 = .ok (.invokevirtual 313, 3) := by decide +kernel
theorem dX12_years_54 : decode cX12_years 54 = .ok (.ifCond .ne 5, 3) := by decide +kernel
theorem dX12_years_57 : decode cX12_years 57 = .ok (.iconst (-1), 1) := by decide +kernel
theorem dX12_years_58 : decode cX12_years 58 = .ok (.ireturn, 1) := by decide +kernel
theorem dX12_years_59 : decode cX12_years 59 = .ok (.aload_n 0, 1) := by decide +kernel
theorem dX12_years_60 : decode cX12_years 60 = .ok (.getfield 35, 3) := by decide +kernel
theorem dX12_years_63 : decode cX12_years 63 = .ok (.bipush 103, 2) := by decide +kernel
theorem dX12_years_65 : decode cX12_years 65 = .ok (.iconst 1, 1) := by decide +kernel
theorem dX12_years_66 : decode cX12_years 66 = .ok (.iastore, 1) := by decide +kernel
theorem dX12_years_67 : decode cX12_years 67 = .ok (.aload_n 0, 1) := by decide +kernel
theorem dX12_years_68 : decode cX12_years 68 = .ok (.getfield 35, 3) := by decide +kernel
theorem dX12_years_71 : decode cX12_years 71 = .ok (.bipush 104, 2) := by decide +kernel
theorem dX12_years_73 : decode cX12_years 73 = .ok (.aload_n 0, 1) := by decide +kernel
theorem dX12_years_74 : decode cX12_years 74 = .ok (.getfield 322, 3) := by decide +kernel
theorem dX12_years_77 : decode cX12_years 77 = .ok (.iastore, 1) := by decide +kernel
theorem dX12_years_78 : decode cX12_years 78 = .ok (.iconst 0, 1) := by decide +kernel
theorem dX12_years_79 : decode cX12_years 79 = .ok (.istore_n 2, 1) := by decide +kernel
theorem dX12_years_80 : decode cX12_years 80 = .ok (.iload_n 2, 1) := by decide +kernel
theorem dX12_years_81 : decode cX12_years 81 = .ok (.bipush 9, 2) := by decide +kernel
theorem dX12_years_83 : decode cX12_years 83 = .ok (.aload_n 0, 1) := by decide +kernel
theorem dX12_years_84 : decode cX12_years 84 = .ok (.getfield 322, 3) := by decide +kernel
theorem dX12_years_87 : decode cX12_years 87 = .ok (.imul, 1) := by decide +kernel
theorem dX12_years_88 : decode cX12_years 88 = .ok (.if_icmp .ge 28, 3) := by decide +kernel
theorem dX12_years_91 : decode cX12_years 91 = .ok (.aload_n 0, 1) := by decide +kernel
theorem dX12_years_92 : decode cX12_years 92 = .ok (.getfield 35, 3) := by decide +kernel
theorem dX12_years_95 : decode cX12_years 95 = .ok (.bipush 105, 2) := by decide +kernel
theorem dX12_years_97 : decode cX12_years 97 = .ok (.iload_n 2, 1) := by decide +kernel
theorem dX12_years_98 : decode cX12_years 98 = .ok (.iadd, 1) := by decide +kernel
theorem dX12_years_99 : decode cX12_years 99 = .ok (.aload_n 0, 1) := by decide +kernel
theorem dX12_years_100 : decode cX12_years 100 = .ok (.getfield 35, 3) := by decide +kernel
theorem dX12_years_103 : decode cX12_years 103 = .ok (.sipush 1605, 3) := by decide +kernel
theorem dX12_years_106 : decode cX12_years 106 = .ok (.iload_n 2, 1) := by decide +kernel
theorem dX12_years_107 : decode cX12_years 107 = .ok (.iadd, 1) := by decide +kernel
theorem dX12_years_108 : decode cX12_years 108 = .ok (.iaload, 1) := by decide +kernel
theorem dX12_years_109 : decode cX12_years 109 = .ok (.iastore, 1) := by decide +kernel
theorem dX12_years_110 : decode cX12_years 110 = .ok (.iinc 2 1, 3) := by decide +kernel
theorem dX12_years_113 : decode cX12_years 113 = .ok (.goto (-33), 3) := by decide +kernel
theorem dX12_years_116 : decode cX12_years 116 = .ok (.aload_n 0, 1) := by decide +kernel
theorem dX12_years_117 : decode cX12_years 117 = .ok (.getfield 322, 3) := by decide +kernel
theorem dX12_years_120 : decode cX12_years 120 = .ok (.ireturn, 1) := by decide +kernel
def L_X12_years (w : Nat) : Nat → Nat → z_Mem → Int32 → Option (Int32 × z_Mem)
  | 0, _, _, _ => none
  | c + 1, hd, M, x2 =>
    if hd = 0 then
      if (M.1 137 12) = (0 : Int32) then
      if (M.1 137 14) = (0 : Int32) then
      (F_X12_isWell w M).bind fun q6 =>
      if q6.1 = true then
      L_X12_years w c 1 (z_wI (z_wI q6.2 142 103 (1 : Int32)) 142 104 (q6.2.1 137 25)) (0 : Int32)
      else
      some ((-1 : Int32), q6.2)
      else
      (F_X12_readStep w 10 M (0 : Int32)).bind fun q9 =>
      L_X12_years w c 0 q9.2 0
      else
      (F_X12_isWell w M).bind fun q2 =>
      if q2.1 = true then
      L_X12_years w c 1 (z_wI (z_wI q2.2 142 103 (1 : Int32)) 142 104 (q2.2.1 137 25)) (0 : Int32)
      else
      some ((-1 : Int32), q2.2)
    else
    if hd = 1 then
      if ((9 : Int32) * (M.1 137 25)) ≤ x2 then
      some (M.1 137 25, M)
      else
      if ((1605 : Int32) + x2) < 0 ∨ 1875 ≤ ((1605 : Int32) + x2).toNatClampNeg then none else
      if ((105 : Int32) + x2) < 0 ∨ 1875 ≤ ((105 : Int32) + x2).toNatClampNeg then none else
      L_X12_years w c 1 (z_wI M 142 (((105 : Int32) + x2).toNatClampNeg) (M.1 142 ((1605 : Int32) + x2).toNatClampNeg)) (x2 + (1 : Int32))
    else
    none
set_option maxHeartbeats 4000000 in
theorem AL_X12_years {w : Nat} : ∀ (c : Nat), (∀ (M : z_Mem) (x2 : Int32) (r : Int32) (M' : z_Mem) (Q : Option Value → z_Mem → Prop), L_X12_years w c 0 M x2 = some (r, M') → Q (some (.int r)) M' → z_G none 16 mX12_years 28 [some (.ref 139), none, none] [] M Q) ∧ (∀ (M : z_Mem) (x2 : Int32) (r : Int32) (M' : z_Mem) (Q : Option Value → z_Mem → Prop), L_X12_years w c 1 M x2 = some (r, M') → Q (some (.int r)) M' → z_G none 16 mX12_years 80 [some (.ref 139), none, some (.int x2)] [] M Q) := by
  intro c
  induction c with
  | zero => exact ⟨(fun M x2 r M' Q h hq => by rw [L_X12_years] at h; cases h), (fun M x2 r M' Q h hq => by rw [L_X12_years] at h; cases h)⟩
  | succ c ih =>
    refine ⟨fun M x2 r M' Q h hq => ?_, fun M x2 r M' Q h hq => ?_⟩
    · rw [L_X12_years] at h
      replace h := z_ift rfl h
      refine g_aload_n dX12_years_28 rfl rfl ?_
      refine g_get (a := 137) (v := .int (M.1 137 12)) dX12_years_29 f_12_212 sh_137 rfl rfl ?_
      refine g_if_ne (t := 50) dX12_years_32 (by decide) (fun c1 => ?_) (fun c1 => ?_)
      · replace h := z_iff c1 h
        refine g_aload_n dX12_years_50 rfl rfl ?_
        obtain ⟨q2, e3, h⟩ := z_bd h
        refine g_callV (a := 137) (as := []) (rest := []) (c := mX12_isWell) (k1 := 1) dX12_years_51 rfl rfl rfl sh_137 rfl rfl (Nat.le_of_ble_eq_true rfl) (Nat.le_of_ble_eq_true rfl) (by decide) ?_
        refine A_X12_isWell e3 ?_
        show z_G none 16 mX12_years 54 [some (.ref 139), none, none] [.int (z_tb q2.1)] q2.2 Q
        refine g_if_ne (t := 59) dX12_years_54 (by decide) (fun c4 => ?_) (fun c4 => ?_)
        · replace h := z_ift (z_tbn.mp c4) h
          refine g_aload_n dX12_years_59 rfl rfl ?_
          refine g_get (a := 137) (v := .ref 144) dX12_years_60 f_12_35 sh_137 rfl rfl ?_
          refine g_bipush (v := (103 : Int32)) dX12_years_63 (by decide) ?_
          refine g_iconst (v := (1 : Int32)) dX12_years_65 (by decide) ?_
          refine g_iasN (a := 142) (j := 103) dX12_years_66 sh_142 rfl (by decide) ?_
          refine g_aload_n dX12_years_67 rfl rfl ?_
          refine g_get (a := 137) (v := .ref 144) dX12_years_68 f_12_35 sh_137 rfl rfl ?_
          refine g_bipush (v := (104 : Int32)) dX12_years_71 (by decide) ?_
          refine g_aload_n dX12_years_73 rfl rfl ?_
          refine g_get (a := 137) (v := .int (q2.2.1 137 25)) dX12_years_74 f_12_322 sh_137 rfl (by simp [z_fv, z_wI, z_wL, z_wLs, upd, vp_updL]) ?_
          refine g_iasN (a := 142) (j := 104) dX12_years_77 sh_142 rfl (by decide) ?_
          refine g_iconst (v := (0 : Int32)) dX12_years_78 (by decide) ?_
          refine g_istore_n (ls' := [some (.ref 139), none, some (.int (0 : Int32))]) dX12_years_79 rfl (Nat.le_of_ble_eq_true rfl) rfl ?_
          exact g_sub (z_sub_s (z_sub_n (z_sub_s z_sub_nil))) (ih.2 _ _ _ _ _ h hq)
        · replace h := z_iff (z_tb0.mp c4) h
          refine g_iconst (v := (-1 : Int32)) dX12_years_57 (by decide) ?_
          cases h
          exact g_iret dX12_years_58 rfl rfl hq
      · replace h := z_ift c1 h
        refine g_aload_n dX12_years_35 rfl rfl ?_
        refine g_get (a := 137) (v := .int (M.1 137 14)) dX12_years_36 f_12_112 sh_137 rfl rfl ?_
        refine g_if_eq (t := 50) dX12_years_39 (by decide) (fun c5 => ?_) (fun c5 => ?_)
        · replace h := z_ift c5 h
          refine g_aload_n dX12_years_50 rfl rfl ?_
          obtain ⟨q6, e7, h⟩ := z_bd h
          refine g_callV (a := 137) (as := []) (rest := []) (c := mX12_isWell) (k1 := 1) dX12_years_51 rfl rfl rfl sh_137 rfl rfl (Nat.le_of_ble_eq_true rfl) (Nat.le_of_ble_eq_true rfl) (by decide) ?_
          refine A_X12_isWell e7 ?_
          show z_G none 16 mX12_years 54 [some (.ref 139), none, none] [.int (z_tb q6.1)] q6.2 Q
          refine g_if_ne (t := 59) dX12_years_54 (by decide) (fun c8 => ?_) (fun c8 => ?_)
          · replace h := z_ift (z_tbn.mp c8) h
            refine g_aload_n dX12_years_59 rfl rfl ?_
            refine g_get (a := 137) (v := .ref 144) dX12_years_60 f_12_35 sh_137 rfl rfl ?_
            refine g_bipush (v := (103 : Int32)) dX12_years_63 (by decide) ?_
            refine g_iconst (v := (1 : Int32)) dX12_years_65 (by decide) ?_
            refine g_iasN (a := 142) (j := 103) dX12_years_66 sh_142 rfl (by decide) ?_
            refine g_aload_n dX12_years_67 rfl rfl ?_
            refine g_get (a := 137) (v := .ref 144) dX12_years_68 f_12_35 sh_137 rfl rfl ?_
            refine g_bipush (v := (104 : Int32)) dX12_years_71 (by decide) ?_
            refine g_aload_n dX12_years_73 rfl rfl ?_
            refine g_get (a := 137) (v := .int (q6.2.1 137 25)) dX12_years_74 f_12_322 sh_137 rfl (by simp [z_fv, z_wI, z_wL, z_wLs, upd, vp_updL]) ?_
            refine g_iasN (a := 142) (j := 104) dX12_years_77 sh_142 rfl (by decide) ?_
            refine g_iconst (v := (0 : Int32)) dX12_years_78 (by decide) ?_
            refine g_istore_n (ls' := [some (.ref 139), none, some (.int (0 : Int32))]) dX12_years_79 rfl (Nat.le_of_ble_eq_true rfl) rfl ?_
            exact g_sub (z_sub_s (z_sub_n (z_sub_s z_sub_nil))) (ih.2 _ _ _ _ _ h hq)
          · replace h := z_iff (z_tb0.mp c8) h
            refine g_iconst (v := (-1 : Int32)) dX12_years_57 (by decide) ?_
            cases h
            exact g_iret dX12_years_58 rfl rfl hq
        · replace h := z_iff c5 h
          refine g_aload_n dX12_years_42 rfl rfl ?_
          refine g_iconst (v := (0 : Int32)) dX12_years_43 (by decide) ?_
          obtain ⟨q9, e10, h⟩ := z_bd h
          refine g_callV (a := 137) (as := [.int (0 : Int32)]) (rest := []) (c := mX12_readStep) (k1 := 15) dX12_years_44 rfl rfl rfl sh_137 rfl rfl (Nat.le_of_ble_eq_true rfl) (Nat.le_of_ble_eq_true rfl) (by decide) ?_
          refine A_X12_readStep 10 _ _ _ _ _ e10 ?_
          show z_G none 16 mX12_years 47 [some (.ref 139), none, none] [] q9.2 Q
          refine g_goto (t := 28) dX12_years_47 (by decide) ?_
          exact g_sub (z_sub_s (z_sub_n (z_sub_n z_sub_nil))) (ih.1 _ _ _ _ _ h hq)
    · rw [L_X12_years] at h
      replace h := z_iff (by decide) h
      replace h := z_ift rfl h
      refine g_iload_n dX12_years_80 rfl rfl ?_
      refine g_bipush (v := (9 : Int32)) dX12_years_81 (by decide) ?_
      refine g_aload_n dX12_years_83 rfl rfl ?_
      refine g_get (a := 137) (v := .int (M.1 137 25)) dX12_years_84 f_12_322 sh_137 rfl rfl ?_
      refine g_imul dX12_years_87 ?_
      refine g_ic_ge (t := 116) dX12_years_88 (by decide) (fun c11 => ?_) (fun c11 => ?_)
      · replace h := z_ift c11 h
        refine g_aload_n dX12_years_116 rfl rfl ?_
        refine g_get (a := 137) (v := .int (M.1 137 25)) dX12_years_117 f_12_322 sh_137 rfl rfl ?_
        cases h
        exact g_iret dX12_years_120 rfl rfl hq
      · replace h := z_iff c11 h
        refine g_aload_n dX12_years_91 rfl rfl ?_
        refine g_get (a := 137) (v := .ref 144) dX12_years_92 f_12_35 sh_137 rfl rfl ?_
        refine g_bipush (v := (105 : Int32)) dX12_years_95 (by decide) ?_
        refine g_iload_n dX12_years_97 rfl rfl ?_
        refine g_iadd dX12_years_98 ?_
        refine g_aload_n dX12_years_99 rfl rfl ?_
        refine g_get (a := 137) (v := .ref 144) dX12_years_100 f_12_35 sh_137 rfl rfl ?_
        refine g_sipush (v := (1605 : Int32)) dX12_years_103 (by decide) ?_
        refine g_iload_n dX12_years_106 rfl rfl ?_
        refine g_iadd dX12_years_107 ?_
        by_cases g12 : ((1605 : Int32) + x2) < 0 ∨ 1875 ≤ ((1605 : Int32) + x2).toNatClampNeg
        · rw [if_pos g12] at h; cases h
        replace h := z_iff g12 h
        refine g_iald (a := 142) dX12_years_108 sh_142 g12 ?_
        by_cases g13 : ((105 : Int32) + x2) < 0 ∨ 1875 ≤ ((105 : Int32) + x2).toNatClampNeg
        · rw [if_pos g13] at h; cases h
        replace h := z_iff g13 h
        refine g_iast (a := 142) dX12_years_109 sh_142 g13 ?_
        refine g_iinc (v := x2 + (1 : Int32)) (ls' := [some (.ref 139), none, some (.int (x2 + (1 : Int32)))]) dX12_years_110 rfl rfl rfl ?_
        refine g_goto (t := 80) dX12_years_113 (by decide) ?_
        exact g_sub (z_sub_s (z_sub_n (z_sub_s z_sub_nil))) (ih.2 _ _ _ _ _ h hq)
def F_X12_years (w : Nat) (M : z_Mem) (a1 : Int32) : Option (Int32 × z_Mem) :=
  (F_X12_starts w (z_wI (z_wI M 137 1 (0 : Int32)) 137 0 (0 : Int32)) a1 (300 : Int32)).bind fun q14 =>
  if q14.1 = true then
  L_X12_years w w 0 (z_wI q14.2 137 25 (0 : Int32)) 0
  else
  some ((-1 : Int32), q14.2)
set_option maxHeartbeats 4000000 in
theorem A_X12_years {w : Nat} {M : z_Mem} {a1 : Int32} {r : Int32} {M' : z_Mem} {Q : Option Value → z_Mem → Prop} (h : F_X12_years w M a1 = some (r, M')) (hq : Q (some (.int r)) M') : z_Cl 16 mX12_years [.ref 139, .int a1] M Q := by
  refine g_in (ls := [some (.ref 139), some (.int a1), none]) rfl ?_
  unfold F_X12_years at h
  refine g_aload_n dX12_years_0 rfl rfl ?_
  refine g_iconst (v := (0 : Int32)) dX12_years_1 (by decide) ?_
  refine g_putI (a := 137) dX12_years_2 f_12_57 sh_137 rfl rfl rfl ?_
  refine g_aload_n dX12_years_5 rfl rfl ?_
  refine g_iconst (v := (0 : Int32)) dX12_years_6 (by decide) ?_
  refine g_putI (a := 137) dX12_years_7 f_12_60 sh_137 rfl rfl rfl ?_
  refine g_aload_n dX12_years_10 rfl rfl ?_
  refine g_iload_n dX12_years_11 rfl rfl ?_
  refine g_sipush (v := (300 : Int32)) dX12_years_12 (by decide) ?_
  obtain ⟨q14, e15, h⟩ := z_bd h
  refine g_callV (a := 137) (as := [.int a1, .int (300 : Int32)]) (rest := []) (c := mX12_starts) (k1 := 2) dX12_years_15 rfl rfl rfl sh_137 rfl rfl (Nat.le_of_ble_eq_true rfl) (Nat.le_of_ble_eq_true rfl) (by decide) ?_
  refine A_X12_starts e15 ?_
  show z_G none 16 mX12_years 18 [some (.ref 139), some (.int a1), none] [.int (z_tb q14.1)] q14.2 Q
  refine g_if_ne (t := 23) dX12_years_18 (by decide) (fun c16 => ?_) (fun c16 => ?_)
  · replace h := z_ift (z_tbn.mp c16) h
    refine g_aload_n dX12_years_23 rfl rfl ?_
    refine g_iconst (v := (0 : Int32)) dX12_years_24 (by decide) ?_
    refine g_putI (a := 137) dX12_years_25 f_12_322 sh_137 rfl rfl rfl ?_
    exact g_sub (z_sub_s (z_sub_n (z_sub_n z_sub_nil))) ((AL_X12_years (w := w) w).1 _ _ _ _ _ h hq)
  · replace h := z_iff (z_tb0.mp c16) h
    refine g_iconst (v := (-1 : Int32)) dX12_years_21 (by decide) ?_
    cases h
    exact g_iret dX12_years_22 rfl rfl hq
theorem dX12_mean_0 : decode cX12_mean 0 = .ok (.aload_n 0, 1) := by decide +kernel
theorem dX12_mean_1 : decode cX12_mean 1 = .ok (.iconst 0, 1) := by decide +kernel
theorem dX12_mean_2 : decode cX12_mean 2 = .ok (.putfield 57, 3) := by decide +kernel
theorem dX12_mean_5 : decode cX12_mean 5 = .ok (.aload_n 0, 1) := by decide +kernel
theorem dX12_mean_6 : decode cX12_mean 6 = .ok (.iconst 0, 1) := by decide +kernel
theorem dX12_mean_7 : decode cX12_mean 7 = .ok (.putfield 60, 3) := by decide +kernel
theorem dX12_mean_10 : decode cX12_mean 10 = .ok (.iload_n 2, 1) := by decide +kernel
theorem dX12_mean_11 : decode cX12_mean 11 = .ok (.i2l, 1) := by decide +kernel
theorem dX12_mean_12 : decode cX12_mean 12 = .ok (.lconst 1, 1) := by decide +kernel
theorem dX12_mean_13 : decode cX12_mean 13 = .ok (.ldc2_w 390, 3) := by decide +kernel
theorem dX12_mean_16 : decode cX12_mean 16 = .ok (.invokestatic 92, 3) := by decide +kernel
theorem dX12_mean_19 : decode cX12_mean 19 = .ok (.ifCond .eq 18, 3) := by decide +kernel
theorem dX12_mean_22 : decode cX12_mean 22 = .ok (.iload_n 1, 1) := by decide +kernel
theorem dX12_mean_23 : decode cX12_mean 23 = .ok (.i2l, 1) := by decide +kernel
theorem dX12_mean_24 : decode cX12_mean 24 = .ok (.lconst 0, 1) := by decide +kernel
theorem dX12_mean_25 : decode cX12_mean 25 = .ok (.sipush 10000, 3) := by decide +kernel
theorem dX12_mean_28 : decode cX12_mean 28 = .ok (.iload_n 2, 1) := by decide +kernel
theorem dX12_mean_29 : decode cX12_mean 29 = .ok (.isub, 1) := by decide +kernel
theorem dX12_mean_30 : decode cX12_mean 30 = .ok (.i2l, 1) := by decide +kernel
theorem dX12_mean_31 : decode cX12_mean 31 = .ok (.invokestatic 92, 3) := by decide +kernel
theorem dX12_mean_34 : decode cX12_mean 34 = .ok (.ifCond .ne 9, 3) := by decide +kernel
theorem dX12_mean_37 : decode cX12_mean 37 = .ok (.aload_n 0, 1) := by decide +kernel
theorem dX12_mean_38 : decode cX12_mean 38 = .ok (.iconst 5, 1) := by decide +kernel
theorem dX12_mean_39 : decode cX12_mean 39 = .ok (.invokevirtual 72, 3) := by decide +kernel
theorem dX12_mean_42 : decode cX12_mean 42 = .ok (.ireturn, 1) := by decide +kernel
theorem dX12_mean_43 : decode cX12_mean 43 = .ok (.aload_n 0, 1) := by decide +kernel
theorem dX12_mean_44 : decode cX12_mean 44 = .ok (.getfield 35, 3) := by decide +kernel
theorem dX12_mean_47 : decode cX12_mean 47 = .ok (.bipush 103, 2) := by decide +kernel
theorem dX12_mean_49 : decode cX12_mean 49 = .ok (.iaload, 1) := by decide +kernel
theorem dX12_mean_50 : decode cX12_mean 50 = .ok (.ifCond .ne 10, 3) := by decide +kernel
theorem dX12_mean_53 : decode cX12_mean 53 = .ok (.aload_n 0, 1) := by decide +kernel
theorem dX12_mean_54 : decode cX12_mean 54 = .ok (.bipush 8, 2) := by decide +kernel
theorem dX12_mean_56 : decode cX12_mean 56 = .ok (.invokevirtual 72, 3) := by decide +kernel
theorem dX12_mean_59 : decode cX12_mean 59 = .ok (.ireturn, 1) := by decide +kernel
theorem dX12_mean_60 : decode cX12_mean 60 = .ok (.aload_n 0, 1) := by decide +kernel
theorem dX12_mean_61 : decode cX12_mean 61 = .ok (.invokevirtual 413, 3) := by decide +kernel
theorem dX12_mean_64 : decode cX12_mean 64 = .ok (.lconst 0, 1) := by decide +kernel
theorem dX12_mean_65 : decode cX12_mean 65 = .ok (.lstore_n 3, 1) := by decide +kernel
theorem dX12_mean_66 : decode cX12_mean 66 = .ok (.iconst 0, 1) := by decide +kernel
theorem dX12_mean_67 : decode cX12_mean 67 = .ok (.istore 5, 2) := by decide +kernel
theorem dX12_mean_69 : decode cX12_mean 69 = .ok (.iload 5, 2) := by decide +kernel
theorem dX12_mean_71 : decode cX12_mean 71 = .ok (.iload_n 2, 1) := by decide +kernel
theorem dX12_mean_72 : decode cX12_mean 72 = .ok (.if_icmp .ge 29, 3) := by decide +kernel
theorem dX12_mean_75 : decode cX12_mean 75 = .ok (.aload_n 0, 1) := by decide +kernel
theorem dX12_mean_76 : decode cX12_mean 76 = .ok (.iload_n 1, 1) := by decide +kernel
theorem dX12_mean_77 : decode cX12_mean 77 = .ok (.iload 5, 2) := by decide +kernel
theorem dX12_mean_79 : decode cX12_mean 79 = .ok (.iadd, 1) := by decide +kernel
theorem dX12_mean_80 : decode cX12_mean 80 = .ok (.invokevirtual 525, 3) := by decide +kernel
theorem dX12_mean_83 : decode cX12_mean 83 = .ok (.lload_n 3, 1) := by decide +kernel
theorem dX12_mean_84 : decode cX12_mean 84 = .ok (.aload_n 0, 1) := by decide +kernel
theorem dX12_mean_85 : decode cX12_mean 85 = .ok (.invokevirtual 384, 3) := by decide +kernel
theorem dX12_mean_88 : decode cX12_mean 88 = .ok (.i2l, 1) := by decide +kernel
theorem dX12_mean_89 : decode cX12_mean 89 = .ok (.ladd, 1) := by decide +kernel
theorem dX12_mean_90 : decode cX12_mean 90 = .ok (.lstore_n 3, 1) := by decide +kernel
theorem dX12_mean_91 : decode cX12_mean 91 = .ok (.aload_n 0, 1) := by decide +kernel
theorem dX12_mean_92 : decode cX12_mean 92 = .ok (.invokevirtual 416, 3) := by decide +kernel
theorem dX12_mean_95 : decode cX12_mean 95 = .ok (.iinc 5 1, 3) := by decide +kernel
theorem dX12_mean_98 : decode cX12_mean 98 = .ok (.goto (-29), 3) := by decide +kernel
theorem dX12_mean_101 : decode cX12_mean 101 = .ok (.aload_n 0, 1) := by decide +kernel
theorem dX12_mean_102 : decode cX12_mean 102 = .ok (.lload_n 3, 1) := by decide +kernel
theorem dX12_mean_103 : decode cX12_mean 103 = .ok (.iload_n 2, 1) := by decide +kernel
theorem dX12_mean_104 : decode cX12_mean 104 = .ok (.i2l, 1) := by decide +kernel
theorem dX12_mean_105 : decode cX12_mean 105 = .ok (.invokevirtual 468, 3) := by decide +kernel
theorem dX12_mean_108 : decode cX12_mean 108 = .ok (.ireturn, 1) := by decide +kernel
def L_X12_mean (w : Nat) : Nat → z_Mem → Int32 → Int32 → Int64 → Int32 → Option (Bool × z_Mem)
  | 0, _, _, _, _, _ => none
  | c + 1, M, x1, x2, x3, x5 =>
    if x2 ≤ x5 then
    (F_X12_fraction w M x3 x2.toInt64).bind fun q2 =>
    some (q2.1, q2.2)
    else
    (F_X12_runsYears w M (x1 + x5)).bind fun q4 =>
    (F_X12_bothChests w q4.2).bind fun q6 =>
    (F_X12_restores w q6.2).bind fun q8 =>
    L_X12_mean w c q8.2 x1 x2 (x3 + q6.1.toInt64) (x5 + (1 : Int32))
set_option maxHeartbeats 4000000 in
theorem AL_X12_mean {w : Nat} : ∀ (c : Nat), (∀ (M : z_Mem) (x1 : Int32) (x2 : Int32) (x3 : Int64) (x5 : Int32) (r : Bool) (M' : z_Mem) (Q : Option Value → z_Mem → Prop), L_X12_mean w c M x1 x2 x3 x5 = some (r, M') → Q (some (.int (z_tb r))) M' → z_G none 28 mX12_mean 69 [some (.ref 139), some (.int x1), some (.int x2), some (.long x3), none, some (.int x5)] [] M Q) := by
  intro c
  induction c with
  | zero => exact (fun M x1 x2 x3 x5 r M' Q h hq => by rw [L_X12_mean] at h; cases h)
  | succ c ih =>
    intro M x1 x2 x3 x5 r M' Q h hq
    rw [L_X12_mean] at h
    refine g_iload dX12_mean_69 rfl ?_
    refine g_iload_n dX12_mean_71 rfl rfl ?_
    refine g_ic_ge (t := 101) dX12_mean_72 (by decide) (fun c1 => ?_) (fun c1 => ?_)
    · replace h := z_ift c1 h
      refine g_aload_n dX12_mean_101 rfl rfl ?_
      refine g_lload_n dX12_mean_102 rfl rfl ?_
      refine g_iload_n dX12_mean_103 rfl rfl ?_
      refine g_i2l dX12_mean_104 ?_
      obtain ⟨q2, e3, h⟩ := z_bd h
      refine g_callV (a := 137) (as := [.long x3, .long x2.toInt64]) (rest := []) (c := mX12_fraction) (k1 := 0) dX12_mean_105 rfl rfl rfl sh_137 rfl rfl (Nat.le_of_ble_eq_true rfl) (Nat.le_of_ble_eq_true rfl) (by decide) ?_
      refine A_X12_fraction e3 ?_
      show z_G none 28 mX12_mean 108 [some (.ref 139), some (.int x1), some (.int x2), some (.long x3), none, some (.int x5)] [.int (z_tb q2.1)] q2.2 Q
      cases h
      exact g_iret dX12_mean_108 rfl nb_tb hq
    · replace h := z_iff c1 h
      refine g_aload_n dX12_mean_75 rfl rfl ?_
      refine g_iload_n dX12_mean_76 rfl rfl ?_
      refine g_iload dX12_mean_77 rfl ?_
      refine g_iadd dX12_mean_79 ?_
      obtain ⟨q4, e5, h⟩ := z_bd h
      refine g_callV (a := 137) (as := [.int (x1 + x5)]) (rest := []) (c := mX12_runsYears) (k1 := 27) dX12_mean_80 rfl rfl rfl sh_137 rfl rfl (Nat.le_of_ble_eq_true rfl) (Nat.le_of_ble_eq_true rfl) (by decide) ?_
      refine A_X12_runsYears e5 ?_
      show z_G none 28 mX12_mean 83 [some (.ref 139), some (.int x1), some (.int x2), some (.long x3), none, some (.int x5)] [] q4.2 Q
      refine g_lload_n dX12_mean_83 rfl rfl ?_
      refine g_aload_n dX12_mean_84 rfl rfl ?_
      obtain ⟨q6, e7, h⟩ := z_bd h
      refine g_callV (a := 137) (as := []) (rest := [.long x3]) (c := mX12_bothChests) (k1 := 0) dX12_mean_85 rfl rfl rfl sh_137 rfl rfl (Nat.le_of_ble_eq_true rfl) (Nat.le_of_ble_eq_true rfl) (by decide) ?_
      refine A_X12_bothChests e7 ?_
      show z_G none 28 mX12_mean 88 [some (.ref 139), some (.int x1), some (.int x2), some (.long x3), none, some (.int x5)] [.int q6.1, .long x3] q6.2 Q
      refine g_i2l dX12_mean_88 ?_
      refine g_ladd dX12_mean_89 ?_
      refine g_lstore_n (ls' := [some (.ref 139), some (.int x1), some (.int x2), some (.long (x3 + q6.1.toInt64)), none, some (.int x5)]) dX12_mean_90 rfl (Nat.le_of_ble_eq_true rfl) rfl ?_
      refine g_aload_n dX12_mean_91 rfl rfl ?_
      obtain ⟨q8, e9, h⟩ := z_bd h
      refine g_callV (a := 137) (as := []) (rest := []) (c := mX12_restores) (k1 := 0) dX12_mean_92 rfl rfl rfl sh_137 rfl rfl (Nat.le_of_ble_eq_true rfl) (Nat.le_of_ble_eq_true rfl) (by decide) ?_
      refine A_X12_restores e9 ?_
      show z_G none 28 mX12_mean 95 [some (.ref 139), some (.int x1), some (.int x2), some (.long (x3 + q6.1.toInt64)), none, some (.int x5)] [] q8.2 Q
      refine g_iinc (v := x5 + (1 : Int32)) (ls' := [some (.ref 139), some (.int x1), some (.int x2), some (.long (x3 + q6.1.toInt64)), none, some (.int (x5 + (1 : Int32)))]) dX12_mean_95 rfl rfl rfl ?_
      refine g_goto (t := 69) dX12_mean_98 (by decide) ?_
      exact g_sub (z_sub_s (z_sub_s (z_sub_s (z_sub_s (z_sub_n (z_sub_s z_sub_nil)))))) (ih _ _ _ _ _ _ _ _ h hq)
def F_X12_mean (w : Nat) (M : z_Mem) (a1 : Int32) (a2 : Int32) : Option (Bool × z_Mem) :=
  (F_X12_isIn w (z_wI (z_wI M 137 1 (0 : Int32)) 137 0 (0 : Int32)) a2.toInt64 (1 : Int64) (20 : Int64)).bind fun q10 =>
  if q10.1 = true then
  (F_X12_isIn w q10.2 a1.toInt64 (0 : Int64) (((10000 : Int32) - a2).toInt64)).bind fun q15 =>
  if q15.1 = true then
  if (q15.2.1 142 103) = (0 : Int32) then
  (F_X12_no w q15.2 (8 : Int32)).bind fun q21 =>
  some (q21.1, q21.2)
  else
  (F_X12_keeps w q15.2).bind fun q19 =>
  L_X12_mean w w q19.2 a1 a2 (0 : Int64) (0 : Int32)
  else
  (F_X12_no w q15.2 (5 : Int32)).bind fun q23 =>
  some (q23.1, q23.2)
  else
  (F_X12_no w q10.2 (5 : Int32)).bind fun q13 =>
  some (q13.1, q13.2)
set_option maxHeartbeats 4000000 in
theorem A_X12_mean {w : Nat} {M : z_Mem} {a1 : Int32} {a2 : Int32} {r : Bool} {M' : z_Mem} {Q : Option Value → z_Mem → Prop} (h : F_X12_mean w M a1 a2 = some (r, M')) (hq : Q (some (.int (z_tb r))) M') : z_Cl 28 mX12_mean [.ref 139, .int a1, .int a2] M Q := by
  refine g_in (ls := [some (.ref 139), some (.int a1), some (.int a2), none, none, none]) rfl ?_
  unfold F_X12_mean at h
  refine g_aload_n dX12_mean_0 rfl rfl ?_
  refine g_iconst (v := (0 : Int32)) dX12_mean_1 (by decide) ?_
  refine g_putI (a := 137) dX12_mean_2 f_12_57 sh_137 rfl rfl rfl ?_
  refine g_aload_n dX12_mean_5 rfl rfl ?_
  refine g_iconst (v := (0 : Int32)) dX12_mean_6 (by decide) ?_
  refine g_putI (a := 137) dX12_mean_7 f_12_60 sh_137 rfl rfl rfl ?_
  refine g_iload_n dX12_mean_10 rfl rfl ?_
  refine g_i2l dX12_mean_11 ?_
  refine g_lconst (v := (1 : Int64)) dX12_mean_12 (by decide) ?_
  refine g_ldc2_w dX12_mean_13 rfl ?_
  obtain ⟨q10, e11, h⟩ := z_bd h
  refine g_callS (as := [.long a2.toInt64, .long (1 : Int64), .long (20 : Int64)]) (rest := []) (c := mX12_isIn) (k1 := 0) dX12_mean_16 rfl rfl rfl rfl rfl (Nat.le_of_ble_eq_true rfl) (Nat.le_of_ble_eq_true rfl) (by decide) ?_
  refine A_X12_isIn e11 ?_
  show z_G none 28 mX12_mean 19 [some (.ref 139), some (.int a1), some (.int a2), none, none, none] [.int (z_tb q10.1)] q10.2 Q
  refine g_if_eq (t := 37) dX12_mean_19 (by decide) (fun c12 => ?_) (fun c12 => ?_)
  · replace h := z_iff (z_tb0.mp c12) h
    refine g_aload_n dX12_mean_37 rfl rfl ?_
    refine g_iconst (v := (5 : Int32)) dX12_mean_38 (by decide) ?_
    obtain ⟨q13, e14, h⟩ := z_bd h
    refine g_callV (a := 137) (as := [.int (5 : Int32)]) (rest := []) (c := mX12_no) (k1 := 0) dX12_mean_39 rfl rfl rfl sh_137 rfl rfl (Nat.le_of_ble_eq_true rfl) (Nat.le_of_ble_eq_true rfl) (by decide) ?_
    refine A_X12_no e14 ?_
    show z_G none 28 mX12_mean 42 [some (.ref 139), some (.int a1), some (.int a2), none, none, none] [.int (z_tb q13.1)] q13.2 Q
    cases h
    exact g_iret dX12_mean_42 rfl nb_tb hq
  · replace h := z_ift (z_tbn.mp c12) h
    refine g_iload_n dX12_mean_22 rfl rfl ?_
    refine g_i2l dX12_mean_23 ?_
    refine g_lconst (v := (0 : Int64)) dX12_mean_24 (by decide) ?_
    refine g_sipush (v := (10000 : Int32)) dX12_mean_25 (by decide) ?_
    refine g_iload_n dX12_mean_28 rfl rfl ?_
    refine g_isub dX12_mean_29 ?_
    refine g_i2l dX12_mean_30 ?_
    obtain ⟨q15, e16, h⟩ := z_bd h
    refine g_callS (as := [.long a1.toInt64, .long (0 : Int64), .long (((10000 : Int32) - a2).toInt64)]) (rest := []) (c := mX12_isIn) (k1 := 0) dX12_mean_31 rfl rfl rfl rfl rfl (Nat.le_of_ble_eq_true rfl) (Nat.le_of_ble_eq_true rfl) (by decide) ?_
    refine A_X12_isIn e16 ?_
    show z_G none 28 mX12_mean 34 [some (.ref 139), some (.int a1), some (.int a2), none, none, none] [.int (z_tb q15.1)] q15.2 Q
    refine g_if_ne (t := 43) dX12_mean_34 (by decide) (fun c17 => ?_) (fun c17 => ?_)
    · replace h := z_ift (z_tbn.mp c17) h
      refine g_aload_n dX12_mean_43 rfl rfl ?_
      refine g_get (a := 137) (v := .ref 144) dX12_mean_44 f_12_35 sh_137 rfl rfl ?_
      refine g_bipush (v := (103 : Int32)) dX12_mean_47 (by decide) ?_
      refine g_ialN (a := 142) (j := 103) (v := q15.2.1 142 103) dX12_mean_49 sh_142 rfl (by decide) rfl ?_
      refine g_if_ne (t := 60) dX12_mean_50 (by decide) (fun c18 => ?_) (fun c18 => ?_)
      · replace h := z_iff c18 h
        refine g_aload_n dX12_mean_60 rfl rfl ?_
        obtain ⟨q19, e20, h⟩ := z_bd h
        refine g_callV (a := 137) (as := []) (rest := []) (c := mX12_keeps) (k1 := 0) dX12_mean_61 rfl rfl rfl sh_137 rfl rfl (Nat.le_of_ble_eq_true rfl) (Nat.le_of_ble_eq_true rfl) (by decide) ?_
        refine A_X12_keeps e20 ?_
        show z_G none 28 mX12_mean 64 [some (.ref 139), some (.int a1), some (.int a2), none, none, none] [] q19.2 Q
        refine g_lconst (v := (0 : Int64)) dX12_mean_64 (by decide) ?_
        refine g_lstore_n (ls' := [some (.ref 139), some (.int a1), some (.int a2), some (.long (0 : Int64)), none, none]) dX12_mean_65 rfl (Nat.le_of_ble_eq_true rfl) rfl ?_
        refine g_iconst (v := (0 : Int32)) dX12_mean_66 (by decide) ?_
        refine g_istore (ls' := [some (.ref 139), some (.int a1), some (.int a2), some (.long (0 : Int64)), none, some (.int (0 : Int32))]) dX12_mean_67 (Nat.le_of_ble_eq_true rfl) rfl ?_
        exact g_sub (z_sub_s (z_sub_s (z_sub_s (z_sub_s (z_sub_n (z_sub_s z_sub_nil)))))) ((AL_X12_mean (w := w) w) _ _ _ _ _ _ _ _ h hq)
      · replace h := z_ift c18 h
        refine g_aload_n dX12_mean_53 rfl rfl ?_
        refine g_bipush (v := (8 : Int32)) dX12_mean_54 (by decide) ?_
        obtain ⟨q21, e22, h⟩ := z_bd h
        refine g_callV (a := 137) (as := [.int (8 : Int32)]) (rest := []) (c := mX12_no) (k1 := 0) dX12_mean_56 rfl rfl rfl sh_137 rfl rfl (Nat.le_of_ble_eq_true rfl) (Nat.le_of_ble_eq_true rfl) (by decide) ?_
        refine A_X12_no e22 ?_
        show z_G none 28 mX12_mean 59 [some (.ref 139), some (.int a1), some (.int a2), none, none, none] [.int (z_tb q21.1)] q21.2 Q
        cases h
        exact g_iret dX12_mean_59 rfl nb_tb hq
    · replace h := z_iff (z_tb0.mp c17) h
      refine g_aload_n dX12_mean_37 rfl rfl ?_
      refine g_iconst (v := (5 : Int32)) dX12_mean_38 (by decide) ?_
      obtain ⟨q23, e24, h⟩ := z_bd h
      refine g_callV (a := 137) (as := [.int (5 : Int32)]) (rest := []) (c := mX12_no) (k1 := 0) dX12_mean_39 rfl rfl rfl sh_137 rfl rfl (Nat.le_of_ble_eq_true rfl) (Nat.le_of_ble_eq_true rfl) (by decide) ?_
      refine A_X12_no e24 ?_
      show z_G none 28 mX12_mean 42 [some (.ref 139), some (.int a1), some (.int a2), none, none, none] [.int (z_tb q23.1)] q23.2 Q
      cases h
      exact g_iret dX12_mean_42 rfl nb_tb hq
theorem dX11_moveOf_0 : decode cX11_moveOf 0 = .ok (.iload_n 1, 1) := by decide +kernel
theorem dX11_moveOf_1 : decode cX11_moveOf 1 = .ok (.iconst 1, 1) := by decide +kernel
theorem dX11_moveOf_2 : decode cX11_moveOf 2 = .ok (.iconst 4, 1) := by decide +kernel
theorem dX11_moveOf_3 : decode cX11_moveOf 3 = .ok (.invokestatic 283, 3) := by decide +kernel
theorem dX11_moveOf_6 : decode cX11_moveOf 6 = .ok (.ifCond .ne 9, 3) := by decide +kernel
theorem dX11_moveOf_9 : decode cX11_moveOf 9 = .ok (.aload_n 0, 1) := by decide +kernel
theorem dX11_moveOf_10 : decode cX11_moveOf 10 = .ok (.iconst 5, 1) := by decide +kernel
theorem dX11_moveOf_11 : decode cX11_moveOf 11 = .ok (.invokevirtual 113, 3) := by decide +kernel
theorem dX11_moveOf_14 : decode cX11_moveOf 14 = .ok (.ireturn, 1) := by decide +kernel
theorem dX11_moveOf_15 : decode cX11_moveOf 15 = .ok (.aload_n 0, 1) := by decide +kernel
theorem dX11_moveOf_16 : decode cX11_moveOf 16 = .ok (.getfield 62, 3) := by decide +kernel
theorem dX11_moveOf_19 : decode cX11_moveOf 19 = .ok (.aload_n 0, 1) := by decide +kernel
theorem dX11_moveOf_20 : decode cX11_moveOf 20 = .ok (.getfield 26, 3) := by decide +kernel
theorem dX11_moveOf_23 : decode cX11_moveOf 23 = .ok (.invokevirtual 315, 3) := by decide +kernel
theorem dX11_moveOf_26 : decode cX11_moveOf 26 = .ok (.aload_n 0, 1) := by decide +kernel
theorem dX11_moveOf_27 : decode cX11_moveOf 27 = .ok (.getfield 62, 3) := by decide +kernel
theorem dX11_moveOf_30 : decode cX11_moveOf 30 = .ok (.iload_n 1, 1) := by decide +kernel
theorem dX11_moveOf_31 : decode cX11_moveOf 31 = .ok (.invokevirtual 368, 3) := by decide +kernel
theorem dX11_moveOf_34 : decode cX11_moveOf 34 = .ok (.istore_n 2, 1) := by decide +kernel
theorem dX11_moveOf_35 : decode cX11_moveOf 35 = .ok (.iload_n 2, 1) := by decide +kernel
theorem dX11_moveOf_36 : decode cX11_moveOf 36 = .ok (.iconst (-1), 1) := by decide +kernel
theorem dX11_moveOf_37 : decode cX11_moveOf 37 = .ok (.if_icmp .ne 12, 3) := by decide +kernel
theorem dX11_moveOf_40 : decode cX11_moveOf 40 = .ok (.aload_n 0, 1) := by decide +kernel
theorem dX11_moveOf_41 : decode cX11_moveOf 41 = .ok (.bipush 8, 2) := by decide +kernel
theorem dX11_moveOf_43 : decode cX11_moveOf 43 = .ok (.invokevirtual 113, 3) := by decide +kernel
theorem dX11_moveOf_46 : decode cX11_moveOf 46 = .ok (.goto 8, 3) := by decide +kernel
theorem dX11_moveOf_49 : decode cX11_moveOf 49 = .ok (.aload_n 0, 1) := by decide +kernel
theorem dX11_moveOf_50 : decode cX11_moveOf 50 = .ok (.iload_n 2, 1) := by decide +kernel
theorem dX11_moveOf_51 : decode cX11_moveOf 51 = .ok (.invokevirtual 164, 3) := by decide +kernel
theorem dX11_moveOf_54 : decode cX11_moveOf 54 = .ok (.ireturn, 1) := by decide +kernel
def F_X11_moveOf (w : Nat) (M : z_Mem) (a1 : Int32) : Option (Int32 × z_Mem) :=
  (F_X11_isWithin w M a1 (1 : Int32) (4 : Int32)).bind fun q1 =>
  if q1.1 = true then
  (F_X5_weigh w q1.2 7).bind fun q4 =>
  (F_X5_firstMove w q4.2 a1).bind fun q6 =>
  if q6.1 = (-1 : Int32) then
  (F_X11_refuse w q6.2 (8 : Int32)).bind fun q11 =>
  some (q11.1, q11.2)
  else
  (F_X11_answer w q6.2 q6.1).bind fun q9 =>
  some (q9.1, q9.2)
  else
  (F_X11_refuse w q1.2 (5 : Int32)).bind fun q13 =>
  some (q13.1, q13.2)
set_option maxHeartbeats 4000000 in
theorem A_X11_moveOf {w : Nat} {M : z_Mem} {a1 : Int32} {r : Int32} {M' : z_Mem} {Q : Option Value → z_Mem → Prop} (h : F_X11_moveOf w M a1 = some (r, M')) (hq : Q (some (.int r)) M') : z_Cl 13 mX11_moveOf [.ref 2, .int a1] M Q := by
  refine g_in (ls := [some (.ref 2), some (.int a1), none]) rfl ?_
  unfold F_X11_moveOf at h
  refine g_iload_n dX11_moveOf_0 rfl rfl ?_
  refine g_iconst (v := (1 : Int32)) dX11_moveOf_1 (by decide) ?_
  refine g_iconst (v := (4 : Int32)) dX11_moveOf_2 (by decide) ?_
  obtain ⟨q1, e2, h⟩ := z_bd h
  refine g_callS (as := [.int a1, .int (1 : Int32), .int (4 : Int32)]) (rest := []) (c := mX11_isWithin) (k1 := 0) dX11_moveOf_3 rfl rfl rfl rfl rfl (Nat.le_of_ble_eq_true rfl) (Nat.le_of_ble_eq_true rfl) (by decide) ?_
  refine A_X11_isWithin e2 ?_
  show z_G none 13 mX11_moveOf 6 [some (.ref 2), some (.int a1), none] [.int (z_tb q1.1)] q1.2 Q
  refine g_if_ne (t := 15) dX11_moveOf_6 (by decide) (fun c3 => ?_) (fun c3 => ?_)
  · replace h := z_ift (z_tbn.mp c3) h
    refine g_aload_n dX11_moveOf_15 rfl rfl ?_
    refine g_get (a := 0) (v := .ref 61) dX11_moveOf_16 f_11_62 sh_0 rfl rfl ?_
    refine g_aload_n dX11_moveOf_19 rfl rfl ?_
    refine g_get (a := 0) (v := .ref 9) dX11_moveOf_20 f_11_26 sh_0 rfl rfl ?_
    obtain ⟨q4, e5, h⟩ := z_bd h
    refine g_callV (a := 59) (as := [.ref 9]) (rest := []) (c := mX5_weigh) (k1 := 2) dX11_moveOf_23 rfl rfl rfl sh_59 rfl rfl (Nat.le_of_ble_eq_true rfl) (Nat.le_of_ble_eq_true rfl) (by decide) ?_
    refine A_X5_weigh z_par_7 e5 ?_
    show z_G none 13 mX11_moveOf 26 [some (.ref 2), some (.int a1), none] [] q4.2 Q
    refine g_aload_n dX11_moveOf_26 rfl rfl ?_
    refine g_get (a := 0) (v := .ref 61) dX11_moveOf_27 f_11_62 sh_0 rfl rfl ?_
    refine g_iload_n dX11_moveOf_30 rfl rfl ?_
    obtain ⟨q6, e7, h⟩ := z_bd h
    refine g_callV (a := 59) (as := [.int a1]) (rest := []) (c := mX5_firstMove) (k1 := 12) dX11_moveOf_31 rfl rfl rfl sh_59 rfl rfl (Nat.le_of_ble_eq_true rfl) (Nat.le_of_ble_eq_true rfl) (by decide) ?_
    refine A_X5_firstMove e7 ?_
    show z_G none 13 mX11_moveOf 34 [some (.ref 2), some (.int a1), none] [.int q6.1] q6.2 Q
    refine g_istore_n (ls' := [some (.ref 2), some (.int a1), some (.int q6.1)]) dX11_moveOf_34 rfl (Nat.le_of_ble_eq_true rfl) rfl ?_
    refine g_iload_n dX11_moveOf_35 rfl rfl ?_
    refine g_iconst (v := (-1 : Int32)) dX11_moveOf_36 (by decide) ?_
    refine g_ic_ne (t := 49) dX11_moveOf_37 (by decide) (fun c8 => ?_) (fun c8 => ?_)
    · replace h := z_iff c8 h
      refine g_aload_n dX11_moveOf_49 rfl rfl ?_
      refine g_iload_n dX11_moveOf_50 rfl rfl ?_
      obtain ⟨q9, e10, h⟩ := z_bd h
      refine g_callV (a := 0) (as := [.int q6.1]) (rest := []) (c := mX11_answer) (k1 := 0) dX11_moveOf_51 rfl rfl rfl sh_0 rfl rfl (Nat.le_of_ble_eq_true rfl) (Nat.le_of_ble_eq_true rfl) (by decide) ?_
      refine A_X11_answer e10 ?_
      show z_G none 13 mX11_moveOf 54 [some (.ref 2), some (.int a1), some (.int q6.1)] [.int q9.1] q9.2 Q
      cases h
      exact g_iret dX11_moveOf_54 rfl rfl hq
    · replace h := z_ift c8 h
      refine g_aload_n dX11_moveOf_40 rfl rfl ?_
      refine g_bipush (v := (8 : Int32)) dX11_moveOf_41 (by decide) ?_
      obtain ⟨q11, e12, h⟩ := z_bd h
      refine g_callV (a := 0) (as := [.int (8 : Int32)]) (rest := []) (c := mX11_refuse) (k1 := 0) dX11_moveOf_43 rfl rfl rfl sh_0 rfl rfl (Nat.le_of_ble_eq_true rfl) (Nat.le_of_ble_eq_true rfl) (by decide) ?_
      refine A_X11_refuse e12 ?_
      show z_G none 13 mX11_moveOf 46 [some (.ref 2), some (.int a1), some (.int q6.1)] [.int q11.1] q11.2 Q
      refine g_goto (t := 54) dX11_moveOf_46 (by decide) ?_
      cases h
      exact g_iret dX11_moveOf_54 rfl rfl hq
  · replace h := z_iff (z_tb0.mp c3) h
    refine g_aload_n dX11_moveOf_9 rfl rfl ?_
    refine g_iconst (v := (5 : Int32)) dX11_moveOf_10 (by decide) ?_
    obtain ⟨q13, e14, h⟩ := z_bd h
    refine g_callV (a := 0) (as := [.int (5 : Int32)]) (rest := []) (c := mX11_refuse) (k1 := 0) dX11_moveOf_11 rfl rfl rfl sh_0 rfl rfl (Nat.le_of_ble_eq_true rfl) (Nat.le_of_ble_eq_true rfl) (by decide) ?_
    refine A_X11_refuse e14 ?_
    show z_G none 13 mX11_moveOf 14 [some (.ref 2), some (.int a1), none] [.int q13.1] q13.2 Q
    cases h
    exact g_iret dX11_moveOf_14 rfl rfl hq
theorem dX5_playedOut_0 : decode cX5_playedOut 0 = .ok (.aload_n 0, 1) := by decide +kernel
theorem dX5_playedOut_1 : decode cX5_playedOut 1 = .ok (.iconst 0, 1) := by decide +kernel
theorem dX5_playedOut_2 : decode cX5_playedOut 2 = .ok (.iconst 0, 1) := by decide +kernel
theorem dX5_playedOut_3 : decode cX5_playedOut 3 = .ok (.iload_n 1, 1) := by decide +kernel
theorem dX5_playedOut_4 : decode cX5_playedOut 4 = .ok (.iconst 1, 1) := by decide +kernel
theorem dX5_playedOut_5 : decode cX5_playedOut 5 = .ok (.ldc 104, 2) := by decide +kernel
theorem dX5_playedOut_7 : decode cX5_playedOut 7 = .ok (.ldc 113, 2) := by decide +kernel
theorem dX5_playedOut_9 : decode cX5_playedOut 9 = .ok (.invokestatic 114, 3) := by decide +kernel
theorem dX5_playedOut_12 : decode cX5_playedOut 12 = .ok (.ireturn, 1) := by decide +kernel
def F_X5_playedOut (w : Nat) (M : z_Mem) (a1 : Int32) : Option (Int32 × z_Mem) :=
  (F_X5_bestPlay w 10 M (0 : Int32) (0 : Int32) a1 (1 : Int32) (-1000000 : Int32) (1000000 : Int32)).bind fun q1 =>
  some (q1.1, q1.2)
set_option maxHeartbeats 4000000 in
theorem A_X5_playedOut {w : Nat} {M : z_Mem} {a1 : Int32} {r : Int32} {M' : z_Mem} {Q : Option Value → z_Mem → Prop} (h : F_X5_playedOut w M a1 = some (r, M')) (hq : Q (some (.int r)) M') : z_Cl 12 mX5_playedOut [.ref 61, .int a1] M Q := by
  refine g_in (ls := [some (.ref 61), some (.int a1)]) rfl ?_
  unfold F_X5_playedOut at h
  refine g_aload_n dX5_playedOut_0 rfl rfl ?_
  refine g_iconst (v := (0 : Int32)) dX5_playedOut_1 (by decide) ?_
  refine g_iconst (v := (0 : Int32)) dX5_playedOut_2 (by decide) ?_
  refine g_iload_n dX5_playedOut_3 rfl rfl ?_
  refine g_iconst (v := (1 : Int32)) dX5_playedOut_4 (by decide) ?_
  refine g_ldc dX5_playedOut_5 rfl ?_
  refine g_ldc dX5_playedOut_7 rfl ?_
  obtain ⟨q1, e2, h⟩ := z_bd h
  refine g_callS (as := [.ref 61, .int (0 : Int32), .int (0 : Int32), .int a1, .int (1 : Int32), .int (-1000000 : Int32), .int (1000000 : Int32)]) (rest := []) (c := mX5_bestPlay) (k1 := 11) dX5_playedOut_9 rfl rfl rfl rfl rfl (Nat.le_of_ble_eq_true rfl) (Nat.le_of_ble_eq_true rfl) (by decide) ?_
  refine A_X5_bestPlay 10 _ _ _ _ _ _ _ _ _ _ e2 ?_
  show z_G none 12 mX5_playedOut 12 [some (.ref 61), some (.int a1)] [.int q1.1] q1.2 Q
  cases h
  exact g_iret dX5_playedOut_12 rfl rfl hq
theorem dX12_game_0 : decode cX12_game 0 = .ok (.aload_n 0, 1) := by decide +kernel
theorem dX12_game_1 : decode cX12_game 1 = .ok (.iconst 0, 1) := by decide +kernel
theorem dX12_game_2 : decode cX12_game 2 = .ok (.putfield 57, 3) := by decide +kernel
theorem dX12_game_5 : decode cX12_game 5 = .ok (.aload_n 0, 1) := by decide +kernel
theorem dX12_game_6 : decode cX12_game 6 = .ok (.iconst 0, 1) := by decide +kernel
theorem dX12_game_7 : decode cX12_game 7 = .ok (.putfield 60, 3) := by decide +kernel
theorem dX12_game_10 : decode cX12_game 10 = .ok (.iload_n 1, 1) := by decide +kernel
theorem dX12_game_11 : decode cX12_game 11 = .ok (.i2l, 1) := by decide +kernel
theorem dX12_game_12 : decode cX12_game 12 = .ok (.lconst 0, 1) := by decide +kernel
theorem dX12_game_13 : decode cX12_game 13 = .ok (.ldc2_w 342, 3) := by decide +kernel
theorem dX12_game_16 : decode cX12_game 16 = .ok (.invokestatic 92, 3) := by decide +kernel
theorem dX12_game_19 : decode cX12_game 19 = .ok (.ifCond .ne 9, 3) := by decide +kernel
theorem dX12_game_22 : decode cX12_game 22 = .ok (.aload_n 0, 1) := by decide +kernel
theorem dX12_game_23 : decode cX12_game 23 = .ok (.iconst 5, 1) := by decide +kernel
theorem dX12_game_24 : decode cX12_game 24 = .ok (.invokevirtual 333, 3) := by decide +kernel
theorem dX12_game_27 : decode cX12_game 27 = .ok (.ireturn, 1) := by decide +kernel
theorem dX12_game_28 : decode cX12_game 28 = .ok (.aload_n 0, 1) := by decide +kernel
theorem dX12_game_29 : decode cX12_game 29 = .ok (.iconst (-1), 1) := by decide +kernel
theorem dX12_game_30 : decode cX12_game 30 = .ok (.invokevirtual 431, 3) := by decide +kernel
theorem dX12_game_33 : decode cX12_game 33 = .ok (.aload_n 0, 1) := by decide +kernel
theorem dX12_game_34 : decode cX12_game 34 = .ok (.iconst 0, 1) := by decide +kernel
theorem dX12_game_35 : decode cX12_game 35 = .ok (.iload_n 1, 1) := by decide +kernel
theorem dX12_game_36 : decode cX12_game 36 = .ok (.iconst 0, 1) := by decide +kernel
theorem dX12_game_37 : decode cX12_game 37 = .ok (.iconst 0, 1) := by decide +kernel
theorem dX12_game_38 : decode cX12_game 38 = .ok (.invokevirtual 461, 3) := by decide +kernel
theorem dX12_game_41 : decode cX12_game 41 = .ok (.ireturn, 1) := by decide +kernel
def F_X12_game (w : Nat) (M : z_Mem) (a1 : Int32) : Option (Int32 × z_Mem) :=
  (F_X12_isIn w (z_wI (z_wI M 137 1 (0 : Int32)) 137 0 (0 : Int32)) a1.toInt64 (0 : Int64) (4 : Int64)).bind fun q1 =>
  if q1.1 = true then
  (F_X12_laysPlans w q1.2 (-1 : Int32)).bind fun q4 =>
  (F_X12_plays w 10 q4.2 (0 : Int32) a1 (0 : Int32) (0 : Int32)).bind fun q6 =>
  some (q6.1, q6.2)
  else
  (F_X12_refuse w q1.2 (5 : Int32)).bind fun q8 =>
  some (q8.1, q8.2)
set_option maxHeartbeats 4000000 in
theorem A_X12_game {w : Nat} {M : z_Mem} {a1 : Int32} {r : Int32} {M' : z_Mem} {Q : Option Value → z_Mem → Prop} (h : F_X12_game w M a1 = some (r, M')) (hq : Q (some (.int r)) M') : z_Cl 11 mX12_game [.ref 139, .int a1] M Q := by
  refine g_in (ls := [some (.ref 139), some (.int a1)]) rfl ?_
  unfold F_X12_game at h
  refine g_aload_n dX12_game_0 rfl rfl ?_
  refine g_iconst (v := (0 : Int32)) dX12_game_1 (by decide) ?_
  refine g_putI (a := 137) dX12_game_2 f_12_57 sh_137 rfl rfl rfl ?_
  refine g_aload_n dX12_game_5 rfl rfl ?_
  refine g_iconst (v := (0 : Int32)) dX12_game_6 (by decide) ?_
  refine g_putI (a := 137) dX12_game_7 f_12_60 sh_137 rfl rfl rfl ?_
  refine g_iload_n dX12_game_10 rfl rfl ?_
  refine g_i2l dX12_game_11 ?_
  refine g_lconst (v := (0 : Int64)) dX12_game_12 (by decide) ?_
  refine g_ldc2_w dX12_game_13 rfl ?_
  obtain ⟨q1, e2, h⟩ := z_bd h
  refine g_callS (as := [.long a1.toInt64, .long (0 : Int64), .long (4 : Int64)]) (rest := []) (c := mX12_isIn) (k1 := 0) dX12_game_16 rfl rfl rfl rfl rfl (Nat.le_of_ble_eq_true rfl) (Nat.le_of_ble_eq_true rfl) (by decide) ?_
  refine A_X12_isIn e2 ?_
  show z_G none 11 mX12_game 19 [some (.ref 139), some (.int a1)] [.int (z_tb q1.1)] q1.2 Q
  refine g_if_ne (t := 28) dX12_game_19 (by decide) (fun c3 => ?_) (fun c3 => ?_)
  · replace h := z_ift (z_tbn.mp c3) h
    refine g_aload_n dX12_game_28 rfl rfl ?_
    refine g_iconst (v := (-1 : Int32)) dX12_game_29 (by decide) ?_
    obtain ⟨q4, e5, h⟩ := z_bd h
    refine g_callV (a := 137) (as := [.int (-1 : Int32)]) (rest := []) (c := mX12_laysPlans) (k1 := 3) dX12_game_30 rfl rfl rfl sh_137 rfl rfl (Nat.le_of_ble_eq_true rfl) (Nat.le_of_ble_eq_true rfl) (by decide) ?_
    refine A_X12_laysPlans e5 ?_
    show z_G none 11 mX12_game 33 [some (.ref 139), some (.int a1)] [] q4.2 Q
    refine g_aload_n dX12_game_33 rfl rfl ?_
    refine g_iconst (v := (0 : Int32)) dX12_game_34 (by decide) ?_
    refine g_iload_n dX12_game_35 rfl rfl ?_
    refine g_iconst (v := (0 : Int32)) dX12_game_36 (by decide) ?_
    refine g_iconst (v := (0 : Int32)) dX12_game_37 (by decide) ?_
    obtain ⟨q6, e7, h⟩ := z_bd h
    refine g_callV (a := 137) (as := [.int (0 : Int32), .int a1, .int (0 : Int32), .int (0 : Int32)]) (rest := []) (c := mX12_plays) (k1 := 10) dX12_game_38 rfl rfl rfl sh_137 rfl rfl (Nat.le_of_ble_eq_true rfl) (Nat.le_of_ble_eq_true rfl) (by decide) ?_
    refine A_X12_plays 10 _ _ _ _ _ _ _ _ e7 ?_
    show z_G none 11 mX12_game 41 [some (.ref 139), some (.int a1)] [.int q6.1] q6.2 Q
    cases h
    exact g_iret dX12_game_41 rfl rfl hq
  · replace h := z_iff (z_tb0.mp c3) h
    refine g_aload_n dX12_game_22 rfl rfl ?_
    refine g_iconst (v := (5 : Int32)) dX12_game_23 (by decide) ?_
    obtain ⟨q8, e9, h⟩ := z_bd h
    refine g_callV (a := 137) (as := [.int (5 : Int32)]) (rest := []) (c := mX12_refuse) (k1 := 0) dX12_game_24 rfl rfl rfl sh_137 rfl rfl (Nat.le_of_ble_eq_true rfl) (Nat.le_of_ble_eq_true rfl) (by decide) ?_
    refine A_X12_refuse e9 ?_
    show z_G none 11 mX12_game 27 [some (.ref 139), some (.int a1)] [.int q8.1] q8.2 Q
    cases h
    exact g_iret dX12_game_27 rfl rfl hq
theorem dX12_moveOf_0 : decode cX12_moveOf 0 = .ok (.aload_n 0, 1) := by decide +kernel
theorem dX12_moveOf_1 : decode cX12_moveOf 1 = .ok (.iconst 0, 1) := by decide +kernel
theorem dX12_moveOf_2 : decode cX12_moveOf 2 = .ok (.putfield 57, 3) := by decide +kernel
theorem dX12_moveOf_5 : decode cX12_moveOf 5 = .ok (.aload_n 0, 1) := by decide +kernel
theorem dX12_moveOf_6 : decode cX12_moveOf 6 = .ok (.iconst 0, 1) := by decide +kernel
theorem dX12_moveOf_7 : decode cX12_moveOf 7 = .ok (.putfield 60, 3) := by decide +kernel
theorem dX12_moveOf_10 : decode cX12_moveOf 10 = .ok (.iload_n 1, 1) := by decide +kernel
theorem dX12_moveOf_11 : decode cX12_moveOf 11 = .ok (.i2l, 1) := by decide +kernel
theorem dX12_moveOf_12 : decode cX12_moveOf 12 = .ok (.lconst 1, 1) := by decide +kernel
theorem dX12_moveOf_13 : decode cX12_moveOf 13 = .ok (.ldc2_w 342, 3) := by decide +kernel
theorem dX12_moveOf_16 : decode cX12_moveOf 16 = .ok (.invokestatic 92, 3) := by decide +kernel
theorem dX12_moveOf_19 : decode cX12_moveOf 19 = .ok (.ifCond .ne 9, 3) := by decide +kernel
theorem dX12_moveOf_22 : decode cX12_moveOf 22 = .ok (.aload_n 0, 1) := by decide +kernel
theorem dX12_moveOf_23 : decode cX12_moveOf 23 = .ok (.iconst 5, 1) := by decide +kernel
theorem dX12_moveOf_24 : decode cX12_moveOf 24 = .ok (.invokevirtual 333, 3) := by decide +kernel
theorem dX12_moveOf_27 : decode cX12_moveOf 27 = .ok (.ireturn, 1) := by decide +kernel
theorem dX12_moveOf_28 : decode cX12_moveOf 28 = .ok (.aload_n 0, 1) := by decide +kernel
theorem dX12_moveOf_29 : decode cX12_moveOf 29 = .ok (.iconst (-1), 1) := by decide +kernel
theorem dX12_moveOf_30 : decode cX12_moveOf 30 = .ok (.invokevirtual 431, 3) := by decide +kernel
theorem dX12_moveOf_33 : decode cX12_moveOf 33 = .ok (.aload_n 0, 1) := by decide +kernel
theorem dX12_moveOf_34 : decode cX12_moveOf 34 = .ok (.iconst 0, 1) := by decide +kernel
theorem dX12_moveOf_35 : decode cX12_moveOf 35 = .ok (.iload_n 1, 1) := by decide +kernel
theorem dX12_moveOf_36 : decode cX12_moveOf 36 = .ok (.iconst 0, 1) := by decide +kernel
theorem dX12_moveOf_37 : decode cX12_moveOf 37 = .ok (.iconst 0, 1) := by decide +kernel
theorem dX12_moveOf_38 : decode cX12_moveOf 38 = .ok (.invokevirtual 461, 3) := by decide +kernel
theorem dX12_moveOf_41 : decode cX12_moveOf 41 = .ok (.pop, 1) := by decide +kernel
theorem dX12_moveOf_42 : decode cX12_moveOf 42 = .ok (.aload_n 0, 1) := by decide +kernel
theorem dX12_moveOf_43 : decode cX12_moveOf 43 = .ok (.getfield 465, 3) := by decide +kernel
theorem dX12_moveOf_46 : decode cX12_moveOf 46 = .ok (.bipush 12, 2) := by decide +kernel
theorem dX12_moveOf_48 : decode cX12_moveOf 48 = .ok (.if_icmp .ne 12, 3) := by decide +kernel
theorem dX12_moveOf_51 : decode cX12_moveOf 51 = .ok (.aload_n 0, 1) := by decide +kernel
theorem dX12_moveOf_52 : decode cX12_moveOf 52 = .ok (.bipush 8, 2) := by decide +kernel
theorem dX12_moveOf_54 : decode cX12_moveOf 54 = .ok (.invokevirtual 333, 3) := by decide +kernel
theorem dX12_moveOf_57 : decode cX12_moveOf 57 = .ok (.goto 7, 3) := by decide +kernel
theorem dX12_moveOf_60 : decode cX12_moveOf 60 = .ok (.aload_n 0, 1) := by decide +kernel
theorem dX12_moveOf_61 : decode cX12_moveOf 61 = .ok (.getfield 465, 3) := by decide +kernel
theorem dX12_moveOf_64 : decode cX12_moveOf 64 = .ok (.ireturn, 1) := by decide +kernel
def F_X12_moveOf (w : Nat) (M : z_Mem) (a1 : Int32) : Option (Int32 × z_Mem) :=
  (F_X12_isIn w (z_wI (z_wI M 137 1 (0 : Int32)) 137 0 (0 : Int32)) a1.toInt64 (1 : Int64) (4 : Int64)).bind fun q1 =>
  if q1.1 = true then
  (F_X12_laysPlans w q1.2 (-1 : Int32)).bind fun q4 =>
  (F_X12_plays w 10 q4.2 (0 : Int32) a1 (0 : Int32) (0 : Int32)).bind fun q6 =>
  if (q6.2.1 137 28) = (12 : Int32) then
  (F_X12_refuse w q6.2 (8 : Int32)).bind fun q9 =>
  some (q9.1, q9.2)
  else
  some (q6.2.1 137 28, q6.2)
  else
  (F_X12_refuse w q1.2 (5 : Int32)).bind fun q11 =>
  some (q11.1, q11.2)
set_option maxHeartbeats 4000000 in
theorem A_X12_moveOf {w : Nat} {M : z_Mem} {a1 : Int32} {r : Int32} {M' : z_Mem} {Q : Option Value → z_Mem → Prop} (h : F_X12_moveOf w M a1 = some (r, M')) (hq : Q (some (.int r)) M') : z_Cl 11 mX12_moveOf [.ref 139, .int a1] M Q := by
  refine g_in (ls := [some (.ref 139), some (.int a1)]) rfl ?_
  unfold F_X12_moveOf at h
  refine g_aload_n dX12_moveOf_0 rfl rfl ?_
  refine g_iconst (v := (0 : Int32)) dX12_moveOf_1 (by decide) ?_
  refine g_putI (a := 137) dX12_moveOf_2 f_12_57 sh_137 rfl rfl rfl ?_
  refine g_aload_n dX12_moveOf_5 rfl rfl ?_
  refine g_iconst (v := (0 : Int32)) dX12_moveOf_6 (by decide) ?_
  refine g_putI (a := 137) dX12_moveOf_7 f_12_60 sh_137 rfl rfl rfl ?_
  refine g_iload_n dX12_moveOf_10 rfl rfl ?_
  refine g_i2l dX12_moveOf_11 ?_
  refine g_lconst (v := (1 : Int64)) dX12_moveOf_12 (by decide) ?_
  refine g_ldc2_w dX12_moveOf_13 rfl ?_
  obtain ⟨q1, e2, h⟩ := z_bd h
  refine g_callS (as := [.long a1.toInt64, .long (1 : Int64), .long (4 : Int64)]) (rest := []) (c := mX12_isIn) (k1 := 0) dX12_moveOf_16 rfl rfl rfl rfl rfl (Nat.le_of_ble_eq_true rfl) (Nat.le_of_ble_eq_true rfl) (by decide) ?_
  refine A_X12_isIn e2 ?_
  show z_G none 11 mX12_moveOf 19 [some (.ref 139), some (.int a1)] [.int (z_tb q1.1)] q1.2 Q
  refine g_if_ne (t := 28) dX12_moveOf_19 (by decide) (fun c3 => ?_) (fun c3 => ?_)
  · replace h := z_ift (z_tbn.mp c3) h
    refine g_aload_n dX12_moveOf_28 rfl rfl ?_
    refine g_iconst (v := (-1 : Int32)) dX12_moveOf_29 (by decide) ?_
    obtain ⟨q4, e5, h⟩ := z_bd h
    refine g_callV (a := 137) (as := [.int (-1 : Int32)]) (rest := []) (c := mX12_laysPlans) (k1 := 3) dX12_moveOf_30 rfl rfl rfl sh_137 rfl rfl (Nat.le_of_ble_eq_true rfl) (Nat.le_of_ble_eq_true rfl) (by decide) ?_
    refine A_X12_laysPlans e5 ?_
    show z_G none 11 mX12_moveOf 33 [some (.ref 139), some (.int a1)] [] q4.2 Q
    refine g_aload_n dX12_moveOf_33 rfl rfl ?_
    refine g_iconst (v := (0 : Int32)) dX12_moveOf_34 (by decide) ?_
    refine g_iload_n dX12_moveOf_35 rfl rfl ?_
    refine g_iconst (v := (0 : Int32)) dX12_moveOf_36 (by decide) ?_
    refine g_iconst (v := (0 : Int32)) dX12_moveOf_37 (by decide) ?_
    obtain ⟨q6, e7, h⟩ := z_bd h
    refine g_callV (a := 137) (as := [.int (0 : Int32), .int a1, .int (0 : Int32), .int (0 : Int32)]) (rest := []) (c := mX12_plays) (k1 := 10) dX12_moveOf_38 rfl rfl rfl sh_137 rfl rfl (Nat.le_of_ble_eq_true rfl) (Nat.le_of_ble_eq_true rfl) (by decide) ?_
    refine A_X12_plays 10 _ _ _ _ _ _ _ _ e7 ?_
    show z_G none 11 mX12_moveOf 41 [some (.ref 139), some (.int a1)] [.int q6.1] q6.2 Q
    refine g_pop dX12_moveOf_41 rfl ?_
    refine g_aload_n dX12_moveOf_42 rfl rfl ?_
    refine g_get (a := 137) (v := .int (q6.2.1 137 28)) dX12_moveOf_43 f_12_465 sh_137 rfl rfl ?_
    refine g_bipush (v := (12 : Int32)) dX12_moveOf_46 (by decide) ?_
    refine g_ic_ne (t := 60) dX12_moveOf_48 (by decide) (fun c8 => ?_) (fun c8 => ?_)
    · replace h := z_iff c8 h
      refine g_aload_n dX12_moveOf_60 rfl rfl ?_
      refine g_get (a := 137) (v := .int (q6.2.1 137 28)) dX12_moveOf_61 f_12_465 sh_137 rfl rfl ?_
      cases h
      exact g_iret dX12_moveOf_64 rfl rfl hq
    · replace h := z_ift c8 h
      refine g_aload_n dX12_moveOf_51 rfl rfl ?_
      refine g_bipush (v := (8 : Int32)) dX12_moveOf_52 (by decide) ?_
      obtain ⟨q9, e10, h⟩ := z_bd h
      refine g_callV (a := 137) (as := [.int (8 : Int32)]) (rest := []) (c := mX12_refuse) (k1 := 0) dX12_moveOf_54 rfl rfl rfl sh_137 rfl rfl (Nat.le_of_ble_eq_true rfl) (Nat.le_of_ble_eq_true rfl) (by decide) ?_
      refine A_X12_refuse e10 ?_
      show z_G none 11 mX12_moveOf 57 [some (.ref 139), some (.int a1)] [.int q9.1] q9.2 Q
      refine g_goto (t := 64) dX12_moveOf_57 (by decide) ?_
      cases h
      exact g_iret dX12_moveOf_64 rfl rfl hq
  · replace h := z_iff (z_tb0.mp c3) h
    refine g_aload_n dX12_moveOf_22 rfl rfl ?_
    refine g_iconst (v := (5 : Int32)) dX12_moveOf_23 (by decide) ?_
    obtain ⟨q11, e12, h⟩ := z_bd h
    refine g_callV (a := 137) (as := [.int (5 : Int32)]) (rest := []) (c := mX12_refuse) (k1 := 0) dX12_moveOf_24 rfl rfl rfl sh_137 rfl rfl (Nat.le_of_ble_eq_true rfl) (Nat.le_of_ble_eq_true rfl) (by decide) ?_
    refine A_X12_refuse e12 ?_
    show z_G none 11 mX12_moveOf 27 [some (.ref 139), some (.int a1)] [.int q11.1] q11.2 Q
    cases h
    exact g_iret dX12_moveOf_27 rfl rfl hq
theorem dX12_live_0 : decode cX12_live 0 = .ok (.aload_n 0, 1) := by decide +kernel
theorem dX12_live_1 : decode cX12_live 1 = .ok (.iconst 0, 1) := by decide +kernel
theorem dX12_live_2 : decode cX12_live 2 = .ok (.putfield 57, 3) := by decide +kernel
theorem dX12_live_5 : decode cX12_live 5 = .ok (.aload_n 0, 1) := by decide +kernel
theorem dX12_live_6 : decode cX12_live 6 = .ok (.iconst 0, 1) := by decide +kernel
theorem dX12_live_7 : decode cX12_live 7 = .ok (.putfield 60, 3) := by decide +kernel
theorem dX12_live_10 : decode cX12_live 10 = .ok (.iload_n 1, 1) := by decide +kernel
theorem dX12_live_11 : decode cX12_live 11 = .ok (.i2l, 1) := by decide +kernel
theorem dX12_live_12 : decode cX12_live 12 = .ok (.lconst 0, 1) := by decide +kernel
theorem dX12_live_13 : decode cX12_live 13 = .ok (.ldc2_w 523, 3) := by decide +kernel
theorem dX12_live_16 : decode cX12_live 16 = .ok (.invokestatic 92, 3) := by decide +kernel
theorem dX12_live_19 : decode cX12_live 19 = .ok (.ifCond .ne 9, 3) := by decide +kernel
theorem dX12_live_22 : decode cX12_live 22 = .ok (.aload_n 0, 1) := by decide +kernel
theorem dX12_live_23 : decode cX12_live 23 = .ok (.iconst 5, 1) := by decide +kernel
theorem dX12_live_24 : decode cX12_live 24 = .ok (.invokevirtual 333, 3) := by decide +kernel
theorem dX12_live_27 : decode cX12_live 27 = .ok (.ireturn, 1) := by decide +kernel
theorem dX12_live_28 : decode cX12_live 28 = .ok (.aload_n 0, 1) := by decide +kernel
theorem dX12_live_29 : decode cX12_live 29 = .ok (.getfield 35, 3) := by decide +kernel
theorem dX12_live_32 : decode cX12_live 32 = .ok (.bipush 103, 2) := by decide +kernel
theorem dX12_live_34 : decode cX12_live 34 = .ok (.iaload, 1) := by decide +kernel
theorem dX12_live_35 : decode cX12_live 35 = .ok (.ifCond .ne 10, 3) := by decide +kernel
theorem dX12_live_38 : decode cX12_live 38 = .ok (.aload_n 0, 1) := by decide +kernel
theorem dX12_live_39 : decode cX12_live 39 = .ok (.bipush 8, 2) := by decide +kernel
theorem dX12_live_41 : decode cX12_live 41 = .ok (.invokevirtual 333, 3) := by decide +kernel
theorem dX12_live_44 : decode cX12_live 44 = .ok (.ireturn, 1) := by decide +kernel
theorem dX12_live_45 : decode cX12_live 45 = .ok (.aload_n 0, 1) := by decide +kernel
theorem dX12_live_46 : decode cX12_live 46 = .ok (.iload_n 1, 1) := by decide +kernel
theorem dX12_live_47 : decode cX12_live 47 = .ok (.invokevirtual 525, 3) := by decide +kernel
theorem dX12_live_50 : decode cX12_live 50 = .ok (.aload_n 0, 1) := by decide +kernel
theorem dX12_live_51 : decode cX12_live 51 = .ok (.getfield 50, 3) := by decide +kernel
theorem dX12_live_54 : decode cX12_live 54 = .ok (.iconst 0, 1) := by decide +kernel
theorem dX12_live_55 : decode cX12_live 55 = .ok (.aload_n 0, 1) := by decide +kernel
theorem dX12_live_56 : decode cX12_live 56 = .ok (.getfield 499, 3) := by decide +kernel
theorem dX12_live_59 : decode cX12_live 59 = .ok (.iastore, 1) := by decide +kernel
theorem dX12_live_60 : decode cX12_live 60 = .ok (.aload_n 0, 1) := by decide +kernel
theorem dX12_live_61 : decode cX12_live 61 = .ok (.getfield 50, 3) := by decide +kernel
theorem dX12_live_64 : decode cX12_live 64 = .ok (.iconst 1, 1) := by decide +kernel
theorem dX12_live_65 : decode cX12_live 65 = .ok (.aload_n 0, 1) := by decide +kernel
theorem dX12_live_66 : decode cX12_live 66 = .ok (.getfield 35, 3) := by decide +kernel
theorem dX12_live_69 : decode cX12_live 69 = .ok (.bipush 9, 2) := by decide +kernel
theorem dX12_live_71 : decode cX12_live 71 = .ok (.iaload, 1) := by decide +kernel
theorem dX12_live_72 : decode cX12_live 72 = .ok (.aload_n 0, 1) := by decide +kernel
theorem dX12_live_73 : decode cX12_live 73 = .ok (.getfield 514, 3) := by decide +kernel
theorem dX12_live_76 : decode cX12_live 76 = .ok (.isub, 1) := by decide +kernel
theorem dX12_live_77 : decode cX12_live 77 = .ok (.iastore, 1) := by decide +kernel
theorem dX12_live_78 : decode cX12_live 78 = .ok (.aload_n 0, 1) := by decide +kernel
theorem dX12_live_79 : decode cX12_live 79 = .ok (.getfield 50, 3) := by decide +kernel
theorem dX12_live_82 : decode cX12_live 82 = .ok (.iconst 2, 1) := by decide +kernel
theorem dX12_live_83 : decode cX12_live 83 = .ok (.aload_n 0, 1) := by decide +kernel
theorem dX12_live_84 : decode cX12_live 84 = .ok (.getfield 35, 3) := by decide +kernel
theorem dX12_live_87 : decode cX12_live 87 = .ok (.bipush 11, 2) := by decide +kernel
theorem dX12_live_89 : decode cX12_live 89 = .ok (.iaload, 1) := by decide +kernel
theorem dX12_live_90 : decode cX12_live 90 = .ok (.aload_n 0, 1) := by decide +kernel
theorem dX12_live_91 : decode cX12_live 91 = .ok (.getfield 517, 3) := by decide +kernel
theorem dX12_live_94 : decode cX12_live 94 = .ok (.isub, 1) := by decide +kernel
theorem dX12_live_95 : decode cX12_live 95 = .ok (.iastore, 1) := by decide +kernel
theorem dX12_live_96 : decode cX12_live 96 = .ok (.aload_n 0, 1) := by decide +kernel
theorem dX12_live_97 : decode cX12_live 97 = .ok (.getfield 50, 3) := by decide +kernel
theorem dX12_live_100 : decode cX12_live 100 = .ok (.iconst 3, 1) := by decide +kernel
theorem dX12_live_101 : decode cX12_live 101 = .ok (.aload_n 0, 1) := by decide +kernel
theorem dX12_live_102 : decode cX12_live 102 = .ok (.getfield 35, 3) := by decide +kernel
theorem dX12_live_105 : decode cX12_live 105 = .ok (.bipush 10, 2) := by decide +kernel
theorem dX12_live_107 : decode cX12_live 107 = .ok (.iaload, 1) := by decide +kernel
theorem dX12_live_108 : decode cX12_live 108 = .ok (.aload_n 0, 1) := by decide +kernel
theorem dX12_live_109 : decode cX12_live 109 = .ok (.getfield 520, 3) := by decide +kernel
theorem dX12_live_112 : decode cX12_live 112 = .ok (.isub, 1) := by decide +kernel
theorem dX12_live_113 : decode cX12_live 113 = .ok (.iastore, 1) := by decide +kernel
theorem dX12_live_114 : decode cX12_live 114 = .ok (.aload_n 0, 1) := by decide +kernel
theorem dX12_live_115 : decode cX12_live 115 = .ok (.getfield 50, 3) := by decide +kernel
theorem dX12_live_118 : decode cX12_live 118 = .ok (.iconst 4, 1) := by decide +kernel
theorem dX12_live_119 : decode cX12_live 119 = .ok (.aload_n 0, 1) := by decide +kernel
theorem dX12_live_120 : decode cX12_live 120 = .ok (.getfield 496, 3) := by decide +kernel
theorem dX12_live_123 : decode cX12_live 123 = .ok (.iastore, 1) := by decide +kernel
theorem dX12_live_124 : decode cX12_live 124 = .ok (.aload_n 0, 1) := by decide +kernel
theorem dX12_live_125 : decode cX12_live 125 = .ok (.iconst 1, 1) := by decide +kernel
theorem dX12_live_126 : decode cX12_live 126 = .ok (.putfield 528, 3) := by decide +kernel
theorem dX12_live_129 : decode cX12_live 129 = .ok (.aload_n 0, 1) := by decide +kernel
theorem dX12_live_130 : decode cX12_live 130 = .ok (.getfield 489, 3) := by decide +kernel
theorem dX12_live_133 : decode cX12_live 133 = .ok (.ireturn, 1) := by decide +kernel
def F_X12_live (w : Nat) (M : z_Mem) (a1 : Int32) : Option (Int32 × z_Mem) :=
  (F_X12_isIn w (z_wI (z_wI M 137 1 (0 : Int32)) 137 0 (0 : Int32)) a1.toInt64 (0 : Int64) (9999 : Int64)).bind fun q1 =>
  if q1.1 = true then
  if (q1.2.1 142 103) = (0 : Int32) then
  (F_X12_refuse w q1.2 (8 : Int32)).bind fun q7 =>
  some (q7.1, q7.2)
  else
  (F_X12_runsYears w q1.2 a1).bind fun q5 =>
  some (q5.2.1 137 33, (z_wI (z_wI (z_wI (z_wI (z_wI (z_wI q5.2 147 0 (q5.2.1 137 34)) 147 1 ((q5.2.1 142 9) - (q5.2.1 137 35))) 147 2 ((q5.2.1 142 11) - (q5.2.1 137 36))) 147 3 ((q5.2.1 142 10) - (q5.2.1 137 37))) 147 4 (q5.2.1 137 38)) 137 30 (1 : Int32)))
  else
  (F_X12_refuse w q1.2 (5 : Int32)).bind fun q9 =>
  some (q9.1, q9.2)
set_option maxHeartbeats 4000000 in
theorem A_X12_live {w : Nat} {M : z_Mem} {a1 : Int32} {r : Int32} {M' : z_Mem} {Q : Option Value → z_Mem → Prop} (h : F_X12_live w M a1 = some (r, M')) (hq : Q (some (.int r)) M') : z_Cl 28 mX12_live [.ref 139, .int a1] M Q := by
  refine g_in (ls := [some (.ref 139), some (.int a1)]) rfl ?_
  unfold F_X12_live at h
  refine g_aload_n dX12_live_0 rfl rfl ?_
  refine g_iconst (v := (0 : Int32)) dX12_live_1 (by decide) ?_
  refine g_putI (a := 137) dX12_live_2 f_12_57 sh_137 rfl rfl rfl ?_
  refine g_aload_n dX12_live_5 rfl rfl ?_
  refine g_iconst (v := (0 : Int32)) dX12_live_6 (by decide) ?_
  refine g_putI (a := 137) dX12_live_7 f_12_60 sh_137 rfl rfl rfl ?_
  refine g_iload_n dX12_live_10 rfl rfl ?_
  refine g_i2l dX12_live_11 ?_
  refine g_lconst (v := (0 : Int64)) dX12_live_12 (by decide) ?_
  refine g_ldc2_w dX12_live_13 rfl ?_
  obtain ⟨q1, e2, h⟩ := z_bd h
  refine g_callS (as := [.long a1.toInt64, .long (0 : Int64), .long (9999 : Int64)]) (rest := []) (c := mX12_isIn) (k1 := 0) dX12_live_16 rfl rfl rfl rfl rfl (Nat.le_of_ble_eq_true rfl) (Nat.le_of_ble_eq_true rfl) (by decide) ?_
  refine A_X12_isIn e2 ?_
  show z_G none 28 mX12_live 19 [some (.ref 139), some (.int a1)] [.int (z_tb q1.1)] q1.2 Q
  refine g_if_ne (t := 28) dX12_live_19 (by decide) (fun c3 => ?_) (fun c3 => ?_)
  · replace h := z_ift (z_tbn.mp c3) h
    refine g_aload_n dX12_live_28 rfl rfl ?_
    refine g_get (a := 137) (v := .ref 144) dX12_live_29 f_12_35 sh_137 rfl rfl ?_
    refine g_bipush (v := (103 : Int32)) dX12_live_32 (by decide) ?_
    refine g_ialN (a := 142) (j := 103) (v := q1.2.1 142 103) dX12_live_34 sh_142 rfl (by decide) rfl ?_
    refine g_if_ne (t := 45) dX12_live_35 (by decide) (fun c4 => ?_) (fun c4 => ?_)
    · replace h := z_iff c4 h
      refine g_aload_n dX12_live_45 rfl rfl ?_
      refine g_iload_n dX12_live_46 rfl rfl ?_
      obtain ⟨q5, e6, h⟩ := z_bd h
      refine g_callV (a := 137) (as := [.int a1]) (rest := []) (c := mX12_runsYears) (k1 := 27) dX12_live_47 rfl rfl rfl sh_137 rfl rfl (Nat.le_of_ble_eq_true rfl) (Nat.le_of_ble_eq_true rfl) (by decide) ?_
      refine A_X12_runsYears e6 ?_
      show z_G none 28 mX12_live 50 [some (.ref 139), some (.int a1)] [] q5.2 Q
      refine g_aload_n dX12_live_50 rfl rfl ?_
      refine g_get (a := 137) (v := .ref 149) dX12_live_51 f_12_50 sh_137 rfl rfl ?_
      refine g_iconst (v := (0 : Int32)) dX12_live_54 (by decide) ?_
      refine g_aload_n dX12_live_55 rfl rfl ?_
      refine g_get (a := 137) (v := .int (q5.2.1 137 34)) dX12_live_56 f_12_499 sh_137 rfl rfl ?_
      refine g_iasN (a := 147) (j := 0) dX12_live_59 sh_147 rfl (by decide) ?_
      refine g_aload_n dX12_live_60 rfl rfl ?_
      refine g_get (a := 137) (v := .ref 149) dX12_live_61 f_12_50 sh_137 rfl rfl ?_
      refine g_iconst (v := (1 : Int32)) dX12_live_64 (by decide) ?_
      refine g_aload_n dX12_live_65 rfl rfl ?_
      refine g_get (a := 137) (v := .ref 144) dX12_live_66 f_12_35 sh_137 rfl rfl ?_
      refine g_bipush (v := (9 : Int32)) dX12_live_69 (by decide) ?_
      refine g_ialN (a := 142) (j := 9) (v := q5.2.1 142 9) dX12_live_71 sh_142 rfl (by decide) (by simp [z_wI, z_wL, z_wLs, upd, vp_updL]) ?_
      refine g_aload_n dX12_live_72 rfl rfl ?_
      refine g_get (a := 137) (v := .int (q5.2.1 137 35)) dX12_live_73 f_12_514 sh_137 rfl (by simp [z_fv, z_wI, z_wL, z_wLs, upd, vp_updL]) ?_
      refine g_isub dX12_live_76 ?_
      refine g_iasN (a := 147) (j := 1) dX12_live_77 sh_147 rfl (by decide) ?_
      refine g_aload_n dX12_live_78 rfl rfl ?_
      refine g_get (a := 137) (v := .ref 149) dX12_live_79 f_12_50 sh_137 rfl rfl ?_
      refine g_iconst (v := (2 : Int32)) dX12_live_82 (by decide) ?_
      refine g_aload_n dX12_live_83 rfl rfl ?_
      refine g_get (a := 137) (v := .ref 144) dX12_live_84 f_12_35 sh_137 rfl rfl ?_
      refine g_bipush (v := (11 : Int32)) dX12_live_87 (by decide) ?_
      refine g_ialN (a := 142) (j := 11) (v := q5.2.1 142 11) dX12_live_89 sh_142 rfl (by decide) (by simp [z_wI, z_wL, z_wLs, upd, vp_updL]) ?_
      refine g_aload_n dX12_live_90 rfl rfl ?_
      refine g_get (a := 137) (v := .int (q5.2.1 137 36)) dX12_live_91 f_12_517 sh_137 rfl (by simp [z_fv, z_wI, z_wL, z_wLs, upd, vp_updL]) ?_
      refine g_isub dX12_live_94 ?_
      refine g_iasN (a := 147) (j := 2) dX12_live_95 sh_147 rfl (by decide) ?_
      refine g_aload_n dX12_live_96 rfl rfl ?_
      refine g_get (a := 137) (v := .ref 149) dX12_live_97 f_12_50 sh_137 rfl rfl ?_
      refine g_iconst (v := (3 : Int32)) dX12_live_100 (by decide) ?_
      refine g_aload_n dX12_live_101 rfl rfl ?_
      refine g_get (a := 137) (v := .ref 144) dX12_live_102 f_12_35 sh_137 rfl rfl ?_
      refine g_bipush (v := (10 : Int32)) dX12_live_105 (by decide) ?_
      refine g_ialN (a := 142) (j := 10) (v := q5.2.1 142 10) dX12_live_107 sh_142 rfl (by decide) (by simp [z_wI, z_wL, z_wLs, upd, vp_updL]) ?_
      refine g_aload_n dX12_live_108 rfl rfl ?_
      refine g_get (a := 137) (v := .int (q5.2.1 137 37)) dX12_live_109 f_12_520 sh_137 rfl (by simp [z_fv, z_wI, z_wL, z_wLs, upd, vp_updL]) ?_
      refine g_isub dX12_live_112 ?_
      refine g_iasN (a := 147) (j := 3) dX12_live_113 sh_147 rfl (by decide) ?_
      refine g_aload_n dX12_live_114 rfl rfl ?_
      refine g_get (a := 137) (v := .ref 149) dX12_live_115 f_12_50 sh_137 rfl rfl ?_
      refine g_iconst (v := (4 : Int32)) dX12_live_118 (by decide) ?_
      refine g_aload_n dX12_live_119 rfl rfl ?_
      refine g_get (a := 137) (v := .int (q5.2.1 137 38)) dX12_live_120 f_12_496 sh_137 rfl (by simp [z_fv, z_wI, z_wL, z_wLs, upd, vp_updL]) ?_
      refine g_iasN (a := 147) (j := 4) dX12_live_123 sh_147 rfl (by decide) ?_
      refine g_aload_n dX12_live_124 rfl rfl ?_
      refine g_iconst (v := (1 : Int32)) dX12_live_125 (by decide) ?_
      refine g_putZ (a := 137) dX12_live_126 f_12_528 sh_137 rfl rfl rfl (by first | exact Or.inl rfl | exact Or.inr rfl | exact z_tb01) ?_
      refine g_aload_n dX12_live_129 rfl rfl ?_
      refine g_get (a := 137) (v := .int (q5.2.1 137 33)) dX12_live_130 f_12_489 sh_137 rfl (by simp [z_fv, z_wI, z_wL, z_wLs, upd, vp_updL]) ?_
      cases h
      exact g_iret dX12_live_133 rfl rfl hq
    · replace h := z_ift c4 h
      refine g_aload_n dX12_live_38 rfl rfl ?_
      refine g_bipush (v := (8 : Int32)) dX12_live_39 (by decide) ?_
      obtain ⟨q7, e8, h⟩ := z_bd h
      refine g_callV (a := 137) (as := [.int (8 : Int32)]) (rest := []) (c := mX12_refuse) (k1 := 0) dX12_live_41 rfl rfl rfl sh_137 rfl rfl (Nat.le_of_ble_eq_true rfl) (Nat.le_of_ble_eq_true rfl) (by decide) ?_
      refine A_X12_refuse e8 ?_
      show z_G none 28 mX12_live 44 [some (.ref 139), some (.int a1)] [.int q7.1] q7.2 Q
      cases h
      exact g_iret dX12_live_44 rfl rfl hq
  · replace h := z_iff (z_tb0.mp c3) h
    refine g_aload_n dX12_live_22 rfl rfl ?_
    refine g_iconst (v := (5 : Int32)) dX12_live_23 (by decide) ?_
    obtain ⟨q9, e10, h⟩ := z_bd h
    refine g_callV (a := 137) (as := [.int (5 : Int32)]) (rest := []) (c := mX12_refuse) (k1 := 0) dX12_live_24 rfl rfl rfl sh_137 rfl rfl (Nat.le_of_ble_eq_true rfl) (Nat.le_of_ble_eq_true rfl) (by decide) ?_
    refine A_X12_refuse e10 ?_
    show z_G none 28 mX12_live 27 [some (.ref 139), some (.int a1)] [.int q9.1] q9.2 Q
    cases h
    exact g_iret dX12_live_27 rfl rfl hq
theorem dX11_game_0 : decode cX11_game 0 = .ok (.iload_n 1, 1) := by decide +kernel
theorem dX11_game_1 : decode cX11_game 1 = .ok (.iconst 0, 1) := by decide +kernel
theorem dX11_game_2 : decode cX11_game 2 = .ok (.iconst 4, 1) := by decide +kernel
theorem dX11_game_3 : decode cX11_game 3 = .ok (.invokestatic 283, 3) := by decide +kernel
theorem dX11_game_6 : decode cX11_game 6 = .ok (.ifCond .ne 9, 3) := by decide +kernel
theorem dX11_game_9 : decode cX11_game 9 = .ok (.aload_n 0, 1) := by decide +kernel
theorem dX11_game_10 : decode cX11_game 10 = .ok (.iconst 5, 1) := by decide +kernel
theorem dX11_game_11 : decode cX11_game 11 = .ok (.invokevirtual 113, 3) := by decide +kernel
theorem dX11_game_14 : decode cX11_game 14 = .ok (.ireturn, 1) := by decide +kernel
theorem dX11_game_15 : decode cX11_game 15 = .ok (.aload_n 0, 1) := by decide +kernel
theorem dX11_game_16 : decode cX11_game 16 = .ok (.getfield 62, 3) := by decide +kernel
theorem dX11_game_19 : decode cX11_game 19 = .ok (.aload_n 0, 1) := by decide +kernel
theorem dX11_game_20 : decode cX11_game 20 = .ok (.getfield 26, 3) := by decide +kernel
theorem dX11_game_23 : decode cX11_game 23 = .ok (.invokevirtual 315, 3) := by decide +kernel
theorem dX11_game_26 : decode cX11_game 26 = .ok (.aload_n 0, 1) := by decide +kernel
theorem dX11_game_27 : decode cX11_game 27 = .ok (.aload_n 0, 1) := by decide +kernel
theorem dX11_game_28 : decode cX11_game 28 = .ok (.getfield 62, 3) := by decide +kernel
theorem dX11_game_31 : decode cX11_game 31 = .ok (.iload_n 1, 1) := by decide +kernel
theorem dX11_game_32 : decode cX11_game 32 = .ok (.invokevirtual 365, 3) := by decide +kernel
theorem dX11_game_35 : decode cX11_game 35 = .ok (.invokevirtual 164, 3) := by decide +kernel
theorem dX11_game_38 : decode cX11_game 38 = .ok (.ireturn, 1) := by decide +kernel
def F_X11_game (w : Nat) (M : z_Mem) (a1 : Int32) : Option (Int32 × z_Mem) :=
  (F_X11_isWithin w M a1 (0 : Int32) (4 : Int32)).bind fun q1 =>
  if q1.1 = true then
  (F_X5_weigh w q1.2 7).bind fun q4 =>
  (F_X5_playedOut w q4.2 a1).bind fun q6 =>
  (F_X11_answer w q6.2 q6.1).bind fun q8 =>
  some (q8.1, q8.2)
  else
  (F_X11_refuse w q1.2 (5 : Int32)).bind fun q10 =>
  some (q10.1, q10.2)
set_option maxHeartbeats 4000000 in
theorem A_X11_game {w : Nat} {M : z_Mem} {a1 : Int32} {r : Int32} {M' : z_Mem} {Q : Option Value → z_Mem → Prop} (h : F_X11_game w M a1 = some (r, M')) (hq : Q (some (.int r)) M') : z_Cl 13 mX11_game [.ref 2, .int a1] M Q := by
  refine g_in (ls := [some (.ref 2), some (.int a1)]) rfl ?_
  unfold F_X11_game at h
  refine g_iload_n dX11_game_0 rfl rfl ?_
  refine g_iconst (v := (0 : Int32)) dX11_game_1 (by decide) ?_
  refine g_iconst (v := (4 : Int32)) dX11_game_2 (by decide) ?_
  obtain ⟨q1, e2, h⟩ := z_bd h
  refine g_callS (as := [.int a1, .int (0 : Int32), .int (4 : Int32)]) (rest := []) (c := mX11_isWithin) (k1 := 0) dX11_game_3 rfl rfl rfl rfl rfl (Nat.le_of_ble_eq_true rfl) (Nat.le_of_ble_eq_true rfl) (by decide) ?_
  refine A_X11_isWithin e2 ?_
  show z_G none 13 mX11_game 6 [some (.ref 2), some (.int a1)] [.int (z_tb q1.1)] q1.2 Q
  refine g_if_ne (t := 15) dX11_game_6 (by decide) (fun c3 => ?_) (fun c3 => ?_)
  · replace h := z_ift (z_tbn.mp c3) h
    refine g_aload_n dX11_game_15 rfl rfl ?_
    refine g_get (a := 0) (v := .ref 61) dX11_game_16 f_11_62 sh_0 rfl rfl ?_
    refine g_aload_n dX11_game_19 rfl rfl ?_
    refine g_get (a := 0) (v := .ref 9) dX11_game_20 f_11_26 sh_0 rfl rfl ?_
    obtain ⟨q4, e5, h⟩ := z_bd h
    refine g_callV (a := 59) (as := [.ref 9]) (rest := []) (c := mX5_weigh) (k1 := 2) dX11_game_23 rfl rfl rfl sh_59 rfl rfl (Nat.le_of_ble_eq_true rfl) (Nat.le_of_ble_eq_true rfl) (by decide) ?_
    refine A_X5_weigh z_par_7 e5 ?_
    show z_G none 13 mX11_game 26 [some (.ref 2), some (.int a1)] [] q4.2 Q
    refine g_aload_n dX11_game_26 rfl rfl ?_
    refine g_aload_n dX11_game_27 rfl rfl ?_
    refine g_get (a := 0) (v := .ref 61) dX11_game_28 f_11_62 sh_0 rfl rfl ?_
    refine g_iload_n dX11_game_31 rfl rfl ?_
    obtain ⟨q6, e7, h⟩ := z_bd h
    refine g_callV (a := 59) (as := [.int a1]) (rest := [.ref 2]) (c := mX5_playedOut) (k1 := 12) dX11_game_32 rfl rfl rfl sh_59 rfl rfl (Nat.le_of_ble_eq_true rfl) (Nat.le_of_ble_eq_true rfl) (by decide) ?_
    refine A_X5_playedOut e7 ?_
    show z_G none 13 mX11_game 35 [some (.ref 2), some (.int a1)] [.int q6.1, .ref 2] q6.2 Q
    obtain ⟨q8, e9, h⟩ := z_bd h
    refine g_callV (a := 0) (as := [.int q6.1]) (rest := []) (c := mX11_answer) (k1 := 0) dX11_game_35 rfl rfl rfl sh_0 rfl rfl (Nat.le_of_ble_eq_true rfl) (Nat.le_of_ble_eq_true rfl) (by decide) ?_
    refine A_X11_answer e9 ?_
    show z_G none 13 mX11_game 38 [some (.ref 2), some (.int a1)] [.int q8.1] q8.2 Q
    cases h
    exact g_iret dX11_game_38 rfl rfl hq
  · replace h := z_iff (z_tb0.mp c3) h
    refine g_aload_n dX11_game_9 rfl rfl ?_
    refine g_iconst (v := (5 : Int32)) dX11_game_10 (by decide) ?_
    obtain ⟨q10, e11, h⟩ := z_bd h
    refine g_callV (a := 0) (as := [.int (5 : Int32)]) (rest := []) (c := mX11_refuse) (k1 := 0) dX11_game_11 rfl rfl rfl sh_0 rfl rfl (Nat.le_of_ble_eq_true rfl) (Nat.le_of_ble_eq_true rfl) (by decide) ?_
    refine A_X11_refuse e11 ?_
    show z_G none 13 mX11_game 14 [some (.ref 2), some (.int a1)] [.int q10.1] q10.2 Q
    cases h
    exact g_iret dX11_game_14 rfl rfl hq
