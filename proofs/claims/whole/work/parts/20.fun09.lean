/-! ===== the methods as functions, 9 ===== -/
theorem dX12_borne_0 : decode cX12_borne 0 = .ok (.iconst 0, 1) := by decide +kernel
theorem dX12_borne_1 : decode cX12_borne 1 = .ok (.istore_n 1, 1) := by decide +kernel
theorem dX12_borne_2 : decode cX12_borne 2 = .ok (.iconst 0, 1) := by decide +kernel
theorem dX12_borne_3 : decode cX12_borne 3 = .ok (.istore_n 2, 1) := by decide +kernel
theorem dX12_borne_4 : decode cX12_borne 4 = .ok (.iload_n 2, 1) := by decide +kernel
theorem dX12_borne_5 : decode cX12_borne 5 = .ok (.aload_n 0, 1) := by decide +kernel
theorem dX12_borne_6 : decode cX12_borne 6 = .ok (.getfield 35, 3) := by decide +kernel
theorem dX12_borne_9 : decode cX12_borne 9 = .ok (.iconst 0, 1) := by decide +kernel
theorem dX12_borne_10 : decode cX12_borne 10 = .ok (.iaload, 1) := by decide +kernel
theorem dX12_borne_11 : decode cX12_borne 11 = .ok (.if_icmp .ge 27, 3) := by decide +kernel
theorem dX12_borne_14 : decode cX12_borne 14 = .ok (.iload_n 1, 1) := by decide +kernel
theorem dX12_borne_15 : decode cX12_borne 15 = .ok (.aload_n 0, 1) := by decide +kernel
theorem dX12_borne_16 : decode cX12_borne 16 = .ok (.iload_n 2, 1) := by decide +kernel
theorem dX12_borne_17 : decode cX12_borne 17 = .ok (.invokevirtual 364, 3) := by decide +kernel
theorem dX12_borne_20 : decode cX12_borne 20 = .ok (.ifCond .eq 9, 3) := by decide +kernel
theorem dX12_borne_23 : decode cX12_borne 23 = .ok (.iconst 1, 1) := by decide +kernel
theorem dX12_borne_24 : decode cX12_borne 24 = .ok (.iload_n 2, 1) := by decide +kernel
theorem dX12_borne_25 : decode cX12_borne 25 = .ok (.ishl, 1) := by decide +kernel
theorem dX12_borne_26 : decode cX12_borne 26 = .ok (.goto 4, 3) := by decide +kernel
theorem dX12_borne_29 : decode cX12_borne 29 = .ok (.iconst 0, 1) := by decide +kernel
theorem dX12_borne_30 : decode cX12_borne 30 = .ok (.ior, 1) := by decide +kernel
theorem dX12_borne_31 : decode cX12_borne 31 = .ok (.istore_n 1, 1) := by decide +kernel
theorem dX12_borne_32 : decode cX12_borne 32 = .ok (.iinc 2 1, 3) := by decide +kernel
theorem dX12_borne_35 : decode cX12_borne 35 = .ok (.goto (-31), 3) := by decide +kernel
theorem dX12_borne_38 : decode cX12_borne 38 = .ok (.iload_n 1, 1) := by decide +kernel
theorem dX12_borne_39 : decode cX12_borne 39 = .ok (.ireturn, 1) := by decide +kernel
def L_X12_borne (w : Nat) : Nat → z_Mem → Int32 → Int32 → Option (Int32 × z_Mem)
  | 0, _, _, _ => none
  | c + 1, M, x1, x2 =>
    if (M.1 142 0) ≤ x2 then
    some (x1, M)
    else
    (F_X12_isBorne w M x2).bind fun q2 =>
    if q2.1 = true then
    L_X12_borne w c q2.2 (x1 ||| ((1 : Int32) <<< (x2 &&& 31))) (x2 + (1 : Int32))
    else
    L_X12_borne w c q2.2 (x1 ||| (0 : Int32)) (x2 + (1 : Int32))
set_option maxHeartbeats 4000000 in
theorem AL_X12_borne {w : Nat} : ∀ (c : Nat), (∀ (M : z_Mem) (x1 : Int32) (x2 : Int32) (r : Int32) (M' : z_Mem) (Q : Option Value → z_Mem → Prop), L_X12_borne w c M x1 x2 = some (r, M') → Q (some (.int r)) M' → z_G none 2 mX12_borne 4 [some (.ref 139), some (.int x1), some (.int x2)] [] M Q) := by
  intro c
  induction c with
  | zero => exact (fun M x1 x2 r M' Q h hq => by rw [L_X12_borne] at h; cases h)
  | succ c ih =>
    intro M x1 x2 r M' Q h hq
    rw [L_X12_borne] at h
    refine g_iload_n dX12_borne_4 rfl rfl ?_
    refine g_aload_n dX12_borne_5 rfl rfl ?_
    refine g_get (a := 137) (v := .ref 144) dX12_borne_6 f_12_35 sh_137 rfl rfl ?_
    refine g_iconst (v := (0 : Int32)) dX12_borne_9 (by decide) ?_
    refine g_ialN (a := 142) (j := 0) (v := M.1 142 0) dX12_borne_10 sh_142 rfl (by decide) rfl ?_
    refine g_ic_ge (t := 38) dX12_borne_11 (by decide) (fun c1 => ?_) (fun c1 => ?_)
    · replace h := z_ift c1 h
      refine g_iload_n dX12_borne_38 rfl rfl ?_
      cases h
      exact g_iret dX12_borne_39 rfl rfl hq
    · replace h := z_iff c1 h
      refine g_iload_n dX12_borne_14 rfl rfl ?_
      refine g_aload_n dX12_borne_15 rfl rfl ?_
      refine g_iload_n dX12_borne_16 rfl rfl ?_
      obtain ⟨q2, e3, h⟩ := z_bd h
      refine g_callV (a := 137) (as := [.int x2]) (rest := [.int x1]) (c := mX12_isBorne) (k1 := 1) dX12_borne_17 rfl rfl rfl sh_137 rfl rfl (Nat.le_of_ble_eq_true rfl) (Nat.le_of_ble_eq_true rfl) (by decide) ?_
      refine A_X12_isBorne e3 ?_
      show z_G none 2 mX12_borne 20 [some (.ref 139), some (.int x1), some (.int x2)] [.int (z_tb q2.1), .int x1] q2.2 Q
      refine g_if_eq (t := 29) dX12_borne_20 (by decide) (fun c4 => ?_) (fun c4 => ?_)
      · replace h := z_iff (z_tb0.mp c4) h
        refine g_iconst (v := (0 : Int32)) dX12_borne_29 (by decide) ?_
        refine g_ior dX12_borne_30 ?_
        refine g_istore_n (ls' := [some (.ref 139), some (.int (x1 ||| (0 : Int32))), some (.int x2)]) dX12_borne_31 rfl (Nat.le_of_ble_eq_true rfl) rfl ?_
        refine g_iinc (v := x2 + (1 : Int32)) (ls' := [some (.ref 139), some (.int (x1 ||| (0 : Int32))), some (.int (x2 + (1 : Int32)))]) dX12_borne_32 rfl rfl rfl ?_
        refine g_goto (t := 4) dX12_borne_35 (by decide) ?_
        exact g_sub (z_sub_s (z_sub_s (z_sub_s z_sub_nil))) (ih _ _ _ _ _ _ h hq)
      · replace h := z_ift (z_tbn.mp c4) h
        refine g_iconst (v := (1 : Int32)) dX12_borne_23 (by decide) ?_
        refine g_iload_n dX12_borne_24 rfl rfl ?_
        refine g_ishl dX12_borne_25 ?_
        refine g_goto (t := 30) dX12_borne_26 (by decide) ?_
        refine g_ior dX12_borne_30 ?_
        refine g_istore_n (ls' := [some (.ref 139), some (.int (x1 ||| ((1 : Int32) <<< (x2 &&& 31)))), some (.int x2)]) dX12_borne_31 rfl (Nat.le_of_ble_eq_true rfl) rfl ?_
        refine g_iinc (v := x2 + (1 : Int32)) (ls' := [some (.ref 139), some (.int (x1 ||| ((1 : Int32) <<< (x2 &&& 31)))), some (.int (x2 + (1 : Int32)))]) dX12_borne_32 rfl rfl rfl ?_
        refine g_goto (t := 4) dX12_borne_35 (by decide) ?_
        exact g_sub (z_sub_s (z_sub_s (z_sub_s z_sub_nil))) (ih _ _ _ _ _ _ h hq)
def F_X12_borne (w : Nat) (M : z_Mem) : Option (Int32 × z_Mem) :=
  L_X12_borne w w M (0 : Int32) (0 : Int32)
set_option maxHeartbeats 4000000 in
theorem A_X12_borne {w : Nat} {M : z_Mem} {r : Int32} {M' : z_Mem} {Q : Option Value → z_Mem → Prop} (h : F_X12_borne w M = some (r, M')) (hq : Q (some (.int r)) M') : z_Cl 2 mX12_borne [.ref 139] M Q := by
  refine g_in (ls := [some (.ref 139), none, none]) rfl ?_
  unfold F_X12_borne at h
  refine g_iconst (v := (0 : Int32)) dX12_borne_0 (by decide) ?_
  refine g_istore_n (ls' := [some (.ref 139), some (.int (0 : Int32)), none]) dX12_borne_1 rfl (Nat.le_of_ble_eq_true rfl) rfl ?_
  refine g_iconst (v := (0 : Int32)) dX12_borne_2 (by decide) ?_
  refine g_istore_n (ls' := [some (.ref 139), some (.int (0 : Int32)), some (.int (0 : Int32))]) dX12_borne_3 rfl (Nat.le_of_ble_eq_true rfl) rfl ?_
  exact g_sub (z_sub_s (z_sub_s (z_sub_s z_sub_nil))) ((AL_X12_borne (w := w) w) _ _ _ _ _ _ h hq)
theorem dX12_dropDebt_0 : decode cX12_dropDebt 0 = .ok (.iload_n 1, 1) := by decide +kernel
theorem dX12_dropDebt_1 : decode cX12_dropDebt 1 = .ok (.istore_n 2, 1) := by decide +kernel
theorem dX12_dropDebt_2 : decode cX12_dropDebt 2 = .ok (.iload_n 2, 1) := by decide +kernel
theorem dX12_dropDebt_3 : decode cX12_dropDebt 3 = .ok (.iconst 1, 1) := by decide +kernel
theorem dX12_dropDebt_4 : decode cX12_dropDebt 4 = .ok (.iadd, 1) := by decide +kernel
theorem dX12_dropDebt_5 : decode cX12_dropDebt 5 = .ok (.aload_n 0, 1) := by decide +kernel
theorem dX12_dropDebt_6 : decode cX12_dropDebt 6 = .ok (.getfield 35, 3) := by decide +kernel
theorem dX12_dropDebt_9 : decode cX12_dropDebt 9 = .ok (.iconst 1, 1) := by decide +kernel
theorem dX12_dropDebt_10 : decode cX12_dropDebt 10 = .ok (.iaload, 1) := by decide +kernel
theorem dX12_dropDebt_11 : decode cX12_dropDebt 11 = .ok (.if_icmp .ge 69, 3) := by decide +kernel
theorem dX12_dropDebt_14 : decode cX12_dropDebt 14 = .ok (.aload_n 0, 1) := by decide +kernel
theorem dX12_dropDebt_15 : decode cX12_dropDebt 15 = .ok (.getfield 35, 3) := by decide +kernel
theorem dX12_dropDebt_18 : decode cX12_dropDebt 18 = .ok (.bipush 60, 2) := by decide +kernel
theorem dX12_dropDebt_20 : decode cX12_dropDebt 20 = .ok (.iload_n 2, 1) := by decide +kernel
theorem dX12_dropDebt_21 : decode cX12_dropDebt 21 = .ok (.iadd, 1) := by decide +kernel
theorem dX12_dropDebt_22 : decode cX12_dropDebt 22 = .ok (.aload_n 0, 1) := by decide +kernel
theorem dX12_dropDebt_23 : decode cX12_dropDebt 23 = .ok (.getfield 35, 3) := by decide +kernel
theorem dX12_dropDebt_26 : decode cX12_dropDebt 26 = .ok (.bipush 60, 2) := by decide +kernel
theorem dX12_dropDebt_28 : decode cX12_dropDebt 28 = .ok (.iload_n 2, 1) := by decide +kernel
theorem dX12_dropDebt_29 : decode cX12_dropDebt 29 = .ok (.iadd, 1) := by decide +kernel
theorem dX12_dropDebt_30 : decode cX12_dropDebt 30 = .ok (.iconst 1, 1) := by decide +kernel
theorem dX12_dropDebt_31 : decode cX12_dropDebt 31 = .ok (.iadd, 1) := by decide +kernel
theorem dX12_dropDebt_32 : decode cX12_dropDebt 32 = .ok (.iaload, 1) := by decide +kernel
theorem dX12_dropDebt_33 : decode cX12_dropDebt 33 = .ok (.iastore, 1) := by decide +kernel
theorem dX12_dropDebt_34 : decode cX12_dropDebt 34 = .ok (.aload_n 0, 1) := by decide +kernel
theorem dX12_dropDebt_35 : decode cX12_dropDebt 35 = .ok (.getfield 35, 3) := by decide +kernel
theorem dX12_dropDebt_38 : decode cX12_dropDebt 38 = .ok (.bipush 65, 2) := by decide +kernel
theorem dX12_dropDebt_40 : decode cX12_dropDebt 40 = .ok (.iload_n 2, 1) := by decide +kernel
theorem dX12_dropDebt_41 : decode cX12_dropDebt 41 = .ok (.iadd, 1) := by decide +kernel
theorem dX12_dropDebt_42 : decode cX12_dropDebt 42 = .ok (.aload_n 0, 1) := by decide +kernel
theorem dX12_dropDebt_43 : decode cX12_dropDebt 43 = .ok (.getfield 35, 3) := by decide +kernel
theorem dX12_dropDebt_46 : decode cX12_dropDebt 46 = .ok (.bipush 65, 2) := by decide +kernel
theorem dX12_dropDebt_48 : decode cX12_dropDebt 48 = .ok (.iload_n 2, 1) := by decide +kernel
theorem dX12_dropDebt_49 : decode cX12_dropDebt 49 = .ok (.iadd, 1) := by decide +kernel
theorem dX12_dropDebt_50 : decode cX12_dropDebt 50 = .ok (.iconst 1, 1) := by decide +kernel
theorem dX12_dropDebt_51 : decode cX12_dropDebt 51 = .ok (.iadd, 1) := by decide +kernel
theorem dX12_dropDebt_52 : decode cX12_dropDebt 52 = .ok (.iaload, 1) := by decide +kernel
theorem dX12_dropDebt_53 : decode cX12_dropDebt 53 = .ok (.iastore, 1) := by decide +kernel
theorem dX12_dropDebt_54 : decode cX12_dropDebt 54 = .ok (.aload_n 0, 1) := by decide +kernel
theorem dX12_dropDebt_55 : decode cX12_dropDebt 55 = .ok (.getfield 35, 3) := by decide +kernel
theorem dX12_dropDebt_58 : decode cX12_dropDebt 58 = .ok (.bipush 70, 2) := by decide +kernel
theorem dX12_dropDebt_60 : decode cX12_dropDebt 60 = .ok (.iload_n 2, 1) := by decide +kernel
theorem dX12_dropDebt_61 : decode cX12_dropDebt 61 = .ok (.iadd, 1) := by decide +kernel
theorem dX12_dropDebt_62 : decode cX12_dropDebt 62 = .ok (.aload_n 0, 1) := by decide +kernel
theorem dX12_dropDebt_63 : decode cX12_dropDebt 63 = .ok (.getfield 35, 3) := by decide +kernel
theorem dX12_dropDebt_66 : decode cX12_dropDebt 66 = .ok (.bipush 70, 2) := by decide +kernel
theorem dX12_dropDebt_68 : decode cX12_dropDebt 68 = .ok (.iload_n 2, 1) := by decide +kernel
theorem dX12_dropDebt_69 : decode cX12_dropDebt 69 = .ok (.iadd, 1) := by decide +kernel
theorem dX12_dropDebt_70 : decode cX12_dropDebt 70 = .ok (.iconst 1, 1) := by decide +kernel
theorem dX12_dropDebt_71 : decode cX12_dropDebt 71 = .ok (.iadd, 1) := by decide +kernel
theorem dX12_dropDebt_72 : decode cX12_dropDebt 72 = .ok (.iaload, 1) := by decide +kernel
theorem dX12_dropDebt_73 : decode cX12_dropDebt 73 = .ok (.iastore, 1) := by decide +kernel
theorem dX12_dropDebt_74 : decode cX12_dropDebt 74 = .ok (.iinc 2 1, 3) := by decide +kernel
theorem dX12_dropDebt_77 : decode cX12_dropDebt 77 = .ok (.goto (-75), 3) := by decide +kernel
theorem dX12_dropDebt_80 : decode cX12_dropDebt 80 = .ok (.aload_n 0, 1) := by decide +kernel
theorem dX12_dropDebt_81 : decode cX12_dropDebt 81 = .ok (.getfield 35, 3) := by decide +kernel
theorem dX12_dropDebt_84 : decode cX12_dropDebt 84 = .ok (.iconst 1, 1) := by decide +kernel
theorem dX12_dropDebt_85 : decode cX12_dropDebt 85 = .ok (.dup2, 1) := by decide +kernel
theorem dX12_dropDebt_86 : decode cX12_dropDebt 86 = .ok (.iaload, 1) := by decide +kernel
theorem dX12_dropDebt_87 : decode cX12_dropDebt 87 = .ok (.iconst 1, 1) := by decide +kernel
theorem dX12_dropDebt_88 : decode cX12_dropDebt 88 = .ok (.isub, 1) := by decide +kernel
theorem dX12_dropDebt_89 : decode cX12_dropDebt 89 = .ok (.iastore, 1) := by decide +kernel
theorem dX12_dropDebt_90 : decode cX12_dropDebt 90 = .ok (.return_, 1) := by decide +kernel
def L_X12_dropDebt (w : Nat) : Nat → z_Mem → Int32 → Option (Unit × z_Mem)
  | 0, _, _ => none
  | c + 1, M, x2 =>
    if (M.1 142 1) ≤ (x2 + (1 : Int32)) then
    some ((), (z_wI M 142 1 ((M.1 142 1) - (1 : Int32))))
    else
    if (((60 : Int32) + x2) + (1 : Int32)) < 0 ∨ 1875 ≤ (((60 : Int32) + x2) + (1 : Int32)).toNatClampNeg then none else
    if ((60 : Int32) + x2) < 0 ∨ 1875 ≤ ((60 : Int32) + x2).toNatClampNeg then none else
    if (((65 : Int32) + x2) + (1 : Int32)) < 0 ∨ 1875 ≤ (((65 : Int32) + x2) + (1 : Int32)).toNatClampNeg then none else
    if ((65 : Int32) + x2) < 0 ∨ 1875 ≤ ((65 : Int32) + x2).toNatClampNeg then none else
    if (((70 : Int32) + x2) + (1 : Int32)) < 0 ∨ 1875 ≤ (((70 : Int32) + x2) + (1 : Int32)).toNatClampNeg then none else
    if ((70 : Int32) + x2) < 0 ∨ 1875 ≤ ((70 : Int32) + x2).toNatClampNeg then none else
    L_X12_dropDebt w c (z_wI (z_wI (z_wI M 142 (((60 : Int32) + x2).toNatClampNeg) (M.1 142 (((60 : Int32) + x2) + (1 : Int32)).toNatClampNeg)) 142 (((65 : Int32) + x2).toNatClampNeg) ((z_wI M 142 (((60 : Int32) + x2).toNatClampNeg) (M.1 142 (((60 : Int32) + x2) + (1 : Int32)).toNatClampNeg)).1 142 (((65 : Int32) + x2) + (1 : Int32)).toNatClampNeg)) 142 (((70 : Int32) + x2).toNatClampNeg) ((z_wI (z_wI M 142 (((60 : Int32) + x2).toNatClampNeg) (M.1 142 (((60 : Int32) + x2) + (1 : Int32)).toNatClampNeg)) 142 (((65 : Int32) + x2).toNatClampNeg) ((z_wI M 142 (((60 : Int32) + x2).toNatClampNeg) (M.1 142 (((60 : Int32) + x2) + (1 : Int32)).toNatClampNeg)).1 142 (((65 : Int32) + x2) + (1 : Int32)).toNatClampNeg)).1 142 (((70 : Int32) + x2) + (1 : Int32)).toNatClampNeg)) (x2 + (1 : Int32))
set_option maxHeartbeats 4000000 in
theorem AL_X12_dropDebt {w : Nat} : ∀ (c : Nat), (∀ (M : z_Mem) (x2 : Int32) (r : Unit) (M' : z_Mem) (Q : Option Value → z_Mem → Prop), L_X12_dropDebt w c M x2 = some (r, M') → Q none M' → z_G none 0 mX12_dropDebt 2 [some (.ref 139), none, some (.int x2)] [] M Q) := by
  intro c
  induction c with
  | zero => exact (fun M x2 r M' Q h hq => by rw [L_X12_dropDebt] at h; cases h)
  | succ c ih =>
    intro M x2 r M' Q h hq
    rw [L_X12_dropDebt] at h
    refine g_iload_n dX12_dropDebt_2 rfl rfl ?_
    refine g_iconst (v := (1 : Int32)) dX12_dropDebt_3 (by decide) ?_
    refine g_iadd dX12_dropDebt_4 ?_
    refine g_aload_n dX12_dropDebt_5 rfl rfl ?_
    refine g_get (a := 137) (v := .ref 144) dX12_dropDebt_6 f_12_35 sh_137 rfl rfl ?_
    refine g_iconst (v := (1 : Int32)) dX12_dropDebt_9 (by decide) ?_
    refine g_ialN (a := 142) (j := 1) (v := M.1 142 1) dX12_dropDebt_10 sh_142 rfl (by decide) rfl ?_
    refine g_ic_ge (t := 80) dX12_dropDebt_11 (by decide) (fun c1 => ?_) (fun c1 => ?_)
    · replace h := z_ift c1 h
      refine g_aload_n dX12_dropDebt_80 rfl rfl ?_
      refine g_get (a := 137) (v := .ref 144) dX12_dropDebt_81 f_12_35 sh_137 rfl rfl ?_
      refine g_iconst (v := (1 : Int32)) dX12_dropDebt_84 (by decide) ?_
      refine g_dup2 dX12_dropDebt_85 rfl rfl ?_
      refine g_ialN (a := 142) (j := 1) (v := M.1 142 1) dX12_dropDebt_86 sh_142 rfl (by decide) rfl ?_
      refine g_iconst (v := (1 : Int32)) dX12_dropDebt_87 (by decide) ?_
      refine g_isub dX12_dropDebt_88 ?_
      refine g_iasN (a := 142) (j := 1) dX12_dropDebt_89 sh_142 rfl (by decide) ?_
      cases h
      exact g_vret dX12_dropDebt_90 rfl hq
    · replace h := z_iff c1 h
      refine g_aload_n dX12_dropDebt_14 rfl rfl ?_
      refine g_get (a := 137) (v := .ref 144) dX12_dropDebt_15 f_12_35 sh_137 rfl rfl ?_
      refine g_bipush (v := (60 : Int32)) dX12_dropDebt_18 (by decide) ?_
      refine g_iload_n dX12_dropDebt_20 rfl rfl ?_
      refine g_iadd dX12_dropDebt_21 ?_
      refine g_aload_n dX12_dropDebt_22 rfl rfl ?_
      refine g_get (a := 137) (v := .ref 144) dX12_dropDebt_23 f_12_35 sh_137 rfl rfl ?_
      refine g_bipush (v := (60 : Int32)) dX12_dropDebt_26 (by decide) ?_
      refine g_iload_n dX12_dropDebt_28 rfl rfl ?_
      refine g_iadd dX12_dropDebt_29 ?_
      refine g_iconst (v := (1 : Int32)) dX12_dropDebt_30 (by decide) ?_
      refine g_iadd dX12_dropDebt_31 ?_
      by_cases g2 : (((60 : Int32) + x2) + (1 : Int32)) < 0 ∨ 1875 ≤ (((60 : Int32) + x2) + (1 : Int32)).toNatClampNeg
      · rw [if_pos g2] at h; cases h
      replace h := z_iff g2 h
      refine g_iald (a := 142) dX12_dropDebt_32 sh_142 g2 ?_
      by_cases g3 : ((60 : Int32) + x2) < 0 ∨ 1875 ≤ ((60 : Int32) + x2).toNatClampNeg
      · rw [if_pos g3] at h; cases h
      replace h := z_iff g3 h
      refine g_iast (a := 142) dX12_dropDebt_33 sh_142 g3 ?_
      refine g_aload_n dX12_dropDebt_34 rfl rfl ?_
      refine g_get (a := 137) (v := .ref 144) dX12_dropDebt_35 f_12_35 sh_137 rfl rfl ?_
      refine g_bipush (v := (65 : Int32)) dX12_dropDebt_38 (by decide) ?_
      refine g_iload_n dX12_dropDebt_40 rfl rfl ?_
      refine g_iadd dX12_dropDebt_41 ?_
      refine g_aload_n dX12_dropDebt_42 rfl rfl ?_
      refine g_get (a := 137) (v := .ref 144) dX12_dropDebt_43 f_12_35 sh_137 rfl rfl ?_
      refine g_bipush (v := (65 : Int32)) dX12_dropDebt_46 (by decide) ?_
      refine g_iload_n dX12_dropDebt_48 rfl rfl ?_
      refine g_iadd dX12_dropDebt_49 ?_
      refine g_iconst (v := (1 : Int32)) dX12_dropDebt_50 (by decide) ?_
      refine g_iadd dX12_dropDebt_51 ?_
      by_cases g4 : (((65 : Int32) + x2) + (1 : Int32)) < 0 ∨ 1875 ≤ (((65 : Int32) + x2) + (1 : Int32)).toNatClampNeg
      · rw [if_pos g4] at h; cases h
      replace h := z_iff g4 h
      refine g_iald (a := 142) dX12_dropDebt_52 sh_142 g4 ?_
      by_cases g5 : ((65 : Int32) + x2) < 0 ∨ 1875 ≤ ((65 : Int32) + x2).toNatClampNeg
      · rw [if_pos g5] at h; cases h
      replace h := z_iff g5 h
      refine g_iast (a := 142) dX12_dropDebt_53 sh_142 g5 ?_
      refine g_aload_n dX12_dropDebt_54 rfl rfl ?_
      refine g_get (a := 137) (v := .ref 144) dX12_dropDebt_55 f_12_35 sh_137 rfl rfl ?_
      refine g_bipush (v := (70 : Int32)) dX12_dropDebt_58 (by decide) ?_
      refine g_iload_n dX12_dropDebt_60 rfl rfl ?_
      refine g_iadd dX12_dropDebt_61 ?_
      refine g_aload_n dX12_dropDebt_62 rfl rfl ?_
      refine g_get (a := 137) (v := .ref 144) dX12_dropDebt_63 f_12_35 sh_137 rfl rfl ?_
      refine g_bipush (v := (70 : Int32)) dX12_dropDebt_66 (by decide) ?_
      refine g_iload_n dX12_dropDebt_68 rfl rfl ?_
      refine g_iadd dX12_dropDebt_69 ?_
      refine g_iconst (v := (1 : Int32)) dX12_dropDebt_70 (by decide) ?_
      refine g_iadd dX12_dropDebt_71 ?_
      by_cases g6 : (((70 : Int32) + x2) + (1 : Int32)) < 0 ∨ 1875 ≤ (((70 : Int32) + x2) + (1 : Int32)).toNatClampNeg
      · rw [if_pos g6] at h; cases h
      replace h := z_iff g6 h
      refine g_iald (a := 142) dX12_dropDebt_72 sh_142 g6 ?_
      by_cases g7 : ((70 : Int32) + x2) < 0 ∨ 1875 ≤ ((70 : Int32) + x2).toNatClampNeg
      · rw [if_pos g7] at h; cases h
      replace h := z_iff g7 h
      refine g_iast (a := 142) dX12_dropDebt_73 sh_142 g7 ?_
      refine g_iinc (v := x2 + (1 : Int32)) (ls' := [some (.ref 139), none, some (.int (x2 + (1 : Int32)))]) dX12_dropDebt_74 rfl rfl rfl ?_
      refine g_goto (t := 2) dX12_dropDebt_77 (by decide) ?_
      exact g_sub (z_sub_s (z_sub_n (z_sub_s z_sub_nil))) (ih _ _ _ _ _ h hq)
def F_X12_dropDebt (w : Nat) (M : z_Mem) (a1 : Int32) : Option (Unit × z_Mem) :=
  L_X12_dropDebt w w M a1
set_option maxHeartbeats 4000000 in
theorem A_X12_dropDebt {w : Nat} {M : z_Mem} {a1 : Int32} {r : Unit} {M' : z_Mem} {Q : Option Value → z_Mem → Prop} (h : F_X12_dropDebt w M a1 = some (r, M')) (hq : Q none M') : z_Cl 0 mX12_dropDebt [.ref 139, .int a1] M Q := by
  refine g_in (ls := [some (.ref 139), some (.int a1), none]) rfl ?_
  unfold F_X12_dropDebt at h
  refine g_iload_n dX12_dropDebt_0 rfl rfl ?_
  refine g_istore_n (ls' := [some (.ref 139), some (.int a1), some (.int a1)]) dX12_dropDebt_1 rfl (Nat.le_of_ble_eq_true rfl) rfl ?_
  exact g_sub (z_sub_s (z_sub_n (z_sub_s z_sub_nil))) ((AL_X12_dropDebt (w := w) w) _ _ _ _ _ h hq)
theorem dX12_brings_0 : decode cX12_brings 0 = .ok (.aload_n 0, 1) := by decide +kernel
theorem dX12_brings_1 : decode cX12_brings 1 = .ok (.getfield 35, 3) := by decide +kernel
theorem dX12_brings_4 : decode cX12_brings 4 = .ok (.bipush 12, 2) := by decide +kernel
theorem dX12_brings_6 : decode cX12_brings 6 = .ok (.iload_n 1, 1) := by decide +kernel
theorem dX12_brings_7 : decode cX12_brings 7 = .ok (.iadd, 1) := by decide +kernel
theorem dX12_brings_8 : decode cX12_brings 8 = .ok (.sipush 9999, 3) := by decide +kernel
theorem dX12_brings_11 : decode cX12_brings 11 = .ok (.aload_n 0, 1) := by decide +kernel
theorem dX12_brings_12 : decode cX12_brings 12 = .ok (.getfield 35, 3) := by decide +kernel
theorem dX12_brings_15 : decode cX12_brings 15 = .ok (.bipush 12, 2) := by decide +kernel
theorem dX12_brings_17 : decode cX12_brings 17 = .ok (.iload_n 1, 1) := by decide +kernel
theorem dX12_brings_18 : decode cX12_brings 18 = .ok (.iadd, 1) := by decide +kernel
theorem dX12_brings_19 : decode cX12_brings 19 = .ok (.iaload, 1) := by decide +kernel
theorem dX12_brings_20 : decode cX12_brings 20 = .ok (.iload_n 2, 1) := by decide +kernel
theorem dX12_brings_21 : decode cX12_brings 21 = .ok (.iadd, 1) := by decide +kernel
theorem dX12_brings_22 : decode cX12_brings 22 = .ok (.invokestatic 367, 3) := by decide +kernel
theorem dX12_brings_25 : decode cX12_brings 25 = .ok (.iastore, 1) := by decide +kernel
theorem dX12_brings_26 : decode cX12_brings 26 = .ok (.return_, 1) := by decide +kernel
def F_X12_brings (w : Nat) (M : z_Mem) (a1 : Int32) (a2 : Int32) : Option (Unit × z_Mem) :=
  if ((12 : Int32) + a1) < 0 ∨ 1875 ≤ ((12 : Int32) + a1).toNatClampNeg then none else
  if ((12 : Int32) + a1) < 0 ∨ 1875 ≤ ((12 : Int32) + a1).toNatClampNeg then none else
  some ((), (z_wI M 142 (((12 : Int32) + a1).toNatClampNeg) (if ((M.1 142 ((12 : Int32) + a1).toNatClampNeg) + a2) < (9999 : Int32) then (M.1 142 ((12 : Int32) + a1).toNatClampNeg) + a2 else (9999 : Int32))))
set_option maxHeartbeats 4000000 in
theorem A_X12_brings {w : Nat} {M : z_Mem} {a1 : Int32} {a2 : Int32} {r : Unit} {M' : z_Mem} {Q : Option Value → z_Mem → Prop} (h : F_X12_brings w M a1 a2 = some (r, M')) (hq : Q none M') : z_Cl 0 mX12_brings [.ref 139, .int a1, .int a2] M Q := by
  refine g_in (ls := [some (.ref 139), some (.int a1), some (.int a2)]) rfl ?_
  unfold F_X12_brings at h
  refine g_aload_n dX12_brings_0 rfl rfl ?_
  refine g_get (a := 137) (v := .ref 144) dX12_brings_1 f_12_35 sh_137 rfl rfl ?_
  refine g_bipush (v := (12 : Int32)) dX12_brings_4 (by decide) ?_
  refine g_iload_n dX12_brings_6 rfl rfl ?_
  refine g_iadd dX12_brings_7 ?_
  refine g_sipush (v := (9999 : Int32)) dX12_brings_8 (by decide) ?_
  refine g_aload_n dX12_brings_11 rfl rfl ?_
  refine g_get (a := 137) (v := .ref 144) dX12_brings_12 f_12_35 sh_137 rfl rfl ?_
  refine g_bipush (v := (12 : Int32)) dX12_brings_15 (by decide) ?_
  refine g_iload_n dX12_brings_17 rfl rfl ?_
  refine g_iadd dX12_brings_18 ?_
  by_cases g1 : ((12 : Int32) + a1) < 0 ∨ 1875 ≤ ((12 : Int32) + a1).toNatClampNeg
  · rw [if_pos g1] at h; cases h
  replace h := z_iff g1 h
  refine g_iald (a := 142) dX12_brings_19 sh_142 g1 ?_
  refine g_iload_n dX12_brings_20 rfl rfl ?_
  refine g_iadd dX12_brings_21 ?_
  refine g_min dX12_brings_22 rfl (Nat.le_of_ble_eq_true rfl) ?_
  by_cases g2 : ((12 : Int32) + a1) < 0 ∨ 1875 ≤ ((12 : Int32) + a1).toNatClampNeg
  · rw [if_pos g2] at h; cases h
  replace h := z_iff g2 h
  refine g_iast (a := 142) dX12_brings_25 sh_142 g2 ?_
  cases h
  exact g_vret dX12_brings_26 rfl hq
theorem dX12_passes_0 : decode cX12_passes 0 = .ok (.aload_n 0, 1) := by decide +kernel
theorem dX12_passes_1 : decode cX12_passes 1 = .ok (.invokevirtual 370, 3) := by decide +kernel
theorem dX12_passes_4 : decode cX12_passes 4 = .ok (.istore_n 1, 1) := by decide +kernel
theorem dX12_passes_5 : decode cX12_passes 5 = .ok (.iconst 0, 1) := by decide +kernel
theorem dX12_passes_6 : decode cX12_passes 6 = .ok (.istore_n 2, 1) := by decide +kernel
theorem dX12_passes_7 : decode cX12_passes 7 = .ok (.iload_n 2, 1) := by decide +kernel
theorem dX12_passes_8 : decode cX12_passes 8 = .ok (.aload_n 0, 1) := by decide +kernel
theorem dX12_passes_9 : decode cX12_passes 9 = .ok (.getfield 35, 3) := by decide +kernel
theorem dX12_passes_12 : decode cX12_passes 12 = .ok (.iconst 0, 1) := by decide +kernel
theorem dX12_passes_13 : decode cX12_passes 13 = .ok (.iaload, 1) := by decide +kernel
theorem dX12_passes_14 : decode cX12_passes 14 = .ok (.if_icmp .ge 39, 3) := by decide +kernel
theorem dX12_passes_17 : decode cX12_passes 17 = .ok (.iload_n 1, 1) := by decide +kernel
theorem dX12_passes_18 : decode cX12_passes 18 = .ok (.iload_n 2, 1) := by decide +kernel
theorem dX12_passes_19 : decode cX12_passes 19 = .ok (.invokestatic 96, 3) := by decide +kernel
theorem dX12_passes_22 : decode cX12_passes 22 = .ok (.ifCond .eq 25, 3) := by decide +kernel
theorem dX12_passes_25 : decode cX12_passes 25 = .ok (.aload_n 0, 1) := by decide +kernel
theorem dX12_passes_26 : decode cX12_passes 26 = .ok (.aload_n 0, 1) := by decide +kernel
theorem dX12_passes_27 : decode cX12_passes 27 = .ok (.getfield 35, 3) := by decide +kernel
theorem dX12_passes_30 : decode cX12_passes 30 = .ok (.bipush 20, 2) := by decide +kernel
theorem dX12_passes_32 : decode cX12_passes 32 = .ok (.iload_n 2, 1) := by decide +kernel
theorem dX12_passes_33 : decode cX12_passes 33 = .ok (.iadd, 1) := by decide +kernel
theorem dX12_passes_34 : decode cX12_passes 34 = .ok (.iaload, 1) := by decide +kernel
theorem dX12_passes_35 : decode cX12_passes 35 = .ok (.aload_n 0, 1) := by decide +kernel
theorem dX12_passes_36 : decode cX12_passes 36 = .ok (.getfield 35, 3) := by decide +kernel
theorem dX12_passes_39 : decode cX12_passes 39 = .ok (.bipush 44, 2) := by decide +kernel
theorem dX12_passes_41 : decode cX12_passes 41 = .ok (.iload_n 2, 1) := by decide +kernel
theorem dX12_passes_42 : decode cX12_passes 42 = .ok (.iadd, 1) := by decide +kernel
theorem dX12_passes_43 : decode cX12_passes 43 = .ok (.iaload, 1) := by decide +kernel
theorem dX12_passes_44 : decode cX12_passes 44 = .ok (.invokevirtual 373, 3) := by decide +kernel
theorem dX12_passes_47 : decode cX12_passes 47 = .ok (.iinc 2 1, 3) := by decide +kernel
theorem dX12_passes_50 : decode cX12_passes 50 = .ok (.goto (-43), 3) := by decide +kernel
theorem dX12_passes_53 : decode cX12_passes 53 = .ok (.aload_n 0, 1) := by decide +kernel
theorem dX12_passes_54 : decode cX12_passes 54 = .ok (.getfield 35, 3) := by decide +kernel
theorem dX12_passes_57 : decode cX12_passes 57 = .ok (.iconst 1, 1) := by decide +kernel
theorem dX12_passes_58 : decode cX12_passes 58 = .ok (.iaload, 1) := by decide +kernel
theorem dX12_passes_59 : decode cX12_passes 59 = .ok (.iconst 1, 1) := by decide +kernel
theorem dX12_passes_60 : decode cX12_passes 60 = .ok (.isub, 1) := by decide +kernel
theorem dX12_passes_61 : decode cX12_passes 61 = .ok (.istore_n 2, 1) := by decide +kernel
theorem dX12_passes_62 : decode cX12_passes 62 = .ok (.iload_n 2, 1) := by decide +kernel
theorem dX12_passes_63 : decode cX12_passes 63 = .ok (.ifCond .lt 53, 3) := by decide +kernel
theorem dX12_passes_66 : decode cX12_passes 66 = .ok (.aload_n 0, 1) := by decide +kernel
theorem dX12_passes_67 : decode cX12_passes 67 = .ok (.getfield 35, 3) := by decide +kernel
theorem dX12_passes_70 : decode cX12_passes 70 = .ok (.bipush 70, 2) := by decide +kernel
theorem dX12_passes_72 : decode cX12_passes 72 = .ok (.iload_n 2, 1) := by decide +kernel
theorem dX12_passes_73 : decode cX12_passes 73 = .ok (.iadd, 1) := by decide +kernel
theorem dX12_passes_74 : decode cX12_passes 74 = .ok (.dup2, 1) := by decide +kernel
theorem dX12_passes_75 : decode cX12_passes 75 = .ok (.iaload, 1) := by decide +kernel
theorem dX12_passes_76 : decode cX12_passes 76 = .ok (.iconst 1, 1) := by decide +kernel
theorem dX12_passes_77 : decode cX12_passes 77 = .ok (.isub, 1) := by decide +kernel
theorem dX12_passes_78 : decode cX12_passes 78 = .ok (.iastore, 1) := by decide +kernel
theorem dX12_passes_79 : decode cX12_passes 79 = .ok (.aload_n 0, 1) := by decide +kernel
theorem dX12_passes_80 : decode cX12_passes 80 = .ok (.getfield 35, 3) := by decide +kernel
theorem dX12_passes_83 : decode cX12_passes 83 = .ok (.bipush 70, 2) := by decide +kernel
theorem dX12_passes_85 : decode cX12_passes 85 = .ok (.iload_n 2, 1) := by decide +kernel
theorem dX12_passes_86 : decode cX12_passes 86 = .ok (.iadd, 1) := by decide +kernel
theorem dX12_passes_87 : decode cX12_passes 87 = .ok (.iaload, 1) := by decide +kernel
theorem dX12_passes_88 : decode cX12_passes 88 = .ok (.ifCond .le 6, 3) := by decide +kernel
theorem dX12_passes_91 : decode cX12_passes 91 = .ok (.goto 19, 3) := by decide +kernel
theorem dX12_passes_94 : decode cX12_passes 94 = .ok (.aload_n 0, 1) := by decide +kernel
theorem dX12_passes_95 : decode cX12_passes 95 = .ok (.iload_n 2, 1) := by decide +kernel
theorem dX12_passes_96 : decode cX12_passes 96 = .ok (.invokevirtual 376, 3) := by decide +kernel
theorem dX12_passes_99 : decode cX12_passes 99 = .ok (.aload_n 0, 1) := by decide +kernel
theorem dX12_passes_100 : decode cX12_passes 100 = .ok (.getfield 35, 3) := by decide +kernel
theorem dX12_passes_103 : decode cX12_passes 103 = .ok (.bipush 10, 2) := by decide +kernel
theorem dX12_passes_105 : decode cX12_passes 105 = .ok (.dup2, 1) := by decide +kernel
theorem dX12_passes_106 : decode cX12_passes 106 = .ok (.iaload, 1) := by decide +kernel
theorem dX12_passes_107 : decode cX12_passes 107 = .ok (.iconst 1, 1) := by decide +kernel
theorem dX12_passes_108 : decode cX12_passes 108 = .ok (.iadd, 1) := by decide +kernel
theorem dX12_passes_109 : decode cX12_passes 109 = .ok (.iastore, 1) := by decide +kernel
theorem dX12_passes_110 : decode cX12_passes 110 = .ok (.iinc 2 (-1), 3) := by decide +kernel
theorem dX12_passes_113 : decode cX12_passes 113 = .ok (.goto (-51), 3) := by decide +kernel
theorem dX12_passes_116 : decode cX12_passes 116 = .ok (.bipush 6, 2) := by decide +kernel
theorem dX12_passes_118 : decode cX12_passes 118 = .ok (.istore_n 2, 1) := by decide +kernel
theorem dX12_passes_119 : decode cX12_passes 119 = .ok (.iload_n 2, 1) := by decide +kernel
theorem dX12_passes_120 : decode cX12_passes 120 = .ok (.iconst 1, 1) := by decide +kernel
theorem dX12_passes_121 : decode cX12_passes 121 = .ok (.if_icmp .le 29, 3) := by decide +kernel
theorem dX12_passes_124 : decode cX12_passes 124 = .ok (.aload_n 0, 1) := by decide +kernel
theorem dX12_passes_125 : decode cX12_passes 125 = .ok (.getfield 35, 3) := by decide +kernel
theorem dX12_passes_128 : decode cX12_passes 128 = .ok (.bipush 13, 2) := by decide +kernel
theorem dX12_passes_130 : decode cX12_passes 130 = .ok (.iload_n 2, 1) := by decide +kernel
theorem dX12_passes_131 : decode cX12_passes 131 = .ok (.iadd, 1) := by decide +kernel
theorem dX12_passes_132 : decode cX12_passes 132 = .ok (.aload_n 0, 1) := by decide +kernel
theorem dX12_passes_133 : decode cX12_passes 133 = .ok (.getfield 35, 3) := by decide +kernel
theorem dX12_passes_136 : decode cX12_passes 136 = .ok (.bipush 13, 2) := by decide +kernel
theorem dX12_passes_138 : decode cX12_passes 138 = .ok (.iload_n 2, 1) := by decide +kernel
theorem dX12_passes_139 : decode cX12_passes 139 = .ok (.iadd, 1) := by decide +kernel
theorem dX12_passes_140 : decode cX12_passes 140 = .ok (.iconst 1, 1) := by decide +kernel
theorem dX12_passes_141 : decode cX12_passes 141 = .ok (.isub, 1) := by decide +kernel
theorem dX12_passes_142 : decode cX12_passes 142 = .ok (.iaload, 1) := by decide +kernel
theorem dX12_passes_143 : decode cX12_passes 143 = .ok (.iastore, 1) := by decide +kernel
theorem dX12_passes_144 : decode cX12_passes 144 = .ok (.iinc 2 (-1), 3) := by decide +kernel
theorem dX12_passes_147 : decode cX12_passes 147 = .ok (.goto (-28), 3) := by decide +kernel
theorem dX12_passes_150 : decode cX12_passes 150 = .ok (.aload_n 0, 1) := by decide +kernel
theorem dX12_passes_151 : decode cX12_passes 151 = .ok (.getfield 35, 3) := by decide +kernel
theorem dX12_passes_154 : decode cX12_passes 154 = .ok (.bipush 14, 2) := by decide +kernel
theorem dX12_passes_156 : decode cX12_passes 156 = .ok (.aload_n 0, 1) := by decide +kernel
theorem dX12_passes_157 : decode cX12_passes 157 = .ok (.getfield 35, 3) := by decide +kernel
theorem dX12_passes_160 : decode cX12_passes 160 = .ok (.bipush 8, 2) := by decide +kernel
theorem dX12_passes_162 : decode cX12_passes 162 = .ok (.iaload, 1) := by decide +kernel
theorem dX12_passes_163 : decode cX12_passes 163 = .ok (.iastore, 1) := by decide +kernel
theorem dX12_passes_164 : decode cX12_passes 164 = .ok (.aload_n 0, 1) := by decide +kernel
theorem dX12_passes_165 : decode cX12_passes 165 = .ok (.getfield 35, 3) := by decide +kernel
theorem dX12_passes_168 : decode cX12_passes 168 = .ok (.bipush 9, 2) := by decide +kernel
theorem dX12_passes_170 : decode cX12_passes 170 = .ok (.dup2, 1) := by decide +kernel
theorem dX12_passes_171 : decode cX12_passes 171 = .ok (.iaload, 1) := by decide +kernel
theorem dX12_passes_172 : decode cX12_passes 172 = .ok (.iconst 1, 1) := by decide +kernel
theorem dX12_passes_173 : decode cX12_passes 173 = .ok (.iadd, 1) := by decide +kernel
theorem dX12_passes_174 : decode cX12_passes 174 = .ok (.iastore, 1) := by decide +kernel
theorem dX12_passes_175 : decode cX12_passes 175 = .ok (.return_, 1) := by decide +kernel
def L_X12_passes (w : Nat) : Nat → Nat → z_Mem → Int32 → Int32 → Option (Unit × z_Mem)
  | 0, _, _, _, _ => none
  | c + 1, hd, M, x1, x2 =>
    if hd = 0 then
      if (M.1 142 0) ≤ x2 then
      L_X12_passes w c 1 M 0 ((M.1 142 1) - (1 : Int32))
      else
      (F_X12_has w M x1 x2).bind fun q2 =>
      if q2.1 = true then
      if ((20 : Int32) + x2) < 0 ∨ 1875 ≤ ((20 : Int32) + x2).toNatClampNeg then none else
      if ((44 : Int32) + x2) < 0 ∨ 1875 ≤ ((44 : Int32) + x2).toNatClampNeg then none else
      (F_X12_brings w q2.2 (q2.2.1 142 ((20 : Int32) + x2).toNatClampNeg) (q2.2.1 142 ((44 : Int32) + x2).toNatClampNeg)).bind fun q7 =>
      L_X12_passes w c 0 q7.2 x1 (x2 + (1 : Int32))
      else
      L_X12_passes w c 0 q2.2 x1 (x2 + (1 : Int32))
    else
    if hd = 1 then
      if x2 < (0 : Int32) then
      L_X12_passes w c 2 M 0 (6 : Int32)
      else
      if ((70 : Int32) + x2) < 0 ∨ 1875 ≤ ((70 : Int32) + x2).toNatClampNeg then none else
      if ((70 : Int32) + x2) < 0 ∨ 1875 ≤ ((70 : Int32) + x2).toNatClampNeg then none else
      if ((70 : Int32) + x2) < 0 ∨ 1875 ≤ ((70 : Int32) + x2).toNatClampNeg then none else
      if ((z_wI M 142 (((70 : Int32) + x2).toNatClampNeg) ((M.1 142 ((70 : Int32) + x2).toNatClampNeg) - (1 : Int32))).1 142 ((70 : Int32) + x2).toNatClampNeg) ≤ (0 : Int32) then
      (F_X12_dropDebt w (z_wI M 142 (((70 : Int32) + x2).toNatClampNeg) ((M.1 142 ((70 : Int32) + x2).toNatClampNeg) - (1 : Int32))) x2).bind fun q14 =>
      L_X12_passes w c 1 (z_wI q14.2 142 10 ((q14.2.1 142 10) + (1 : Int32))) 0 (x2 + (-1 : Int32))
      else
      L_X12_passes w c 1 (z_wI M 142 (((70 : Int32) + x2).toNatClampNeg) ((M.1 142 ((70 : Int32) + x2).toNatClampNeg) - (1 : Int32))) 0 (x2 + (-1 : Int32))
    else
    if hd = 2 then
      if x2 ≤ (1 : Int32) then
      some ((), (z_wI (z_wI M 142 14 (M.1 142 8)) 142 9 ((M.1 142 9) + (1 : Int32))))
      else
      if (((13 : Int32) + x2) - (1 : Int32)) < 0 ∨ 1875 ≤ (((13 : Int32) + x2) - (1 : Int32)).toNatClampNeg then none else
      if ((13 : Int32) + x2) < 0 ∨ 1875 ≤ ((13 : Int32) + x2).toNatClampNeg then none else
      L_X12_passes w c 2 (z_wI M 142 (((13 : Int32) + x2).toNatClampNeg) (M.1 142 (((13 : Int32) + x2) - (1 : Int32)).toNatClampNeg)) 0 (x2 + (-1 : Int32))
    else
    none
set_option maxHeartbeats 4000000 in
theorem AL_X12_passes {w : Nat} : ∀ (c : Nat), (∀ (M : z_Mem) (x1 : Int32) (x2 : Int32) (r : Unit) (M' : z_Mem) (Q : Option Value → z_Mem → Prop), L_X12_passes w c 0 M x1 x2 = some (r, M') → Q none M' → z_G none 3 mX12_passes 7 [some (.ref 139), some (.int x1), some (.int x2)] [] M Q) ∧ (∀ (M : z_Mem) (x1 : Int32) (x2 : Int32) (r : Unit) (M' : z_Mem) (Q : Option Value → z_Mem → Prop), L_X12_passes w c 1 M x1 x2 = some (r, M') → Q none M' → z_G none 3 mX12_passes 62 [some (.ref 139), none, some (.int x2)] [] M Q) ∧ (∀ (M : z_Mem) (x1 : Int32) (x2 : Int32) (r : Unit) (M' : z_Mem) (Q : Option Value → z_Mem → Prop), L_X12_passes w c 2 M x1 x2 = some (r, M') → Q none M' → z_G none 3 mX12_passes 119 [some (.ref 139), none, some (.int x2)] [] M Q) := by
  intro c
  induction c with
  | zero => exact ⟨(fun M x1 x2 r M' Q h hq => by rw [L_X12_passes] at h; cases h), (fun M x1 x2 r M' Q h hq => by rw [L_X12_passes] at h; cases h), (fun M x1 x2 r M' Q h hq => by rw [L_X12_passes] at h; cases h)⟩
  | succ c ih =>
    refine ⟨fun M x1 x2 r M' Q h hq => ?_, fun M x1 x2 r M' Q h hq => ?_, fun M x1 x2 r M' Q h hq => ?_⟩
    · rw [L_X12_passes] at h
      replace h := z_ift rfl h
      refine g_iload_n dX12_passes_7 rfl rfl ?_
      refine g_aload_n dX12_passes_8 rfl rfl ?_
      refine g_get (a := 137) (v := .ref 144) dX12_passes_9 f_12_35 sh_137 rfl rfl ?_
      refine g_iconst (v := (0 : Int32)) dX12_passes_12 (by decide) ?_
      refine g_ialN (a := 142) (j := 0) (v := M.1 142 0) dX12_passes_13 sh_142 rfl (by decide) rfl ?_
      refine g_ic_ge (t := 53) dX12_passes_14 (by decide) (fun c1 => ?_) (fun c1 => ?_)
      · replace h := z_ift c1 h
        refine g_aload_n dX12_passes_53 rfl rfl ?_
        refine g_get (a := 137) (v := .ref 144) dX12_passes_54 f_12_35 sh_137 rfl rfl ?_
        refine g_iconst (v := (1 : Int32)) dX12_passes_57 (by decide) ?_
        refine g_ialN (a := 142) (j := 1) (v := M.1 142 1) dX12_passes_58 sh_142 rfl (by decide) rfl ?_
        refine g_iconst (v := (1 : Int32)) dX12_passes_59 (by decide) ?_
        refine g_isub dX12_passes_60 ?_
        refine g_istore_n (ls' := [some (.ref 139), some (.int x1), some (.int ((M.1 142 1) - (1 : Int32)))]) dX12_passes_61 rfl (Nat.le_of_ble_eq_true rfl) rfl ?_
        exact g_sub (z_sub_s (z_sub_n (z_sub_s z_sub_nil))) (ih.2.1 _ _ _ _ _ _ h hq)
      · replace h := z_iff c1 h
        refine g_iload_n dX12_passes_17 rfl rfl ?_
        refine g_iload_n dX12_passes_18 rfl rfl ?_
        obtain ⟨q2, e3, h⟩ := z_bd h
        refine g_callS (as := [.int x1, .int x2]) (rest := []) (c := mX12_has) (k1 := 0) dX12_passes_19 rfl rfl rfl rfl rfl (Nat.le_of_ble_eq_true rfl) (Nat.le_of_ble_eq_true rfl) (by decide) ?_
        refine A_X12_has e3 ?_
        show z_G none 3 mX12_passes 22 [some (.ref 139), some (.int x1), some (.int x2)] [.int (z_tb q2.1)] q2.2 Q
        refine g_if_eq (t := 47) dX12_passes_22 (by decide) (fun c4 => ?_) (fun c4 => ?_)
        · replace h := z_iff (z_tb0.mp c4) h
          refine g_iinc (v := x2 + (1 : Int32)) (ls' := [some (.ref 139), some (.int x1), some (.int (x2 + (1 : Int32)))]) dX12_passes_47 rfl rfl rfl ?_
          refine g_goto (t := 7) dX12_passes_50 (by decide) ?_
          exact g_sub (z_sub_s (z_sub_s (z_sub_s z_sub_nil))) (ih.1 _ _ _ _ _ _ h hq)
        · replace h := z_ift (z_tbn.mp c4) h
          refine g_aload_n dX12_passes_25 rfl rfl ?_
          refine g_aload_n dX12_passes_26 rfl rfl ?_
          refine g_get (a := 137) (v := .ref 144) dX12_passes_27 f_12_35 sh_137 rfl rfl ?_
          refine g_bipush (v := (20 : Int32)) dX12_passes_30 (by decide) ?_
          refine g_iload_n dX12_passes_32 rfl rfl ?_
          refine g_iadd dX12_passes_33 ?_
          by_cases g5 : ((20 : Int32) + x2) < 0 ∨ 1875 ≤ ((20 : Int32) + x2).toNatClampNeg
          · rw [if_pos g5] at h; cases h
          replace h := z_iff g5 h
          refine g_iald (a := 142) dX12_passes_34 sh_142 g5 ?_
          refine g_aload_n dX12_passes_35 rfl rfl ?_
          refine g_get (a := 137) (v := .ref 144) dX12_passes_36 f_12_35 sh_137 rfl rfl ?_
          refine g_bipush (v := (44 : Int32)) dX12_passes_39 (by decide) ?_
          refine g_iload_n dX12_passes_41 rfl rfl ?_
          refine g_iadd dX12_passes_42 ?_
          by_cases g6 : ((44 : Int32) + x2) < 0 ∨ 1875 ≤ ((44 : Int32) + x2).toNatClampNeg
          · rw [if_pos g6] at h; cases h
          replace h := z_iff g6 h
          refine g_iald (a := 142) dX12_passes_43 sh_142 g6 ?_
          obtain ⟨q7, e8, h⟩ := z_bd h
          refine g_callV (a := 137) (as := [.int (q2.2.1 142 ((20 : Int32) + x2).toNatClampNeg), .int (q2.2.1 142 ((44 : Int32) + x2).toNatClampNeg)]) (rest := []) (c := mX12_brings) (k1 := 0) dX12_passes_44 rfl rfl rfl sh_137 rfl rfl (Nat.le_of_ble_eq_true rfl) (Nat.le_of_ble_eq_true rfl) (by decide) ?_
          refine A_X12_brings e8 ?_
          show z_G none 3 mX12_passes 47 [some (.ref 139), some (.int x1), some (.int x2)] [] q7.2 Q
          refine g_iinc (v := x2 + (1 : Int32)) (ls' := [some (.ref 139), some (.int x1), some (.int (x2 + (1 : Int32)))]) dX12_passes_47 rfl rfl rfl ?_
          refine g_goto (t := 7) dX12_passes_50 (by decide) ?_
          exact g_sub (z_sub_s (z_sub_s (z_sub_s z_sub_nil))) (ih.1 _ _ _ _ _ _ h hq)
    · rw [L_X12_passes] at h
      replace h := z_iff (by decide) h
      replace h := z_ift rfl h
      refine g_iload_n dX12_passes_62 rfl rfl ?_
      refine g_if_lt (t := 116) dX12_passes_63 (by decide) (fun c9 => ?_) (fun c9 => ?_)
      · replace h := z_ift c9 h
        refine g_bipush (v := (6 : Int32)) dX12_passes_116 (by decide) ?_
        refine g_istore_n (ls' := [some (.ref 139), none, some (.int (6 : Int32))]) dX12_passes_118 rfl (Nat.le_of_ble_eq_true rfl) rfl ?_
        exact g_sub (z_sub_s (z_sub_n (z_sub_s z_sub_nil))) (ih.2.2 _ _ _ _ _ _ h hq)
      · replace h := z_iff c9 h
        refine g_aload_n dX12_passes_66 rfl rfl ?_
        refine g_get (a := 137) (v := .ref 144) dX12_passes_67 f_12_35 sh_137 rfl rfl ?_
        refine g_bipush (v := (70 : Int32)) dX12_passes_70 (by decide) ?_
        refine g_iload_n dX12_passes_72 rfl rfl ?_
        refine g_iadd dX12_passes_73 ?_
        refine g_dup2 dX12_passes_74 rfl rfl ?_
        by_cases g10 : ((70 : Int32) + x2) < 0 ∨ 1875 ≤ ((70 : Int32) + x2).toNatClampNeg
        · rw [if_pos g10] at h; cases h
        replace h := z_iff g10 h
        refine g_iald (a := 142) dX12_passes_75 sh_142 g10 ?_
        refine g_iconst (v := (1 : Int32)) dX12_passes_76 (by decide) ?_
        refine g_isub dX12_passes_77 ?_
        by_cases g11 : ((70 : Int32) + x2) < 0 ∨ 1875 ≤ ((70 : Int32) + x2).toNatClampNeg
        · rw [if_pos g11] at h; cases h
        replace h := z_iff g11 h
        refine g_iast (a := 142) dX12_passes_78 sh_142 g11 ?_
        refine g_aload_n dX12_passes_79 rfl rfl ?_
        refine g_get (a := 137) (v := .ref 144) dX12_passes_80 f_12_35 sh_137 rfl rfl ?_
        refine g_bipush (v := (70 : Int32)) dX12_passes_83 (by decide) ?_
        refine g_iload_n dX12_passes_85 rfl rfl ?_
        refine g_iadd dX12_passes_86 ?_
        by_cases g12 : ((70 : Int32) + x2) < 0 ∨ 1875 ≤ ((70 : Int32) + x2).toNatClampNeg
        · rw [if_pos g12] at h; cases h
        replace h := z_iff g12 h
        refine g_iald (a := 142) dX12_passes_87 sh_142 g12 ?_
        refine g_if_le (t := 94) dX12_passes_88 (by decide) (fun c13 => ?_) (fun c13 => ?_)
        · replace h := z_ift c13 h
          refine g_aload_n dX12_passes_94 rfl rfl ?_
          refine g_iload_n dX12_passes_95 rfl rfl ?_
          obtain ⟨q14, e15, h⟩ := z_bd h
          refine g_callV (a := 137) (as := [.int x2]) (rest := []) (c := mX12_dropDebt) (k1 := 0) dX12_passes_96 rfl rfl rfl sh_137 rfl rfl (Nat.le_of_ble_eq_true rfl) (Nat.le_of_ble_eq_true rfl) (by decide) ?_
          refine A_X12_dropDebt e15 ?_
          show z_G none 3 mX12_passes 99 [some (.ref 139), none, some (.int x2)] [] q14.2 Q
          refine g_aload_n dX12_passes_99 rfl rfl ?_
          refine g_get (a := 137) (v := .ref 144) dX12_passes_100 f_12_35 sh_137 rfl rfl ?_
          refine g_bipush (v := (10 : Int32)) dX12_passes_103 (by decide) ?_
          refine g_dup2 dX12_passes_105 rfl rfl ?_
          refine g_ialN (a := 142) (j := 10) (v := q14.2.1 142 10) dX12_passes_106 sh_142 rfl (by decide) rfl ?_
          refine g_iconst (v := (1 : Int32)) dX12_passes_107 (by decide) ?_
          refine g_iadd dX12_passes_108 ?_
          refine g_iasN (a := 142) (j := 10) dX12_passes_109 sh_142 rfl (by decide) ?_
          refine g_iinc (v := x2 + (-1 : Int32)) (ls' := [some (.ref 139), none, some (.int (x2 + (-1 : Int32)))]) dX12_passes_110 rfl rfl rfl ?_
          refine g_goto (t := 62) dX12_passes_113 (by decide) ?_
          exact g_sub (z_sub_s (z_sub_n (z_sub_s z_sub_nil))) (ih.2.1 _ _ _ _ _ _ h hq)
        · replace h := z_iff c13 h
          refine g_goto (t := 110) dX12_passes_91 (by decide) ?_
          refine g_iinc (v := x2 + (-1 : Int32)) (ls' := [some (.ref 139), none, some (.int (x2 + (-1 : Int32)))]) dX12_passes_110 rfl rfl rfl ?_
          refine g_goto (t := 62) dX12_passes_113 (by decide) ?_
          exact g_sub (z_sub_s (z_sub_n (z_sub_s z_sub_nil))) (ih.2.1 _ _ _ _ _ _ h hq)
    · rw [L_X12_passes] at h
      replace h := z_iff (by decide) h
      replace h := z_iff (by decide) h
      replace h := z_ift rfl h
      refine g_iload_n dX12_passes_119 rfl rfl ?_
      refine g_iconst (v := (1 : Int32)) dX12_passes_120 (by decide) ?_
      refine g_ic_le (t := 150) dX12_passes_121 (by decide) (fun c16 => ?_) (fun c16 => ?_)
      · replace h := z_ift c16 h
        refine g_aload_n dX12_passes_150 rfl rfl ?_
        refine g_get (a := 137) (v := .ref 144) dX12_passes_151 f_12_35 sh_137 rfl rfl ?_
        refine g_bipush (v := (14 : Int32)) dX12_passes_154 (by decide) ?_
        refine g_aload_n dX12_passes_156 rfl rfl ?_
        refine g_get (a := 137) (v := .ref 144) dX12_passes_157 f_12_35 sh_137 rfl rfl ?_
        refine g_bipush (v := (8 : Int32)) dX12_passes_160 (by decide) ?_
        refine g_ialN (a := 142) (j := 8) (v := M.1 142 8) dX12_passes_162 sh_142 rfl (by decide) rfl ?_
        refine g_iasN (a := 142) (j := 14) dX12_passes_163 sh_142 rfl (by decide) ?_
        refine g_aload_n dX12_passes_164 rfl rfl ?_
        refine g_get (a := 137) (v := .ref 144) dX12_passes_165 f_12_35 sh_137 rfl rfl ?_
        refine g_bipush (v := (9 : Int32)) dX12_passes_168 (by decide) ?_
        refine g_dup2 dX12_passes_170 rfl rfl ?_
        refine g_ialN (a := 142) (j := 9) (v := M.1 142 9) dX12_passes_171 sh_142 rfl (by decide) (by simp [z_wI, z_wL, z_wLs, upd, vp_updL]) ?_
        refine g_iconst (v := (1 : Int32)) dX12_passes_172 (by decide) ?_
        refine g_iadd dX12_passes_173 ?_
        refine g_iasN (a := 142) (j := 9) dX12_passes_174 sh_142 rfl (by decide) ?_
        cases h
        exact g_vret dX12_passes_175 rfl hq
      · replace h := z_iff c16 h
        refine g_aload_n dX12_passes_124 rfl rfl ?_
        refine g_get (a := 137) (v := .ref 144) dX12_passes_125 f_12_35 sh_137 rfl rfl ?_
        refine g_bipush (v := (13 : Int32)) dX12_passes_128 (by decide) ?_
        refine g_iload_n dX12_passes_130 rfl rfl ?_
        refine g_iadd dX12_passes_131 ?_
        refine g_aload_n dX12_passes_132 rfl rfl ?_
        refine g_get (a := 137) (v := .ref 144) dX12_passes_133 f_12_35 sh_137 rfl rfl ?_
        refine g_bipush (v := (13 : Int32)) dX12_passes_136 (by decide) ?_
        refine g_iload_n dX12_passes_138 rfl rfl ?_
        refine g_iadd dX12_passes_139 ?_
        refine g_iconst (v := (1 : Int32)) dX12_passes_140 (by decide) ?_
        refine g_isub dX12_passes_141 ?_
        by_cases g17 : (((13 : Int32) + x2) - (1 : Int32)) < 0 ∨ 1875 ≤ (((13 : Int32) + x2) - (1 : Int32)).toNatClampNeg
        · rw [if_pos g17] at h; cases h
        replace h := z_iff g17 h
        refine g_iald (a := 142) dX12_passes_142 sh_142 g17 ?_
        by_cases g18 : ((13 : Int32) + x2) < 0 ∨ 1875 ≤ ((13 : Int32) + x2).toNatClampNeg
        · rw [if_pos g18] at h; cases h
        replace h := z_iff g18 h
        refine g_iast (a := 142) dX12_passes_143 sh_142 g18 ?_
        refine g_iinc (v := x2 + (-1 : Int32)) (ls' := [some (.ref 139), none, some (.int (x2 + (-1 : Int32)))]) dX12_passes_144 rfl rfl rfl ?_
        refine g_goto (t := 119) dX12_passes_147 (by decide) ?_
        exact g_sub (z_sub_s (z_sub_n (z_sub_s z_sub_nil))) (ih.2.2 _ _ _ _ _ _ h hq)
def F_X12_passes (w : Nat) (M : z_Mem) : Option (Unit × z_Mem) :=
  (F_X12_borne w M).bind fun q19 =>
  L_X12_passes w w 0 q19.2 q19.1 (0 : Int32)
set_option maxHeartbeats 4000000 in
theorem A_X12_passes {w : Nat} {M : z_Mem} {r : Unit} {M' : z_Mem} {Q : Option Value → z_Mem → Prop} (h : F_X12_passes w M = some (r, M')) (hq : Q none M') : z_Cl 3 mX12_passes [.ref 139] M Q := by
  refine g_in (ls := [some (.ref 139), none, none]) rfl ?_
  unfold F_X12_passes at h
  refine g_aload_n dX12_passes_0 rfl rfl ?_
  obtain ⟨q19, e20, h⟩ := z_bd h
  refine g_callV (a := 137) (as := []) (rest := []) (c := mX12_borne) (k1 := 2) dX12_passes_1 rfl rfl rfl sh_137 rfl rfl (Nat.le_of_ble_eq_true rfl) (Nat.le_of_ble_eq_true rfl) (by decide) ?_
  refine A_X12_borne e20 ?_
  show z_G none 3 mX12_passes 4 [some (.ref 139), none, none] [.int q19.1] q19.2 Q
  refine g_istore_n (ls' := [some (.ref 139), some (.int q19.1), none]) dX12_passes_4 rfl (Nat.le_of_ble_eq_true rfl) rfl ?_
  refine g_iconst (v := (0 : Int32)) dX12_passes_5 (by decide) ?_
  refine g_istore_n (ls' := [some (.ref 139), some (.int q19.1), some (.int (0 : Int32))]) dX12_passes_6 rfl (Nat.le_of_ble_eq_true rfl) rfl ?_
  exact g_sub (z_sub_s (z_sub_s (z_sub_s z_sub_nil))) ((AL_X12_passes (w := w) w).1 _ _ _ _ _ _ h hq)
theorem dX12_month_0 : decode cX12_month 0 = .ok (.aload_n 0, 1) := by decide +kernel
theorem dX12_month_1 : decode cX12_month 1 = .ok (.iconst 0, 1) := by decide +kernel
theorem dX12_month_2 : decode cX12_month 2 = .ok (.putfield 57, 3) := by decide +kernel
theorem dX12_month_5 : decode cX12_month 5 = .ok (.aload_n 0, 1) := by decide +kernel
theorem dX12_month_6 : decode cX12_month 6 = .ok (.iconst 0, 1) := by decide +kernel
theorem dX12_month_7 : decode cX12_month 7 = .ok (.putfield 60, 3) := by decide +kernel
theorem dX12_month_10 : decode cX12_month 10 = .ok (.iload_n 1, 1) := by decide +kernel
theorem dX12_month_11 : decode cX12_month 11 = .ok (.i2l, 1) := by decide +kernel
theorem dX12_month_12 : decode cX12_month 12 = .ok (.lconst 1, 1) := by decide +kernel
theorem dX12_month_13 : decode cX12_month 13 = .ok (.ldc2_w 379, 3) := by decide +kernel
theorem dX12_month_16 : decode cX12_month 16 = .ok (.invokestatic 92, 3) := by decide +kernel
theorem dX12_month_19 : decode cX12_month 19 = .ok (.ifCond .ne 9, 3) := by decide +kernel
theorem dX12_month_22 : decode cX12_month 22 = .ok (.aload_n 0, 1) := by decide +kernel
theorem dX12_month_23 : decode cX12_month 23 = .ok (.iconst 5, 1) := by decide +kernel
theorem dX12_month_24 : decode cX12_month 24 = .ok (.invokevirtual 333, 3) := by decide +kernel
theorem dX12_month_27 : decode cX12_month 27 = .ok (.ireturn, 1) := by decide +kernel
theorem dX12_month_28 : decode cX12_month 28 = .ok (.aload_n 0, 1) := by decide +kernel
theorem dX12_month_29 : decode cX12_month 29 = .ok (.getfield 35, 3) := by decide +kernel
theorem dX12_month_32 : decode cX12_month 32 = .ok (.bipush 9, 2) := by decide +kernel
theorem dX12_month_34 : decode cX12_month 34 = .ok (.iaload, 1) := by decide +kernel
theorem dX12_month_35 : decode cX12_month 35 = .ok (.iload_n 1, 1) := by decide +kernel
theorem dX12_month_36 : decode cX12_month 36 = .ok (.iadd, 1) := by decide +kernel
theorem dX12_month_37 : decode cX12_month 37 = .ok (.sipush 9999, 3) := by decide +kernel
theorem dX12_month_40 : decode cX12_month 40 = .ok (.if_icmp .le 10, 3) := by decide +kernel
theorem dX12_month_43 : decode cX12_month 43 = .ok (.aload_n 0, 1) := by decide +kernel
theorem dX12_month_44 : decode cX12_month 44 = .ok (.bipush 7, 2) := by decide +kernel
theorem dX12_month_46 : decode cX12_month 46 = .ok (.invokevirtual 333, 3) := by decide +kernel
theorem dX12_month_49 : decode cX12_month 49 = .ok (.ireturn, 1) := by decide +kernel
theorem dX12_month_50 : decode cX12_month 50 = .ok (.iconst 0, 1) := by decide +kernel
theorem dX12_month_51 : decode cX12_month 51 = .ok (.istore_n 2, 1) := by decide +kernel
theorem dX12_month_52 : decode cX12_month 52 = .ok (.iload_n 2, 1) := by decide +kernel
theorem dX12_month_53 : decode cX12_month 53 = .ok (.iload_n 1, 1) := by decide +kernel
theorem dX12_month_54 : decode cX12_month 54 = .ok (.if_icmp .ge 13, 3) := by decide +kernel
theorem dX12_month_57 : decode cX12_month 57 = .ok (.aload_n 0, 1) := by decide +kernel
theorem dX12_month_58 : decode cX12_month 58 = .ok (.invokevirtual 381, 3) := by decide +kernel
theorem dX12_month_61 : decode cX12_month 61 = .ok (.iinc 2 1, 3) := by decide +kernel
theorem dX12_month_64 : decode cX12_month 64 = .ok (.goto (-12), 3) := by decide +kernel
theorem dX12_month_67 : decode cX12_month 67 = .ok (.aload_n 0, 1) := by decide +kernel
theorem dX12_month_68 : decode cX12_month 68 = .ok (.invokevirtual 384, 3) := by decide +kernel
theorem dX12_month_71 : decode cX12_month 71 = .ok (.ireturn, 1) := by decide +kernel
def L_X12_month (w : Nat) : Nat → z_Mem → Int32 → Int32 → Option (Int32 × z_Mem)
  | 0, _, _, _ => none
  | c + 1, M, x1, x2 =>
    if x1 ≤ x2 then
    (F_X12_bothChests w M).bind fun q2 =>
    some (q2.1, q2.2)
    else
    (F_X12_passes w M).bind fun q4 =>
    L_X12_month w c q4.2 x1 (x2 + (1 : Int32))
set_option maxHeartbeats 4000000 in
theorem AL_X12_month {w : Nat} : ∀ (c : Nat), (∀ (M : z_Mem) (x1 : Int32) (x2 : Int32) (r : Int32) (M' : z_Mem) (Q : Option Value → z_Mem → Prop), L_X12_month w c M x1 x2 = some (r, M') → Q (some (.int r)) M' → z_G none 4 mX12_month 52 [some (.ref 139), some (.int x1), some (.int x2)] [] M Q) := by
  intro c
  induction c with
  | zero => exact (fun M x1 x2 r M' Q h hq => by rw [L_X12_month] at h; cases h)
  | succ c ih =>
    intro M x1 x2 r M' Q h hq
    rw [L_X12_month] at h
    refine g_iload_n dX12_month_52 rfl rfl ?_
    refine g_iload_n dX12_month_53 rfl rfl ?_
    refine g_ic_ge (t := 67) dX12_month_54 (by decide) (fun c1 => ?_) (fun c1 => ?_)
    · replace h := z_ift c1 h
      refine g_aload_n dX12_month_67 rfl rfl ?_
      obtain ⟨q2, e3, h⟩ := z_bd h
      refine g_callV (a := 137) (as := []) (rest := []) (c := mX12_bothChests) (k1 := 0) dX12_month_68 rfl rfl rfl sh_137 rfl rfl (Nat.le_of_ble_eq_true rfl) (Nat.le_of_ble_eq_true rfl) (by decide) ?_
      refine A_X12_bothChests e3 ?_
      show z_G none 4 mX12_month 71 [some (.ref 139), some (.int x1), some (.int x2)] [.int q2.1] q2.2 Q
      cases h
      exact g_iret dX12_month_71 rfl rfl hq
    · replace h := z_iff c1 h
      refine g_aload_n dX12_month_57 rfl rfl ?_
      obtain ⟨q4, e5, h⟩ := z_bd h
      refine g_callV (a := 137) (as := []) (rest := []) (c := mX12_passes) (k1 := 3) dX12_month_58 rfl rfl rfl sh_137 rfl rfl (Nat.le_of_ble_eq_true rfl) (Nat.le_of_ble_eq_true rfl) (by decide) ?_
      refine A_X12_passes e5 ?_
      show z_G none 4 mX12_month 61 [some (.ref 139), some (.int x1), some (.int x2)] [] q4.2 Q
      refine g_iinc (v := x2 + (1 : Int32)) (ls' := [some (.ref 139), some (.int x1), some (.int (x2 + (1 : Int32)))]) dX12_month_61 rfl rfl rfl ?_
      refine g_goto (t := 52) dX12_month_64 (by decide) ?_
      exact g_sub (z_sub_s (z_sub_s (z_sub_s z_sub_nil))) (ih _ _ _ _ _ _ h hq)
def F_X12_month (w : Nat) (M : z_Mem) (a1 : Int32) : Option (Int32 × z_Mem) :=
  (F_X12_isIn w (z_wI (z_wI M 137 1 (0 : Int32)) 137 0 (0 : Int32)) a1.toInt64 (1 : Int64) (99 : Int64)).bind fun q6 =>
  if q6.1 = true then
  if ((q6.2.1 142 9) + a1) ≤ (9999 : Int32) then
  L_X12_month w w q6.2 a1 (0 : Int32)
  else
  (F_X12_refuse w q6.2 (7 : Int32)).bind fun q10 =>
  some (q10.1, q10.2)
  else
  (F_X12_refuse w q6.2 (5 : Int32)).bind fun q12 =>
  some (q12.1, q12.2)
set_option maxHeartbeats 4000000 in
theorem A_X12_month {w : Nat} {M : z_Mem} {a1 : Int32} {r : Int32} {M' : z_Mem} {Q : Option Value → z_Mem → Prop} (h : F_X12_month w M a1 = some (r, M')) (hq : Q (some (.int r)) M') : z_Cl 4 mX12_month [.ref 139, .int a1] M Q := by
  refine g_in (ls := [some (.ref 139), some (.int a1), none]) rfl ?_
  unfold F_X12_month at h
  refine g_aload_n dX12_month_0 rfl rfl ?_
  refine g_iconst (v := (0 : Int32)) dX12_month_1 (by decide) ?_
  refine g_putI (a := 137) dX12_month_2 f_12_57 sh_137 rfl rfl rfl ?_
  refine g_aload_n dX12_month_5 rfl rfl ?_
  refine g_iconst (v := (0 : Int32)) dX12_month_6 (by decide) ?_
  refine g_putI (a := 137) dX12_month_7 f_12_60 sh_137 rfl rfl rfl ?_
  refine g_iload_n dX12_month_10 rfl rfl ?_
  refine g_i2l dX12_month_11 ?_
  refine g_lconst (v := (1 : Int64)) dX12_month_12 (by decide) ?_
  refine g_ldc2_w dX12_month_13 rfl ?_
  obtain ⟨q6, e7, h⟩ := z_bd h
  refine g_callS (as := [.long a1.toInt64, .long (1 : Int64), .long (99 : Int64)]) (rest := []) (c := mX12_isIn) (k1 := 0) dX12_month_16 rfl rfl rfl rfl rfl (Nat.le_of_ble_eq_true rfl) (Nat.le_of_ble_eq_true rfl) (by decide) ?_
  refine A_X12_isIn e7 ?_
  show z_G none 4 mX12_month 19 [some (.ref 139), some (.int a1), none] [.int (z_tb q6.1)] q6.2 Q
  refine g_if_ne (t := 28) dX12_month_19 (by decide) (fun c8 => ?_) (fun c8 => ?_)
  · replace h := z_ift (z_tbn.mp c8) h
    refine g_aload_n dX12_month_28 rfl rfl ?_
    refine g_get (a := 137) (v := .ref 144) dX12_month_29 f_12_35 sh_137 rfl rfl ?_
    refine g_bipush (v := (9 : Int32)) dX12_month_32 (by decide) ?_
    refine g_ialN (a := 142) (j := 9) (v := q6.2.1 142 9) dX12_month_34 sh_142 rfl (by decide) rfl ?_
    refine g_iload_n dX12_month_35 rfl rfl ?_
    refine g_iadd dX12_month_36 ?_
    refine g_sipush (v := (9999 : Int32)) dX12_month_37 (by decide) ?_
    refine g_ic_le (t := 50) dX12_month_40 (by decide) (fun c9 => ?_) (fun c9 => ?_)
    · replace h := z_ift c9 h
      refine g_iconst (v := (0 : Int32)) dX12_month_50 (by decide) ?_
      refine g_istore_n (ls' := [some (.ref 139), some (.int a1), some (.int (0 : Int32))]) dX12_month_51 rfl (Nat.le_of_ble_eq_true rfl) rfl ?_
      exact g_sub (z_sub_s (z_sub_s (z_sub_s z_sub_nil))) ((AL_X12_month (w := w) w) _ _ _ _ _ _ h hq)
    · replace h := z_iff c9 h
      refine g_aload_n dX12_month_43 rfl rfl ?_
      refine g_bipush (v := (7 : Int32)) dX12_month_44 (by decide) ?_
      obtain ⟨q10, e11, h⟩ := z_bd h
      refine g_callV (a := 137) (as := [.int (7 : Int32)]) (rest := []) (c := mX12_refuse) (k1 := 0) dX12_month_46 rfl rfl rfl sh_137 rfl rfl (Nat.le_of_ble_eq_true rfl) (Nat.le_of_ble_eq_true rfl) (by decide) ?_
      refine A_X12_refuse e11 ?_
      show z_G none 4 mX12_month 49 [some (.ref 139), some (.int a1), none] [.int q10.1] q10.2 Q
      cases h
      exact g_iret dX12_month_49 rfl rfl hq
  · replace h := z_iff (z_tb0.mp c8) h
    refine g_aload_n dX12_month_22 rfl rfl ?_
    refine g_iconst (v := (5 : Int32)) dX12_month_23 (by decide) ?_
    obtain ⟨q12, e13, h⟩ := z_bd h
    refine g_callV (a := 137) (as := [.int (5 : Int32)]) (rest := []) (c := mX12_refuse) (k1 := 0) dX12_month_24 rfl rfl rfl sh_137 rfl rfl (Nat.le_of_ble_eq_true rfl) (Nat.le_of_ble_eq_true rfl) (by decide) ?_
    refine A_X12_refuse e13 ?_
    show z_G none 4 mX12_month 27 [some (.ref 139), some (.int a1), none] [.int q12.1] q12.2 Q
    cases h
    exact g_iret dX12_month_27 rfl rfl hq
theorem dX12_hasToll_0 : decode cX12_hasToll 0 = .ok (.aload_n 0, 1) := by decide +kernel
theorem dX12_hasToll_1 : decode cX12_hasToll 1 = .ok (.getfield 35, 3) := by decide +kernel
theorem dX12_hasToll_4 : decode cX12_hasToll 4 = .ok (.bipush 13, 2) := by decide +kernel
theorem dX12_hasToll_6 : decode cX12_hasToll 6 = .ok (.aload_n 0, 1) := by decide +kernel
theorem dX12_hasToll_7 : decode cX12_hasToll 7 = .ok (.getfield 35, 3) := by decide +kernel
theorem dX12_hasToll_10 : decode cX12_hasToll 10 = .ok (.bipush 8, 2) := by decide +kernel
theorem dX12_hasToll_12 : decode cX12_hasToll 12 = .ok (.iaload, 1) := by decide +kernel
theorem dX12_hasToll_13 : decode cX12_hasToll 13 = .ok (.isub, 1) := by decide +kernel
theorem dX12_hasToll_14 : decode cX12_hasToll 14 = .ok (.iaload, 1) := by decide +kernel
theorem dX12_hasToll_15 : decode cX12_hasToll 15 = .ok (.aload_n 0, 1) := by decide +kernel
theorem dX12_hasToll_16 : decode cX12_hasToll 16 = .ok (.getfield 35, 3) := by decide +kernel
theorem dX12_hasToll_19 : decode cX12_hasToll 19 = .ok (.bipush 6, 2) := by decide +kernel
theorem dX12_hasToll_21 : decode cX12_hasToll 21 = .ok (.iaload, 1) := by decide +kernel
theorem dX12_hasToll_22 : decode cX12_hasToll 22 = .ok (.if_icmp .lt 7, 3) := by decide +kernel
theorem dX12_hasToll_25 : decode cX12_hasToll 25 = .ok (.iconst 1, 1) := by decide +kernel
theorem dX12_hasToll_26 : decode cX12_hasToll 26 = .ok (.goto 4, 3) := by decide +kernel
theorem dX12_hasToll_29 : decode cX12_hasToll 29 = .ok (.iconst 0, 1) := by decide +kernel
theorem dX12_hasToll_30 : decode cX12_hasToll 30 = .ok (.ireturn, 1) := by decide +kernel
def F_X12_hasToll (w : Nat) (M : z_Mem) : Option (Bool × z_Mem) :=
  if ((13 : Int32) - (M.1 142 8)) < 0 ∨ 1875 ≤ ((13 : Int32) - (M.1 142 8)).toNatClampNeg then none else
  if (M.1 142 ((13 : Int32) - (M.1 142 8)).toNatClampNeg) < (M.1 142 6) then
  some (false, M)
  else
  some (true, M)
set_option maxHeartbeats 4000000 in
theorem A_X12_hasToll {w : Nat} {M : z_Mem} {r : Bool} {M' : z_Mem} {Q : Option Value → z_Mem → Prop} (h : F_X12_hasToll w M = some (r, M')) (hq : Q (some (.int (z_tb r))) M') : z_Cl 0 mX12_hasToll [.ref 139] M Q := by
  refine g_in (ls := [some (.ref 139)]) rfl ?_
  unfold F_X12_hasToll at h
  refine g_aload_n dX12_hasToll_0 rfl rfl ?_
  refine g_get (a := 137) (v := .ref 144) dX12_hasToll_1 f_12_35 sh_137 rfl rfl ?_
  refine g_bipush (v := (13 : Int32)) dX12_hasToll_4 (by decide) ?_
  refine g_aload_n dX12_hasToll_6 rfl rfl ?_
  refine g_get (a := 137) (v := .ref 144) dX12_hasToll_7 f_12_35 sh_137 rfl rfl ?_
  refine g_bipush (v := (8 : Int32)) dX12_hasToll_10 (by decide) ?_
  refine g_ialN (a := 142) (j := 8) (v := M.1 142 8) dX12_hasToll_12 sh_142 rfl (by decide) rfl ?_
  refine g_isub dX12_hasToll_13 ?_
  by_cases g1 : ((13 : Int32) - (M.1 142 8)) < 0 ∨ 1875 ≤ ((13 : Int32) - (M.1 142 8)).toNatClampNeg
  · rw [if_pos g1] at h; cases h
  replace h := z_iff g1 h
  refine g_iald (a := 142) dX12_hasToll_14 sh_142 g1 ?_
  refine g_aload_n dX12_hasToll_15 rfl rfl ?_
  refine g_get (a := 137) (v := .ref 144) dX12_hasToll_16 f_12_35 sh_137 rfl rfl ?_
  refine g_bipush (v := (6 : Int32)) dX12_hasToll_19 (by decide) ?_
  refine g_ialN (a := 142) (j := 6) (v := M.1 142 6) dX12_hasToll_21 sh_142 rfl (by decide) rfl ?_
  refine g_ic_lt (t := 29) dX12_hasToll_22 (by decide) (fun c2 => ?_) (fun c2 => ?_)
  · replace h := z_ift c2 h
    refine g_iconst (v := (0 : Int32)) dX12_hasToll_29 (by decide) ?_
    cases h
    exact g_iret dX12_hasToll_30 rfl rfl hq
  · replace h := z_iff c2 h
    refine g_iconst (v := (1 : Int32)) dX12_hasToll_25 (by decide) ?_
    refine g_goto (t := 30) dX12_hasToll_26 (by decide) ?_
    cases h
    exact g_iret dX12_hasToll_30 rfl rfl hq
theorem dX12_carries_0 : decode cX12_carries 0 = .ok (.iload_n 1, 1) := by decide +kernel
theorem dX12_carries_1 : decode cX12_carries 1 = .ok (.iload_n 2, 1) := by decide +kernel
theorem dX12_carries_2 : decode cX12_carries 2 = .ok (.if_icmp .ne 10, 3) := by decide +kernel
theorem dX12_carries_5 : decode cX12_carries 5 = .ok (.aload_n 0, 1) := by decide +kernel
theorem dX12_carries_6 : decode cX12_carries 6 = .ok (.invokevirtual 387, 3) := by decide +kernel
theorem dX12_carries_9 : decode cX12_carries 9 = .ok (.ifCond .ne 5, 3) := by decide +kernel
theorem dX12_carries_12 : decode cX12_carries 12 = .ok (.iconst 0, 1) := by decide +kernel
theorem dX12_carries_13 : decode cX12_carries 13 = .ok (.ireturn, 1) := by decide +kernel
theorem dX12_carries_14 : decode cX12_carries 14 = .ok (.aload_n 0, 1) := by decide +kernel
theorem dX12_carries_15 : decode cX12_carries 15 = .ok (.getfield 35, 3) := by decide +kernel
theorem dX12_carries_18 : decode cX12_carries 18 = .ok (.bipush 8, 2) := by decide +kernel
theorem dX12_carries_20 : decode cX12_carries 20 = .ok (.iconst 1, 1) := by decide +kernel
theorem dX12_carries_21 : decode cX12_carries 21 = .ok (.aload_n 0, 1) := by decide +kernel
theorem dX12_carries_22 : decode cX12_carries 22 = .ok (.getfield 35, 3) := by decide +kernel
theorem dX12_carries_25 : decode cX12_carries 25 = .ok (.bipush 8, 2) := by decide +kernel
theorem dX12_carries_27 : decode cX12_carries 27 = .ok (.iaload, 1) := by decide +kernel
theorem dX12_carries_28 : decode cX12_carries 28 = .ok (.isub, 1) := by decide +kernel
theorem dX12_carries_29 : decode cX12_carries 29 = .ok (.iastore, 1) := by decide +kernel
theorem dX12_carries_30 : decode cX12_carries 30 = .ok (.aload_n 0, 1) := by decide +kernel
theorem dX12_carries_31 : decode cX12_carries 31 = .ok (.getfield 35, 3) := by decide +kernel
theorem dX12_carries_34 : decode cX12_carries 34 = .ok (.bipush 12, 2) := by decide +kernel
theorem dX12_carries_36 : decode cX12_carries 36 = .ok (.aload_n 0, 1) := by decide +kernel
theorem dX12_carries_37 : decode cX12_carries 37 = .ok (.getfield 35, 3) := by decide +kernel
theorem dX12_carries_40 : decode cX12_carries 40 = .ok (.bipush 8, 2) := by decide +kernel
theorem dX12_carries_42 : decode cX12_carries 42 = .ok (.iaload, 1) := by decide +kernel
theorem dX12_carries_43 : decode cX12_carries 43 = .ok (.iadd, 1) := by decide +kernel
theorem dX12_carries_44 : decode cX12_carries 44 = .ok (.dup2, 1) := by decide +kernel
theorem dX12_carries_45 : decode cX12_carries 45 = .ok (.iaload, 1) := by decide +kernel
theorem dX12_carries_46 : decode cX12_carries 46 = .ok (.aload_n 0, 1) := by decide +kernel
theorem dX12_carries_47 : decode cX12_carries 47 = .ok (.getfield 35, 3) := by decide +kernel
theorem dX12_carries_50 : decode cX12_carries 50 = .ok (.bipush 6, 2) := by decide +kernel
theorem dX12_carries_52 : decode cX12_carries 52 = .ok (.iaload, 1) := by decide +kernel
theorem dX12_carries_53 : decode cX12_carries 53 = .ok (.isub, 1) := by decide +kernel
theorem dX12_carries_54 : decode cX12_carries 54 = .ok (.iastore, 1) := by decide +kernel
theorem dX12_carries_55 : decode cX12_carries 55 = .ok (.aload_n 0, 1) := by decide +kernel
theorem dX12_carries_56 : decode cX12_carries 56 = .ok (.getfield 35, 3) := by decide +kernel
theorem dX12_carries_59 : decode cX12_carries 59 = .ok (.bipush 10, 2) := by decide +kernel
theorem dX12_carries_61 : decode cX12_carries 61 = .ok (.dup2, 1) := by decide +kernel
theorem dX12_carries_62 : decode cX12_carries 62 = .ok (.iaload, 1) := by decide +kernel
theorem dX12_carries_63 : decode cX12_carries 63 = .ok (.aload_n 0, 1) := by decide +kernel
theorem dX12_carries_64 : decode cX12_carries 64 = .ok (.getfield 35, 3) := by decide +kernel
theorem dX12_carries_67 : decode cX12_carries 67 = .ok (.iconst 1, 1) := by decide +kernel
theorem dX12_carries_68 : decode cX12_carries 68 = .ok (.iaload, 1) := by decide +kernel
theorem dX12_carries_69 : decode cX12_carries 69 = .ok (.iadd, 1) := by decide +kernel
theorem dX12_carries_70 : decode cX12_carries 70 = .ok (.iastore, 1) := by decide +kernel
theorem dX12_carries_71 : decode cX12_carries 71 = .ok (.aload_n 0, 1) := by decide +kernel
theorem dX12_carries_72 : decode cX12_carries 72 = .ok (.getfield 35, 3) := by decide +kernel
theorem dX12_carries_75 : decode cX12_carries 75 = .ok (.iconst 1, 1) := by decide +kernel
theorem dX12_carries_76 : decode cX12_carries 76 = .ok (.iconst 0, 1) := by decide +kernel
theorem dX12_carries_77 : decode cX12_carries 77 = .ok (.iastore, 1) := by decide +kernel
theorem dX12_carries_78 : decode cX12_carries 78 = .ok (.aload_n 0, 1) := by decide +kernel
theorem dX12_carries_79 : decode cX12_carries 79 = .ok (.getfield 35, 3) := by decide +kernel
theorem dX12_carries_82 : decode cX12_carries 82 = .ok (.bipush 11, 2) := by decide +kernel
theorem dX12_carries_84 : decode cX12_carries 84 = .ok (.dup2, 1) := by decide +kernel
theorem dX12_carries_85 : decode cX12_carries 85 = .ok (.iaload, 1) := by decide +kernel
theorem dX12_carries_86 : decode cX12_carries 86 = .ok (.iconst 1, 1) := by decide +kernel
theorem dX12_carries_87 : decode cX12_carries 87 = .ok (.iadd, 1) := by decide +kernel
theorem dX12_carries_88 : decode cX12_carries 88 = .ok (.iastore, 1) := by decide +kernel
theorem dX12_carries_89 : decode cX12_carries 89 = .ok (.iconst 1, 1) := by decide +kernel
theorem dX12_carries_90 : decode cX12_carries 90 = .ok (.ireturn, 1) := by decide +kernel
def F_X12_carries (w : Nat) (M : z_Mem) (a1 : Int32) (a2 : Int32) : Option (Bool × z_Mem) :=
  if a1 = a2 then
  (F_X12_hasToll w M).bind fun q2 =>
  if q2.1 = true then
  if ((12 : Int32) + ((1 : Int32) - (q2.2.1 142 8))) < 0 ∨ 1875 ≤ ((12 : Int32) + ((1 : Int32) - (q2.2.1 142 8))).toNatClampNeg then none else
  if ((12 : Int32) + ((1 : Int32) - (q2.2.1 142 8))) < 0 ∨ 1875 ≤ ((12 : Int32) + ((1 : Int32) - (q2.2.1 142 8))).toNatClampNeg then none else
  some (true, (z_wI (z_wI (z_wI (z_wI (z_wI q2.2 142 8 ((1 : Int32) - (q2.2.1 142 8))) 142 (((12 : Int32) + ((1 : Int32) - (q2.2.1 142 8))).toNatClampNeg) (((z_wI q2.2 142 8 ((1 : Int32) - (q2.2.1 142 8))).1 142 ((12 : Int32) + ((1 : Int32) - (q2.2.1 142 8))).toNatClampNeg) - (q2.2.1 142 6))) 142 10 (((z_wI (z_wI q2.2 142 8 ((1 : Int32) - (q2.2.1 142 8))) 142 (((12 : Int32) + ((1 : Int32) - (q2.2.1 142 8))).toNatClampNeg) (((z_wI q2.2 142 8 ((1 : Int32) - (q2.2.1 142 8))).1 142 ((12 : Int32) + ((1 : Int32) - (q2.2.1 142 8))).toNatClampNeg) - (q2.2.1 142 6))).1 142 10) + ((z_wI (z_wI q2.2 142 8 ((1 : Int32) - (q2.2.1 142 8))) 142 (((12 : Int32) + ((1 : Int32) - (q2.2.1 142 8))).toNatClampNeg) (((z_wI q2.2 142 8 ((1 : Int32) - (q2.2.1 142 8))).1 142 ((12 : Int32) + ((1 : Int32) - (q2.2.1 142 8))).toNatClampNeg) - (q2.2.1 142 6))).1 142 1))) 142 1 (0 : Int32)) 142 11 (((z_wI (z_wI q2.2 142 8 ((1 : Int32) - (q2.2.1 142 8))) 142 (((12 : Int32) + ((1 : Int32) - (q2.2.1 142 8))).toNatClampNeg) (((z_wI q2.2 142 8 ((1 : Int32) - (q2.2.1 142 8))).1 142 ((12 : Int32) + ((1 : Int32) - (q2.2.1 142 8))).toNatClampNeg) - (q2.2.1 142 6))).1 142 11) + (1 : Int32))))
  else
  some (false, q2.2)
  else
  some (false, M)
set_option maxHeartbeats 4000000 in
theorem A_X12_carries {w : Nat} {M : z_Mem} {a1 : Int32} {a2 : Int32} {r : Bool} {M' : z_Mem} {Q : Option Value → z_Mem → Prop} (h : F_X12_carries w M a1 a2 = some (r, M')) (hq : Q (some (.int (z_tb r))) M') : z_Cl 1 mX12_carries [.ref 139, .int a1, .int a2] M Q := by
  refine g_in (ls := [some (.ref 139), some (.int a1), some (.int a2)]) rfl ?_
  unfold F_X12_carries at h
  refine g_iload_n dX12_carries_0 rfl rfl ?_
  refine g_iload_n dX12_carries_1 rfl rfl ?_
  refine g_ic_ne (t := 12) dX12_carries_2 (by decide) (fun c1 => ?_) (fun c1 => ?_)
  · replace h := z_iff c1 h
    refine g_iconst (v := (0 : Int32)) dX12_carries_12 (by decide) ?_
    cases h
    exact g_iret dX12_carries_13 rfl rfl hq
  · replace h := z_ift c1 h
    refine g_aload_n dX12_carries_5 rfl rfl ?_
    obtain ⟨q2, e3, h⟩ := z_bd h
    refine g_callV (a := 137) (as := []) (rest := []) (c := mX12_hasToll) (k1 := 0) dX12_carries_6 rfl rfl rfl sh_137 rfl rfl (Nat.le_of_ble_eq_true rfl) (Nat.le_of_ble_eq_true rfl) (by decide) ?_
    refine A_X12_hasToll e3 ?_
    show z_G none 1 mX12_carries 9 [some (.ref 139), some (.int a1), some (.int a2)] [.int (z_tb q2.1)] q2.2 Q
    refine g_if_ne (t := 14) dX12_carries_9 (by decide) (fun c4 => ?_) (fun c4 => ?_)
    · replace h := z_ift (z_tbn.mp c4) h
      refine g_aload_n dX12_carries_14 rfl rfl ?_
      refine g_get (a := 137) (v := .ref 144) dX12_carries_15 f_12_35 sh_137 rfl rfl ?_
      refine g_bipush (v := (8 : Int32)) dX12_carries_18 (by decide) ?_
      refine g_iconst (v := (1 : Int32)) dX12_carries_20 (by decide) ?_
      refine g_aload_n dX12_carries_21 rfl rfl ?_
      refine g_get (a := 137) (v := .ref 144) dX12_carries_22 f_12_35 sh_137 rfl rfl ?_
      refine g_bipush (v := (8 : Int32)) dX12_carries_25 (by decide) ?_
      refine g_ialN (a := 142) (j := 8) (v := q2.2.1 142 8) dX12_carries_27 sh_142 rfl (by decide) rfl ?_
      refine g_isub dX12_carries_28 ?_
      refine g_iasN (a := 142) (j := 8) dX12_carries_29 sh_142 rfl (by decide) ?_
      refine g_aload_n dX12_carries_30 rfl rfl ?_
      refine g_get (a := 137) (v := .ref 144) dX12_carries_31 f_12_35 sh_137 rfl rfl ?_
      refine g_bipush (v := (12 : Int32)) dX12_carries_34 (by decide) ?_
      refine g_aload_n dX12_carries_36 rfl rfl ?_
      refine g_get (a := 137) (v := .ref 144) dX12_carries_37 f_12_35 sh_137 rfl rfl ?_
      refine g_bipush (v := (8 : Int32)) dX12_carries_40 (by decide) ?_
      refine g_ialN (a := 142) (j := 8) (v := (1 : Int32) - (q2.2.1 142 8)) dX12_carries_42 sh_142 rfl (by decide) (by simp [z_wI, z_wL, z_wLs, upd, vp_updL]) ?_
      refine g_iadd dX12_carries_43 ?_
      refine g_dup2 dX12_carries_44 rfl rfl ?_
      by_cases g5 : ((12 : Int32) + ((1 : Int32) - (q2.2.1 142 8))) < 0 ∨ 1875 ≤ ((12 : Int32) + ((1 : Int32) - (q2.2.1 142 8))).toNatClampNeg
      · rw [if_pos g5] at h; cases h
      replace h := z_iff g5 h
      refine g_iald (a := 142) dX12_carries_45 sh_142 g5 ?_
      refine g_aload_n dX12_carries_46 rfl rfl ?_
      refine g_get (a := 137) (v := .ref 144) dX12_carries_47 f_12_35 sh_137 rfl rfl ?_
      refine g_bipush (v := (6 : Int32)) dX12_carries_50 (by decide) ?_
      refine g_ialN (a := 142) (j := 6) (v := q2.2.1 142 6) dX12_carries_52 sh_142 rfl (by decide) (by simp [z_wI, z_wL, z_wLs, upd, vp_updL]) ?_
      refine g_isub dX12_carries_53 ?_
      by_cases g6 : ((12 : Int32) + ((1 : Int32) - (q2.2.1 142 8))) < 0 ∨ 1875 ≤ ((12 : Int32) + ((1 : Int32) - (q2.2.1 142 8))).toNatClampNeg
      · rw [if_pos g6] at h; cases h
      replace h := z_iff g6 h
      refine g_iast (a := 142) dX12_carries_54 sh_142 g6 ?_
      refine g_aload_n dX12_carries_55 rfl rfl ?_
      refine g_get (a := 137) (v := .ref 144) dX12_carries_56 f_12_35 sh_137 rfl rfl ?_
      refine g_bipush (v := (10 : Int32)) dX12_carries_59 (by decide) ?_
      refine g_dup2 dX12_carries_61 rfl rfl ?_
      refine g_ialN (a := 142) (j := 10) (v := (z_wI (z_wI q2.2 142 8 ((1 : Int32) - (q2.2.1 142 8))) 142 (((12 : Int32) + ((1 : Int32) - (q2.2.1 142 8))).toNatClampNeg) (((z_wI q2.2 142 8 ((1 : Int32) - (q2.2.1 142 8))).1 142 ((12 : Int32) + ((1 : Int32) - (q2.2.1 142 8))).toNatClampNeg) - (q2.2.1 142 6))).1 142 10) dX12_carries_62 sh_142 rfl (by decide) (by simp [z_wI, z_wL, z_wLs, upd, vp_updL]) ?_
      refine g_aload_n dX12_carries_63 rfl rfl ?_
      refine g_get (a := 137) (v := .ref 144) dX12_carries_64 f_12_35 sh_137 rfl rfl ?_
      refine g_iconst (v := (1 : Int32)) dX12_carries_67 (by decide) ?_
      refine g_ialN (a := 142) (j := 1) (v := (z_wI (z_wI q2.2 142 8 ((1 : Int32) - (q2.2.1 142 8))) 142 (((12 : Int32) + ((1 : Int32) - (q2.2.1 142 8))).toNatClampNeg) (((z_wI q2.2 142 8 ((1 : Int32) - (q2.2.1 142 8))).1 142 ((12 : Int32) + ((1 : Int32) - (q2.2.1 142 8))).toNatClampNeg) - (q2.2.1 142 6))).1 142 1) dX12_carries_68 sh_142 rfl (by decide) (by simp [z_wI, z_wL, z_wLs, upd, vp_updL]) ?_
      refine g_iadd dX12_carries_69 ?_
      refine g_iasN (a := 142) (j := 10) dX12_carries_70 sh_142 rfl (by decide) ?_
      refine g_aload_n dX12_carries_71 rfl rfl ?_
      refine g_get (a := 137) (v := .ref 144) dX12_carries_72 f_12_35 sh_137 rfl rfl ?_
      refine g_iconst (v := (1 : Int32)) dX12_carries_75 (by decide) ?_
      refine g_iconst (v := (0 : Int32)) dX12_carries_76 (by decide) ?_
      refine g_iasN (a := 142) (j := 1) dX12_carries_77 sh_142 rfl (by decide) ?_
      refine g_aload_n dX12_carries_78 rfl rfl ?_
      refine g_get (a := 137) (v := .ref 144) dX12_carries_79 f_12_35 sh_137 rfl rfl ?_
      refine g_bipush (v := (11 : Int32)) dX12_carries_82 (by decide) ?_
      refine g_dup2 dX12_carries_84 rfl rfl ?_
      refine g_ialN (a := 142) (j := 11) (v := (z_wI (z_wI q2.2 142 8 ((1 : Int32) - (q2.2.1 142 8))) 142 (((12 : Int32) + ((1 : Int32) - (q2.2.1 142 8))).toNatClampNeg) (((z_wI q2.2 142 8 ((1 : Int32) - (q2.2.1 142 8))).1 142 ((12 : Int32) + ((1 : Int32) - (q2.2.1 142 8))).toNatClampNeg) - (q2.2.1 142 6))).1 142 11) dX12_carries_85 sh_142 rfl (by decide) (by simp [z_wI, z_wL, z_wLs, upd, vp_updL]) ?_
      refine g_iconst (v := (1 : Int32)) dX12_carries_86 (by decide) ?_
      refine g_iadd dX12_carries_87 ?_
      refine g_iasN (a := 142) (j := 11) dX12_carries_88 sh_142 rfl (by decide) ?_
      refine g_iconst (v := (1 : Int32)) dX12_carries_89 (by decide) ?_
      cases h
      exact g_iret dX12_carries_90 rfl rfl hq
    · replace h := z_iff (z_tb0.mp c4) h
      refine g_iconst (v := (0 : Int32)) dX12_carries_12 (by decide) ?_
      cases h
      exact g_iret dX12_carries_13 rfl rfl hq
theorem dX12_carry_0 : decode cX12_carry 0 = .ok (.aload_n 0, 1) := by decide +kernel
theorem dX12_carry_1 : decode cX12_carry 1 = .ok (.iconst 0, 1) := by decide +kernel
theorem dX12_carry_2 : decode cX12_carry 2 = .ok (.putfield 57, 3) := by decide +kernel
theorem dX12_carry_5 : decode cX12_carry 5 = .ok (.aload_n 0, 1) := by decide +kernel
theorem dX12_carry_6 : decode cX12_carry 6 = .ok (.iconst 0, 1) := by decide +kernel
theorem dX12_carry_7 : decode cX12_carry 7 = .ok (.putfield 60, 3) := by decide +kernel
theorem dX12_carry_10 : decode cX12_carry 10 = .ok (.iload_n 1, 1) := by decide +kernel
theorem dX12_carry_11 : decode cX12_carry 11 = .ok (.i2l, 1) := by decide +kernel
theorem dX12_carry_12 : decode cX12_carry 12 = .ok (.lconst 1, 1) := by decide +kernel
theorem dX12_carry_13 : decode cX12_carry 13 = .ok (.ldc2_w 390, 3) := by decide +kernel
theorem dX12_carry_16 : decode cX12_carry 16 = .ok (.invokestatic 92, 3) := by decide +kernel
theorem dX12_carry_19 : decode cX12_carry 19 = .ok (.ifCond .eq 15, 3) := by decide +kernel
theorem dX12_carry_22 : decode cX12_carry 22 = .ok (.iload_n 2, 1) := by decide +kernel
theorem dX12_carry_23 : decode cX12_carry 23 = .ok (.i2l, 1) := by decide +kernel
theorem dX12_carry_24 : decode cX12_carry 24 = .ok (.lconst 1, 1) := by decide +kernel
theorem dX12_carry_25 : decode cX12_carry 25 = .ok (.ldc2_w 390, 3) := by decide +kernel
theorem dX12_carry_28 : decode cX12_carry 28 = .ok (.invokestatic 92, 3) := by decide +kernel
theorem dX12_carry_31 : decode cX12_carry 31 = .ok (.ifCond .ne 9, 3) := by decide +kernel
theorem dX12_carry_34 : decode cX12_carry 34 = .ok (.aload_n 0, 1) := by decide +kernel
theorem dX12_carry_35 : decode cX12_carry 35 = .ok (.iconst 5, 1) := by decide +kernel
theorem dX12_carry_36 : decode cX12_carry 36 = .ok (.invokevirtual 333, 3) := by decide +kernel
theorem dX12_carry_39 : decode cX12_carry 39 = .ok (.ireturn, 1) := by decide +kernel
theorem dX12_carry_40 : decode cX12_carry 40 = .ok (.aload_n 0, 1) := by decide +kernel
theorem dX12_carry_41 : decode cX12_carry 41 = .ok (.iload_n 1, 1) := by decide +kernel
theorem dX12_carry_42 : decode cX12_carry 42 = .ok (.iload_n 2, 1) := by decide +kernel
theorem dX12_carry_43 : decode cX12_carry 43 = .ok (.invokevirtual 392, 3) := by decide +kernel
theorem dX12_carry_46 : decode cX12_carry 46 = .ok (.ifCond .eq 13, 3) := by decide +kernel
theorem dX12_carry_49 : decode cX12_carry 49 = .ok (.aload_n 0, 1) := by decide +kernel
theorem dX12_carry_50 : decode cX12_carry 50 = .ok (.getfield 35, 3) := by decide +kernel
theorem dX12_carry_53 : decode cX12_carry 53 = .ok (.bipush 8, 2) := by decide +kernel
theorem dX12_carry_55 : decode cX12_carry 55 = .ok (.iaload, 1) := by decide +kernel
theorem dX12_carry_56 : decode cX12_carry 56 = .ok (.goto 9, 3) := by decide +kernel
theorem dX12_carry_59 : decode cX12_carry 59 = .ok (.aload_n 0, 1) := by decide +kernel
theorem dX12_carry_60 : decode cX12_carry 60 = .ok (.bipush 9, 2) := by decide +kernel
theorem dX12_carry_62 : decode cX12_carry 62 = .ok (.invokevirtual 333, 3) := by decide +kernel
theorem dX12_carry_65 : decode cX12_carry 65 = .ok (.ireturn, 1) := by decide +kernel
def F_X12_carry (w : Nat) (M : z_Mem) (a1 : Int32) (a2 : Int32) : Option (Int32 × z_Mem) :=
  (F_X12_isIn w (z_wI (z_wI M 137 1 (0 : Int32)) 137 0 (0 : Int32)) a1.toInt64 (1 : Int64) (20 : Int64)).bind fun q1 =>
  if q1.1 = true then
  (F_X12_isIn w q1.2 a2.toInt64 (1 : Int64) (20 : Int64)).bind fun q6 =>
  if q6.1 = true then
  (F_X12_carries w q6.2 a1 a2).bind fun q9 =>
  if q9.1 = true then
  some (q9.2.1 142 8, q9.2)
  else
  (F_X12_refuse w q9.2 (9 : Int32)).bind fun q12 =>
  some (q12.1, q12.2)
  else
  (F_X12_refuse w q6.2 (5 : Int32)).bind fun q14 =>
  some (q14.1, q14.2)
  else
  (F_X12_refuse w q1.2 (5 : Int32)).bind fun q4 =>
  some (q4.1, q4.2)
set_option maxHeartbeats 4000000 in
theorem A_X12_carry {w : Nat} {M : z_Mem} {a1 : Int32} {a2 : Int32} {r : Int32} {M' : z_Mem} {Q : Option Value → z_Mem → Prop} (h : F_X12_carry w M a1 a2 = some (r, M')) (hq : Q (some (.int r)) M') : z_Cl 2 mX12_carry [.ref 139, .int a1, .int a2] M Q := by
  refine g_in (ls := [some (.ref 139), some (.int a1), some (.int a2)]) rfl ?_
  unfold F_X12_carry at h
  refine g_aload_n dX12_carry_0 rfl rfl ?_
  refine g_iconst (v := (0 : Int32)) dX12_carry_1 (by decide) ?_
  refine g_putI (a := 137) dX12_carry_2 f_12_57 sh_137 rfl rfl rfl ?_
  refine g_aload_n dX12_carry_5 rfl rfl ?_
  refine g_iconst (v := (0 : Int32)) dX12_carry_6 (by decide) ?_
  refine g_putI (a := 137) dX12_carry_7 f_12_60 sh_137 rfl rfl rfl ?_
  refine g_iload_n dX12_carry_10 rfl rfl ?_
  refine g_i2l dX12_carry_11 ?_
  refine g_lconst (v := (1 : Int64)) dX12_carry_12 (by decide) ?_
  refine g_ldc2_w dX12_carry_13 rfl ?_
  obtain ⟨q1, e2, h⟩ := z_bd h
  refine g_callS (as := [.long a1.toInt64, .long (1 : Int64), .long (20 : Int64)]) (rest := []) (c := mX12_isIn) (k1 := 0) dX12_carry_16 rfl rfl rfl rfl rfl (Nat.le_of_ble_eq_true rfl) (Nat.le_of_ble_eq_true rfl) (by decide) ?_
  refine A_X12_isIn e2 ?_
  show z_G none 2 mX12_carry 19 [some (.ref 139), some (.int a1), some (.int a2)] [.int (z_tb q1.1)] q1.2 Q
  refine g_if_eq (t := 34) dX12_carry_19 (by decide) (fun c3 => ?_) (fun c3 => ?_)
  · replace h := z_iff (z_tb0.mp c3) h
    refine g_aload_n dX12_carry_34 rfl rfl ?_
    refine g_iconst (v := (5 : Int32)) dX12_carry_35 (by decide) ?_
    obtain ⟨q4, e5, h⟩ := z_bd h
    refine g_callV (a := 137) (as := [.int (5 : Int32)]) (rest := []) (c := mX12_refuse) (k1 := 0) dX12_carry_36 rfl rfl rfl sh_137 rfl rfl (Nat.le_of_ble_eq_true rfl) (Nat.le_of_ble_eq_true rfl) (by decide) ?_
    refine A_X12_refuse e5 ?_
    show z_G none 2 mX12_carry 39 [some (.ref 139), some (.int a1), some (.int a2)] [.int q4.1] q4.2 Q
    cases h
    exact g_iret dX12_carry_39 rfl rfl hq
  · replace h := z_ift (z_tbn.mp c3) h
    refine g_iload_n dX12_carry_22 rfl rfl ?_
    refine g_i2l dX12_carry_23 ?_
    refine g_lconst (v := (1 : Int64)) dX12_carry_24 (by decide) ?_
    refine g_ldc2_w dX12_carry_25 rfl ?_
    obtain ⟨q6, e7, h⟩ := z_bd h
    refine g_callS (as := [.long a2.toInt64, .long (1 : Int64), .long (20 : Int64)]) (rest := []) (c := mX12_isIn) (k1 := 0) dX12_carry_28 rfl rfl rfl rfl rfl (Nat.le_of_ble_eq_true rfl) (Nat.le_of_ble_eq_true rfl) (by decide) ?_
    refine A_X12_isIn e7 ?_
    show z_G none 2 mX12_carry 31 [some (.ref 139), some (.int a1), some (.int a2)] [.int (z_tb q6.1)] q6.2 Q
    refine g_if_ne (t := 40) dX12_carry_31 (by decide) (fun c8 => ?_) (fun c8 => ?_)
    · replace h := z_ift (z_tbn.mp c8) h
      refine g_aload_n dX12_carry_40 rfl rfl ?_
      refine g_iload_n dX12_carry_41 rfl rfl ?_
      refine g_iload_n dX12_carry_42 rfl rfl ?_
      obtain ⟨q9, e10, h⟩ := z_bd h
      refine g_callV (a := 137) (as := [.int a1, .int a2]) (rest := []) (c := mX12_carries) (k1 := 1) dX12_carry_43 rfl rfl rfl sh_137 rfl rfl (Nat.le_of_ble_eq_true rfl) (Nat.le_of_ble_eq_true rfl) (by decide) ?_
      refine A_X12_carries e10 ?_
      show z_G none 2 mX12_carry 46 [some (.ref 139), some (.int a1), some (.int a2)] [.int (z_tb q9.1)] q9.2 Q
      refine g_if_eq (t := 59) dX12_carry_46 (by decide) (fun c11 => ?_) (fun c11 => ?_)
      · replace h := z_iff (z_tb0.mp c11) h
        refine g_aload_n dX12_carry_59 rfl rfl ?_
        refine g_bipush (v := (9 : Int32)) dX12_carry_60 (by decide) ?_
        obtain ⟨q12, e13, h⟩ := z_bd h
        refine g_callV (a := 137) (as := [.int (9 : Int32)]) (rest := []) (c := mX12_refuse) (k1 := 0) dX12_carry_62 rfl rfl rfl sh_137 rfl rfl (Nat.le_of_ble_eq_true rfl) (Nat.le_of_ble_eq_true rfl) (by decide) ?_
        refine A_X12_refuse e13 ?_
        show z_G none 2 mX12_carry 65 [some (.ref 139), some (.int a1), some (.int a2)] [.int q12.1] q12.2 Q
        cases h
        exact g_iret dX12_carry_65 rfl rfl hq
      · replace h := z_ift (z_tbn.mp c11) h
        refine g_aload_n dX12_carry_49 rfl rfl ?_
        refine g_get (a := 137) (v := .ref 144) dX12_carry_50 f_12_35 sh_137 rfl rfl ?_
        refine g_bipush (v := (8 : Int32)) dX12_carry_53 (by decide) ?_
        refine g_ialN (a := 142) (j := 8) (v := q9.2.1 142 8) dX12_carry_55 sh_142 rfl (by decide) rfl ?_
        refine g_goto (t := 65) dX12_carry_56 (by decide) ?_
        cases h
        exact g_iret dX12_carry_65 rfl rfl hq
    · replace h := z_iff (z_tb0.mp c8) h
      refine g_aload_n dX12_carry_34 rfl rfl ?_
      refine g_iconst (v := (5 : Int32)) dX12_carry_35 (by decide) ?_
      obtain ⟨q14, e15, h⟩ := z_bd h
      refine g_callV (a := 137) (as := [.int (5 : Int32)]) (rest := []) (c := mX12_refuse) (k1 := 0) dX12_carry_36 rfl rfl rfl sh_137 rfl rfl (Nat.le_of_ble_eq_true rfl) (Nat.le_of_ble_eq_true rfl) (by decide) ?_
      refine A_X12_refuse e15 ?_
      show z_G none 2 mX12_carry 39 [some (.ref 139), some (.int a1), some (.int a2)] [.int q14.1] q14.2 Q
      cases h
      exact g_iret dX12_carry_39 rfl rfl hq
theorem dX12_swear_0 : decode cX12_swear 0 = .ok (.aload_n 0, 1) := by decide +kernel
theorem dX12_swear_1 : decode cX12_swear 1 = .ok (.iconst 0, 1) := by decide +kernel
theorem dX12_swear_2 : decode cX12_swear 2 = .ok (.putfield 57, 3) := by decide +kernel
theorem dX12_swear_5 : decode cX12_swear 5 = .ok (.aload_n 0, 1) := by decide +kernel
theorem dX12_swear_6 : decode cX12_swear 6 = .ok (.iconst 0, 1) := by decide +kernel
theorem dX12_swear_7 : decode cX12_swear 7 = .ok (.putfield 60, 3) := by decide +kernel
theorem dX12_swear_10 : decode cX12_swear 10 = .ok (.iload_n 1, 1) := by decide +kernel
theorem dX12_swear_11 : decode cX12_swear 11 = .ok (.invokestatic 336, 3) := by decide +kernel
theorem dX12_swear_14 : decode cX12_swear 14 = .ok (.ifCond .ne 9, 3) := by decide +kernel
theorem dX12_swear_17 : decode cX12_swear 17 = .ok (.aload_n 0, 1) := by decide +kernel
theorem dX12_swear_18 : decode cX12_swear 18 = .ok (.iconst 2, 1) := by decide +kernel
theorem dX12_swear_19 : decode cX12_swear 19 = .ok (.invokevirtual 333, 3) := by decide +kernel
theorem dX12_swear_22 : decode cX12_swear 22 = .ok (.ireturn, 1) := by decide +kernel
theorem dX12_swear_23 : decode cX12_swear 23 = .ok (.iload_n 2, 1) := by decide +kernel
theorem dX12_swear_24 : decode cX12_swear 24 = .ok (.i2l, 1) := by decide +kernel
theorem dX12_swear_25 : decode cX12_swear 25 = .ok (.lconst 1, 1) := by decide +kernel
theorem dX12_swear_26 : decode cX12_swear 26 = .ok (.ldc2_w 379, 3) := by decide +kernel
theorem dX12_swear_29 : decode cX12_swear 29 = .ok (.invokestatic 92, 3) := by decide +kernel
theorem dX12_swear_32 : decode cX12_swear 32 = .ok (.ifCond .eq 15, 3) := by decide +kernel
theorem dX12_swear_35 : decode cX12_swear 35 = .ok (.iload_n 3, 1) := by decide +kernel
theorem dX12_swear_36 : decode cX12_swear 36 = .ok (.i2l, 1) := by decide +kernel
theorem dX12_swear_37 : decode cX12_swear 37 = .ok (.lconst 1, 1) := by decide +kernel
theorem dX12_swear_38 : decode cX12_swear 38 = .ok (.ldc2_w 395, 3) := by decide +kernel
theorem dX12_swear_41 : decode cX12_swear 41 = .ok (.invokestatic 92, 3) := by decide +kernel
theorem dX12_swear_44 : decode cX12_swear 44 = .ok (.ifCond .ne 9, 3) := by decide +kernel
theorem dX12_swear_47 : decode cX12_swear 47 = .ok (.aload_n 0, 1) := by decide +kernel
theorem dX12_swear_48 : decode cX12_swear 48 = .ok (.iconst 5, 1) := by decide +kernel
theorem dX12_swear_49 : decode cX12_swear 49 = .ok (.invokevirtual 333, 3) := by decide +kernel
theorem dX12_swear_52 : decode cX12_swear 52 = .ok (.ireturn, 1) := by decide +kernel
theorem dX12_swear_53 : decode cX12_swear 53 = .ok (.aload_n 0, 1) := by decide +kernel
theorem dX12_swear_54 : decode cX12_swear 54 = .ok (.getfield 35, 3) := by decide +kernel
theorem dX12_swear_57 : decode cX12_swear 57 = .ok (.iconst 1, 1) := by decide +kernel
theorem dX12_swear_58 : decode cX12_swear 58 = .ok (.iaload, 1) := by decide +kernel
theorem dX12_swear_59 : decode cX12_swear 59 = .ok (.iconst 5, 1) := by decide +kernel
theorem dX12_swear_60 : decode cX12_swear 60 = .ok (.if_icmp .ne 10, 3) := by decide +kernel
theorem dX12_swear_63 : decode cX12_swear 63 = .ok (.aload_n 0, 1) := by decide +kernel
theorem dX12_swear_64 : decode cX12_swear 64 = .ok (.bipush 7, 2) := by decide +kernel
theorem dX12_swear_66 : decode cX12_swear 66 = .ok (.invokevirtual 333, 3) := by decide +kernel
theorem dX12_swear_69 : decode cX12_swear 69 = .ok (.ireturn, 1) := by decide +kernel
theorem dX12_swear_70 : decode cX12_swear 70 = .ok (.aload_n 0, 1) := by decide +kernel
theorem dX12_swear_71 : decode cX12_swear 71 = .ok (.iconst 0, 1) := by decide +kernel
theorem dX12_swear_72 : decode cX12_swear 72 = .ok (.iload_n 1, 1) := by decide +kernel
theorem dX12_swear_73 : decode cX12_swear 73 = .ok (.iload_n 2, 1) := by decide +kernel
theorem dX12_swear_74 : decode cX12_swear 74 = .ok (.iload_n 3, 1) := by decide +kernel
theorem dX12_swear_75 : decode cX12_swear 75 = .ok (.invokevirtual 266, 3) := by decide +kernel
theorem dX12_swear_78 : decode cX12_swear 78 = .ok (.aload_n 0, 1) := by decide +kernel
theorem dX12_swear_79 : decode cX12_swear 79 = .ok (.getfield 35, 3) := by decide +kernel
theorem dX12_swear_82 : decode cX12_swear 82 = .ok (.iconst 1, 1) := by decide +kernel
theorem dX12_swear_83 : decode cX12_swear 83 = .ok (.iaload, 1) := by decide +kernel
theorem dX12_swear_84 : decode cX12_swear 84 = .ok (.ireturn, 1) := by decide +kernel
def F_X12_swear (w : Nat) (M : z_Mem) (a1 : Int32) (a2 : Int32) (a3 : Int32) : Option (Int32 × z_Mem) :=
  (F_X12_isSideAt w (z_wI (z_wI M 137 1 (0 : Int32)) 137 0 (0 : Int32)) a1).bind fun q1 =>
  if q1.1 = true then
  (F_X12_isIn w q1.2 a2.toInt64 (1 : Int64) (99 : Int64)).bind fun q4 =>
  if q4.1 = true then
  (F_X12_isIn w q4.2 a3.toInt64 (1 : Int64) (24 : Int64)).bind fun q9 =>
  if q9.1 = true then
  if (q9.2.1 142 1) = (5 : Int32) then
  (F_X12_refuse w q9.2 (7 : Int32)).bind fun q15 =>
  some (q15.1, q15.2)
  else
  (F_X12_swears w q9.2 (0 : Int32) a1 a2 a3).bind fun q13 =>
  some (q13.2.1 142 1, q13.2)
  else
  (F_X12_refuse w q9.2 (5 : Int32)).bind fun q17 =>
  some (q17.1, q17.2)
  else
  (F_X12_refuse w q4.2 (5 : Int32)).bind fun q7 =>
  some (q7.1, q7.2)
  else
  (F_X12_refuse w q1.2 (2 : Int32)).bind fun q19 =>
  some (q19.1, q19.2)
set_option maxHeartbeats 4000000 in
theorem A_X12_swear {w : Nat} {M : z_Mem} {a1 : Int32} {a2 : Int32} {a3 : Int32} {r : Int32} {M' : z_Mem} {Q : Option Value → z_Mem → Prop} (h : F_X12_swear w M a1 a2 a3 = some (r, M')) (hq : Q (some (.int r)) M') : z_Cl 1 mX12_swear [.ref 139, .int a1, .int a2, .int a3] M Q := by
  refine g_in (ls := [some (.ref 139), some (.int a1), some (.int a2), some (.int a3)]) rfl ?_
  unfold F_X12_swear at h
  refine g_aload_n dX12_swear_0 rfl rfl ?_
  refine g_iconst (v := (0 : Int32)) dX12_swear_1 (by decide) ?_
  refine g_putI (a := 137) dX12_swear_2 f_12_57 sh_137 rfl rfl rfl ?_
  refine g_aload_n dX12_swear_5 rfl rfl ?_
  refine g_iconst (v := (0 : Int32)) dX12_swear_6 (by decide) ?_
  refine g_putI (a := 137) dX12_swear_7 f_12_60 sh_137 rfl rfl rfl ?_
  refine g_iload_n dX12_swear_10 rfl rfl ?_
  obtain ⟨q1, e2, h⟩ := z_bd h
  refine g_callS (as := [.int a1]) (rest := []) (c := mX12_isSideAt) (k1 := 0) dX12_swear_11 rfl rfl rfl rfl rfl (Nat.le_of_ble_eq_true rfl) (Nat.le_of_ble_eq_true rfl) (by decide) ?_
  refine A_X12_isSideAt e2 ?_
  show z_G none 1 mX12_swear 14 [some (.ref 139), some (.int a1), some (.int a2), some (.int a3)] [.int (z_tb q1.1)] q1.2 Q
  refine g_if_ne (t := 23) dX12_swear_14 (by decide) (fun c3 => ?_) (fun c3 => ?_)
  · replace h := z_ift (z_tbn.mp c3) h
    refine g_iload_n dX12_swear_23 rfl rfl ?_
    refine g_i2l dX12_swear_24 ?_
    refine g_lconst (v := (1 : Int64)) dX12_swear_25 (by decide) ?_
    refine g_ldc2_w dX12_swear_26 rfl ?_
    obtain ⟨q4, e5, h⟩ := z_bd h
    refine g_callS (as := [.long a2.toInt64, .long (1 : Int64), .long (99 : Int64)]) (rest := []) (c := mX12_isIn) (k1 := 0) dX12_swear_29 rfl rfl rfl rfl rfl (Nat.le_of_ble_eq_true rfl) (Nat.le_of_ble_eq_true rfl) (by decide) ?_
    refine A_X12_isIn e5 ?_
    show z_G none 1 mX12_swear 32 [some (.ref 139), some (.int a1), some (.int a2), some (.int a3)] [.int (z_tb q4.1)] q4.2 Q
    refine g_if_eq (t := 47) dX12_swear_32 (by decide) (fun c6 => ?_) (fun c6 => ?_)
    · replace h := z_iff (z_tb0.mp c6) h
      refine g_aload_n dX12_swear_47 rfl rfl ?_
      refine g_iconst (v := (5 : Int32)) dX12_swear_48 (by decide) ?_
      obtain ⟨q7, e8, h⟩ := z_bd h
      refine g_callV (a := 137) (as := [.int (5 : Int32)]) (rest := []) (c := mX12_refuse) (k1 := 0) dX12_swear_49 rfl rfl rfl sh_137 rfl rfl (Nat.le_of_ble_eq_true rfl) (Nat.le_of_ble_eq_true rfl) (by decide) ?_
      refine A_X12_refuse e8 ?_
      show z_G none 1 mX12_swear 52 [some (.ref 139), some (.int a1), some (.int a2), some (.int a3)] [.int q7.1] q7.2 Q
      cases h
      exact g_iret dX12_swear_52 rfl rfl hq
    · replace h := z_ift (z_tbn.mp c6) h
      refine g_iload_n dX12_swear_35 rfl rfl ?_
      refine g_i2l dX12_swear_36 ?_
      refine g_lconst (v := (1 : Int64)) dX12_swear_37 (by decide) ?_
      refine g_ldc2_w dX12_swear_38 rfl ?_
      obtain ⟨q9, e10, h⟩ := z_bd h
      refine g_callS (as := [.long a3.toInt64, .long (1 : Int64), .long (24 : Int64)]) (rest := []) (c := mX12_isIn) (k1 := 0) dX12_swear_41 rfl rfl rfl rfl rfl (Nat.le_of_ble_eq_true rfl) (Nat.le_of_ble_eq_true rfl) (by decide) ?_
      refine A_X12_isIn e10 ?_
      show z_G none 1 mX12_swear 44 [some (.ref 139), some (.int a1), some (.int a2), some (.int a3)] [.int (z_tb q9.1)] q9.2 Q
      refine g_if_ne (t := 53) dX12_swear_44 (by decide) (fun c11 => ?_) (fun c11 => ?_)
      · replace h := z_ift (z_tbn.mp c11) h
        refine g_aload_n dX12_swear_53 rfl rfl ?_
        refine g_get (a := 137) (v := .ref 144) dX12_swear_54 f_12_35 sh_137 rfl rfl ?_
        refine g_iconst (v := (1 : Int32)) dX12_swear_57 (by decide) ?_
        refine g_ialN (a := 142) (j := 1) (v := q9.2.1 142 1) dX12_swear_58 sh_142 rfl (by decide) rfl ?_
        refine g_iconst (v := (5 : Int32)) dX12_swear_59 (by decide) ?_
        refine g_ic_ne (t := 70) dX12_swear_60 (by decide) (fun c12 => ?_) (fun c12 => ?_)
        · replace h := z_iff c12 h
          refine g_aload_n dX12_swear_70 rfl rfl ?_
          refine g_iconst (v := (0 : Int32)) dX12_swear_71 (by decide) ?_
          refine g_iload_n dX12_swear_72 rfl rfl ?_
          refine g_iload_n dX12_swear_73 rfl rfl ?_
          refine g_iload_n dX12_swear_74 rfl rfl ?_
          obtain ⟨q13, e14, h⟩ := z_bd h
          refine g_callV (a := 137) (as := [.int (0 : Int32), .int a1, .int a2, .int a3]) (rest := []) (c := mX12_swears) (k1 := 0) dX12_swear_75 rfl rfl rfl sh_137 rfl rfl (Nat.le_of_ble_eq_true rfl) (Nat.le_of_ble_eq_true rfl) (by decide) ?_
          refine A_X12_swears e14 ?_
          show z_G none 1 mX12_swear 78 [some (.ref 139), some (.int a1), some (.int a2), some (.int a3)] [] q13.2 Q
          refine g_aload_n dX12_swear_78 rfl rfl ?_
          refine g_get (a := 137) (v := .ref 144) dX12_swear_79 f_12_35 sh_137 rfl rfl ?_
          refine g_iconst (v := (1 : Int32)) dX12_swear_82 (by decide) ?_
          refine g_ialN (a := 142) (j := 1) (v := q13.2.1 142 1) dX12_swear_83 sh_142 rfl (by decide) rfl ?_
          cases h
          exact g_iret dX12_swear_84 rfl rfl hq
        · replace h := z_ift c12 h
          refine g_aload_n dX12_swear_63 rfl rfl ?_
          refine g_bipush (v := (7 : Int32)) dX12_swear_64 (by decide) ?_
          obtain ⟨q15, e16, h⟩ := z_bd h
          refine g_callV (a := 137) (as := [.int (7 : Int32)]) (rest := []) (c := mX12_refuse) (k1 := 0) dX12_swear_66 rfl rfl rfl sh_137 rfl rfl (Nat.le_of_ble_eq_true rfl) (Nat.le_of_ble_eq_true rfl) (by decide) ?_
          refine A_X12_refuse e16 ?_
          show z_G none 1 mX12_swear 69 [some (.ref 139), some (.int a1), some (.int a2), some (.int a3)] [.int q15.1] q15.2 Q
          cases h
          exact g_iret dX12_swear_69 rfl rfl hq
      · replace h := z_iff (z_tb0.mp c11) h
        refine g_aload_n dX12_swear_47 rfl rfl ?_
        refine g_iconst (v := (5 : Int32)) dX12_swear_48 (by decide) ?_
        obtain ⟨q17, e18, h⟩ := z_bd h
        refine g_callV (a := 137) (as := [.int (5 : Int32)]) (rest := []) (c := mX12_refuse) (k1 := 0) dX12_swear_49 rfl rfl rfl sh_137 rfl rfl (Nat.le_of_ble_eq_true rfl) (Nat.le_of_ble_eq_true rfl) (by decide) ?_
        refine A_X12_refuse e18 ?_
        show z_G none 1 mX12_swear 52 [some (.ref 139), some (.int a1), some (.int a2), some (.int a3)] [.int q17.1] q17.2 Q
        cases h
        exact g_iret dX12_swear_52 rfl rfl hq
  · replace h := z_iff (z_tb0.mp c3) h
    refine g_aload_n dX12_swear_17 rfl rfl ?_
    refine g_iconst (v := (2 : Int32)) dX12_swear_18 (by decide) ?_
    obtain ⟨q19, e20, h⟩ := z_bd h
    refine g_callV (a := 137) (as := [.int (2 : Int32)]) (rest := []) (c := mX12_refuse) (k1 := 0) dX12_swear_19 rfl rfl rfl sh_137 rfl rfl (Nat.le_of_ble_eq_true rfl) (Nat.le_of_ble_eq_true rfl) (by decide) ?_
    refine A_X12_refuse e20 ?_
    show z_G none 1 mX12_swear 22 [some (.ref 139), some (.int a1), some (.int a2), some (.int a3)] [.int q19.1] q19.2 Q
    cases h
    exact g_iret dX12_swear_22 rfl rfl hq
theorem dX12_pays_0 : decode cX12_pays 0 = .ok (.aload_n 0, 1) := by decide +kernel
theorem dX12_pays_1 : decode cX12_pays 1 = .ok (.iload_n 1, 1) := by decide +kernel
theorem dX12_pays_2 : decode cX12_pays 2 = .ok (.invokevirtual 344, 3) := by decide +kernel
theorem dX12_pays_5 : decode cX12_pays 5 = .ok (.ifCond .ne 5, 3) := by decide +kernel
theorem dX12_pays_8 : decode cX12_pays 8 = .ok (.iconst 0, 1) := by decide +kernel
theorem dX12_pays_9 : decode cX12_pays 9 = .ok (.ireturn, 1) := by decide +kernel
theorem dX12_pays_10 : decode cX12_pays 10 = .ok (.aload_n 0, 1) := by decide +kernel
theorem dX12_pays_11 : decode cX12_pays 11 = .ok (.getfield 35, 3) := by decide +kernel
theorem dX12_pays_14 : decode cX12_pays 14 = .ok (.bipush 60, 2) := by decide +kernel
theorem dX12_pays_16 : decode cX12_pays 16 = .ok (.iload_n 1, 1) := by decide +kernel
theorem dX12_pays_17 : decode cX12_pays 17 = .ok (.iadd, 1) := by decide +kernel
theorem dX12_pays_18 : decode cX12_pays 18 = .ok (.iaload, 1) := by decide +kernel
theorem dX12_pays_19 : decode cX12_pays 19 = .ok (.istore_n 2, 1) := by decide +kernel
theorem dX12_pays_20 : decode cX12_pays 20 = .ok (.aload_n 0, 1) := by decide +kernel
theorem dX12_pays_21 : decode cX12_pays 21 = .ok (.getfield 35, 3) := by decide +kernel
theorem dX12_pays_24 : decode cX12_pays 24 = .ok (.bipush 65, 2) := by decide +kernel
theorem dX12_pays_26 : decode cX12_pays 26 = .ok (.iload_n 1, 1) := by decide +kernel
theorem dX12_pays_27 : decode cX12_pays 27 = .ok (.iadd, 1) := by decide +kernel
theorem dX12_pays_28 : decode cX12_pays 28 = .ok (.iaload, 1) := by decide +kernel
theorem dX12_pays_29 : decode cX12_pays 29 = .ok (.istore_n 3, 1) := by decide +kernel
theorem dX12_pays_30 : decode cX12_pays 30 = .ok (.aload_n 0, 1) := by decide +kernel
theorem dX12_pays_31 : decode cX12_pays 31 = .ok (.getfield 35, 3) := by decide +kernel
theorem dX12_pays_34 : decode cX12_pays 34 = .ok (.bipush 12, 2) := by decide +kernel
theorem dX12_pays_36 : decode cX12_pays 36 = .ok (.iload_n 2, 1) := by decide +kernel
theorem dX12_pays_37 : decode cX12_pays 37 = .ok (.iadd, 1) := by decide +kernel
theorem dX12_pays_38 : decode cX12_pays 38 = .ok (.iaload, 1) := by decide +kernel
theorem dX12_pays_39 : decode cX12_pays 39 = .ok (.iload_n 3, 1) := by decide +kernel
theorem dX12_pays_40 : decode cX12_pays 40 = .ok (.if_icmp .ge 5, 3) := by decide +kernel
theorem dX12_pays_43 : decode cX12_pays 43 = .ok (.iconst 0, 1) := by decide +kernel
theorem dX12_pays_44 : decode cX12_pays 44 = .ok (.ireturn, 1) := by decide +kernel
theorem dX12_pays_45 : decode cX12_pays 45 = .ok (.aload_n 0, 1) := by decide +kernel
theorem dX12_pays_46 : decode cX12_pays 46 = .ok (.getfield 35, 3) := by decide +kernel
theorem dX12_pays_49 : decode cX12_pays 49 = .ok (.bipush 12, 2) := by decide +kernel
theorem dX12_pays_51 : decode cX12_pays 51 = .ok (.iload_n 2, 1) := by decide +kernel
theorem dX12_pays_52 : decode cX12_pays 52 = .ok (.iadd, 1) := by decide +kernel
theorem dX12_pays_53 : decode cX12_pays 53 = .ok (.dup2, 1) := by decide +kernel
theorem dX12_pays_54 : decode cX12_pays 54 = .ok (.iaload, 1) := by decide +kernel
theorem dX12_pays_55 : decode cX12_pays 55 = .ok (.iload_n 3, 1) := by decide +kernel
theorem dX12_pays_56 : decode cX12_pays 56 = .ok (.isub, 1) := by decide +kernel
theorem dX12_pays_57 : decode cX12_pays 57 = .ok (.iastore, 1) := by decide +kernel
theorem dX12_pays_58 : decode cX12_pays 58 = .ok (.aload_n 0, 1) := by decide +kernel
theorem dX12_pays_59 : decode cX12_pays 59 = .ok (.iconst 1, 1) := by decide +kernel
theorem dX12_pays_60 : decode cX12_pays 60 = .ok (.iload_n 2, 1) := by decide +kernel
theorem dX12_pays_61 : decode cX12_pays 61 = .ok (.isub, 1) := by decide +kernel
theorem dX12_pays_62 : decode cX12_pays 62 = .ok (.iload_n 3, 1) := by decide +kernel
theorem dX12_pays_63 : decode cX12_pays 63 = .ok (.invokevirtual 373, 3) := by decide +kernel
theorem dX12_pays_66 : decode cX12_pays 66 = .ok (.aload_n 0, 1) := by decide +kernel
theorem dX12_pays_67 : decode cX12_pays 67 = .ok (.iload_n 1, 1) := by decide +kernel
theorem dX12_pays_68 : decode cX12_pays 68 = .ok (.invokevirtual 376, 3) := by decide +kernel
theorem dX12_pays_71 : decode cX12_pays 71 = .ok (.iconst 1, 1) := by decide +kernel
theorem dX12_pays_72 : decode cX12_pays 72 = .ok (.ireturn, 1) := by decide +kernel
def F_X12_pays (w : Nat) (M : z_Mem) (a1 : Int32) : Option (Bool × z_Mem) :=
  (F_X12_isDebtAt w M a1).bind fun q1 =>
  if q1.1 = true then
  if ((60 : Int32) + a1) < 0 ∨ 1875 ≤ ((60 : Int32) + a1).toNatClampNeg then none else
  if ((65 : Int32) + a1) < 0 ∨ 1875 ≤ ((65 : Int32) + a1).toNatClampNeg then none else
  if ((12 : Int32) + (q1.2.1 142 ((60 : Int32) + a1).toNatClampNeg)) < 0 ∨ 1875 ≤ ((12 : Int32) + (q1.2.1 142 ((60 : Int32) + a1).toNatClampNeg)).toNatClampNeg then none else
  if (q1.2.1 142 ((65 : Int32) + a1).toNatClampNeg) ≤ (q1.2.1 142 ((12 : Int32) + (q1.2.1 142 ((60 : Int32) + a1).toNatClampNeg)).toNatClampNeg) then
  if ((12 : Int32) + (q1.2.1 142 ((60 : Int32) + a1).toNatClampNeg)) < 0 ∨ 1875 ≤ ((12 : Int32) + (q1.2.1 142 ((60 : Int32) + a1).toNatClampNeg)).toNatClampNeg then none else
  if ((12 : Int32) + (q1.2.1 142 ((60 : Int32) + a1).toNatClampNeg)) < 0 ∨ 1875 ≤ ((12 : Int32) + (q1.2.1 142 ((60 : Int32) + a1).toNatClampNeg)).toNatClampNeg then none else
  (F_X12_brings w (z_wI q1.2 142 (((12 : Int32) + (q1.2.1 142 ((60 : Int32) + a1).toNatClampNeg)).toNatClampNeg) ((q1.2.1 142 ((12 : Int32) + (q1.2.1 142 ((60 : Int32) + a1).toNatClampNeg)).toNatClampNeg) - (q1.2.1 142 ((65 : Int32) + a1).toNatClampNeg))) ((1 : Int32) - (q1.2.1 142 ((60 : Int32) + a1).toNatClampNeg)) (q1.2.1 142 ((65 : Int32) + a1).toNatClampNeg)).bind fun q10 =>
  (F_X12_dropDebt w q10.2 a1).bind fun q12 =>
  some (true, q12.2)
  else
  some (false, q1.2)
  else
  some (false, q1.2)
set_option maxHeartbeats 4000000 in
theorem A_X12_pays {w : Nat} {M : z_Mem} {a1 : Int32} {r : Bool} {M' : z_Mem} {Q : Option Value → z_Mem → Prop} (h : F_X12_pays w M a1 = some (r, M')) (hq : Q (some (.int (z_tb r))) M') : z_Cl 2 mX12_pays [.ref 139, .int a1] M Q := by
  refine g_in (ls := [some (.ref 139), some (.int a1), none, none]) rfl ?_
  unfold F_X12_pays at h
  refine g_aload_n dX12_pays_0 rfl rfl ?_
  refine g_iload_n dX12_pays_1 rfl rfl ?_
  obtain ⟨q1, e2, h⟩ := z_bd h
  refine g_callV (a := 137) (as := [.int a1]) (rest := []) (c := mX12_isDebtAt) (k1 := 1) dX12_pays_2 rfl rfl rfl sh_137 rfl rfl (Nat.le_of_ble_eq_true rfl) (Nat.le_of_ble_eq_true rfl) (by decide) ?_
  refine A_X12_isDebtAt e2 ?_
  show z_G none 2 mX12_pays 5 [some (.ref 139), some (.int a1), none, none] [.int (z_tb q1.1)] q1.2 Q
  refine g_if_ne (t := 10) dX12_pays_5 (by decide) (fun c3 => ?_) (fun c3 => ?_)
  · replace h := z_ift (z_tbn.mp c3) h
    refine g_aload_n dX12_pays_10 rfl rfl ?_
    refine g_get (a := 137) (v := .ref 144) dX12_pays_11 f_12_35 sh_137 rfl rfl ?_
    refine g_bipush (v := (60 : Int32)) dX12_pays_14 (by decide) ?_
    refine g_iload_n dX12_pays_16 rfl rfl ?_
    refine g_iadd dX12_pays_17 ?_
    by_cases g4 : ((60 : Int32) + a1) < 0 ∨ 1875 ≤ ((60 : Int32) + a1).toNatClampNeg
    · rw [if_pos g4] at h; cases h
    replace h := z_iff g4 h
    refine g_iald (a := 142) dX12_pays_18 sh_142 g4 ?_
    refine g_istore_n (ls' := [some (.ref 139), some (.int a1), some (.int (q1.2.1 142 ((60 : Int32) + a1).toNatClampNeg)), none]) dX12_pays_19 rfl (Nat.le_of_ble_eq_true rfl) rfl ?_
    refine g_aload_n dX12_pays_20 rfl rfl ?_
    refine g_get (a := 137) (v := .ref 144) dX12_pays_21 f_12_35 sh_137 rfl rfl ?_
    refine g_bipush (v := (65 : Int32)) dX12_pays_24 (by decide) ?_
    refine g_iload_n dX12_pays_26 rfl rfl ?_
    refine g_iadd dX12_pays_27 ?_
    by_cases g5 : ((65 : Int32) + a1) < 0 ∨ 1875 ≤ ((65 : Int32) + a1).toNatClampNeg
    · rw [if_pos g5] at h; cases h
    replace h := z_iff g5 h
    refine g_iald (a := 142) dX12_pays_28 sh_142 g5 ?_
    refine g_istore_n (ls' := [some (.ref 139), some (.int a1), some (.int (q1.2.1 142 ((60 : Int32) + a1).toNatClampNeg)), some (.int (q1.2.1 142 ((65 : Int32) + a1).toNatClampNeg))]) dX12_pays_29 rfl (Nat.le_of_ble_eq_true rfl) rfl ?_
    refine g_aload_n dX12_pays_30 rfl rfl ?_
    refine g_get (a := 137) (v := .ref 144) dX12_pays_31 f_12_35 sh_137 rfl rfl ?_
    refine g_bipush (v := (12 : Int32)) dX12_pays_34 (by decide) ?_
    refine g_iload_n dX12_pays_36 rfl rfl ?_
    refine g_iadd dX12_pays_37 ?_
    by_cases g6 : ((12 : Int32) + (q1.2.1 142 ((60 : Int32) + a1).toNatClampNeg)) < 0 ∨ 1875 ≤ ((12 : Int32) + (q1.2.1 142 ((60 : Int32) + a1).toNatClampNeg)).toNatClampNeg
    · rw [if_pos g6] at h; cases h
    replace h := z_iff g6 h
    refine g_iald (a := 142) dX12_pays_38 sh_142 g6 ?_
    refine g_iload_n dX12_pays_39 rfl rfl ?_
    refine g_ic_ge (t := 45) dX12_pays_40 (by decide) (fun c7 => ?_) (fun c7 => ?_)
    · replace h := z_ift c7 h
      refine g_aload_n dX12_pays_45 rfl rfl ?_
      refine g_get (a := 137) (v := .ref 144) dX12_pays_46 f_12_35 sh_137 rfl rfl ?_
      refine g_bipush (v := (12 : Int32)) dX12_pays_49 (by decide) ?_
      refine g_iload_n dX12_pays_51 rfl rfl ?_
      refine g_iadd dX12_pays_52 ?_
      refine g_dup2 dX12_pays_53 rfl rfl ?_
      by_cases g8 : ((12 : Int32) + (q1.2.1 142 ((60 : Int32) + a1).toNatClampNeg)) < 0 ∨ 1875 ≤ ((12 : Int32) + (q1.2.1 142 ((60 : Int32) + a1).toNatClampNeg)).toNatClampNeg
      · rw [if_pos g8] at h; cases h
      replace h := z_iff g8 h
      refine g_iald (a := 142) dX12_pays_54 sh_142 g8 ?_
      refine g_iload_n dX12_pays_55 rfl rfl ?_
      refine g_isub dX12_pays_56 ?_
      by_cases g9 : ((12 : Int32) + (q1.2.1 142 ((60 : Int32) + a1).toNatClampNeg)) < 0 ∨ 1875 ≤ ((12 : Int32) + (q1.2.1 142 ((60 : Int32) + a1).toNatClampNeg)).toNatClampNeg
      · rw [if_pos g9] at h; cases h
      replace h := z_iff g9 h
      refine g_iast (a := 142) dX12_pays_57 sh_142 g9 ?_
      refine g_aload_n dX12_pays_58 rfl rfl ?_
      refine g_iconst (v := (1 : Int32)) dX12_pays_59 (by decide) ?_
      refine g_iload_n dX12_pays_60 rfl rfl ?_
      refine g_isub dX12_pays_61 ?_
      refine g_iload_n dX12_pays_62 rfl rfl ?_
      obtain ⟨q10, e11, h⟩ := z_bd h
      refine g_callV (a := 137) (as := [.int ((1 : Int32) - (q1.2.1 142 ((60 : Int32) + a1).toNatClampNeg)), .int (q1.2.1 142 ((65 : Int32) + a1).toNatClampNeg)]) (rest := []) (c := mX12_brings) (k1 := 0) dX12_pays_63 rfl rfl rfl sh_137 rfl rfl (Nat.le_of_ble_eq_true rfl) (Nat.le_of_ble_eq_true rfl) (by decide) ?_
      refine A_X12_brings e11 ?_
      show z_G none 2 mX12_pays 66 [some (.ref 139), some (.int a1), some (.int (q1.2.1 142 ((60 : Int32) + a1).toNatClampNeg)), some (.int (q1.2.1 142 ((65 : Int32) + a1).toNatClampNeg))] [] q10.2 Q
      refine g_aload_n dX12_pays_66 rfl rfl ?_
      refine g_iload_n dX12_pays_67 rfl rfl ?_
      obtain ⟨q12, e13, h⟩ := z_bd h
      refine g_callV (a := 137) (as := [.int a1]) (rest := []) (c := mX12_dropDebt) (k1 := 0) dX12_pays_68 rfl rfl rfl sh_137 rfl rfl (Nat.le_of_ble_eq_true rfl) (Nat.le_of_ble_eq_true rfl) (by decide) ?_
      refine A_X12_dropDebt e13 ?_
      show z_G none 2 mX12_pays 71 [some (.ref 139), some (.int a1), some (.int (q1.2.1 142 ((60 : Int32) + a1).toNatClampNeg)), some (.int (q1.2.1 142 ((65 : Int32) + a1).toNatClampNeg))] [] q12.2 Q
      refine g_iconst (v := (1 : Int32)) dX12_pays_71 (by decide) ?_
      cases h
      exact g_iret dX12_pays_72 rfl rfl hq
    · replace h := z_iff c7 h
      refine g_iconst (v := (0 : Int32)) dX12_pays_43 (by decide) ?_
      cases h
      exact g_iret dX12_pays_44 rfl rfl hq
  · replace h := z_iff (z_tb0.mp c3) h
    refine g_iconst (v := (0 : Int32)) dX12_pays_8 (by decide) ?_
    cases h
    exact g_iret dX12_pays_9 rfl rfl hq
theorem dX12_pay_0 : decode cX12_pay 0 = .ok (.aload_n 0, 1) := by decide +kernel
theorem dX12_pay_1 : decode cX12_pay 1 = .ok (.iconst 0, 1) := by decide +kernel
theorem dX12_pay_2 : decode cX12_pay 2 = .ok (.putfield 57, 3) := by decide +kernel
theorem dX12_pay_5 : decode cX12_pay 5 = .ok (.aload_n 0, 1) := by decide +kernel
theorem dX12_pay_6 : decode cX12_pay 6 = .ok (.iconst 0, 1) := by decide +kernel
theorem dX12_pay_7 : decode cX12_pay 7 = .ok (.putfield 60, 3) := by decide +kernel
theorem dX12_pay_10 : decode cX12_pay 10 = .ok (.aload_n 0, 1) := by decide +kernel
theorem dX12_pay_11 : decode cX12_pay 11 = .ok (.iload_n 1, 1) := by decide +kernel
theorem dX12_pay_12 : decode cX12_pay 12 = .ok (.invokevirtual 344, 3) := by decide +kernel
theorem dX12_pay_15 : decode cX12_pay 15 = .ok (.ifCond .ne 9, 3) := by decide +kernel
theorem dX12_pay_18 : decode cX12_pay 18 = .ok (.aload_n 0, 1) := by decide +kernel
theorem dX12_pay_19 : decode cX12_pay 19 = .ok (.iconst 2, 1) := by decide +kernel
theorem dX12_pay_20 : decode cX12_pay 20 = .ok (.invokevirtual 333, 3) := by decide +kernel
theorem dX12_pay_23 : decode cX12_pay 23 = .ok (.ireturn, 1) := by decide +kernel
theorem dX12_pay_24 : decode cX12_pay 24 = .ok (.aload_n 0, 1) := by decide +kernel
theorem dX12_pay_25 : decode cX12_pay 25 = .ok (.getfield 35, 3) := by decide +kernel
theorem dX12_pay_28 : decode cX12_pay 28 = .ok (.bipush 60, 2) := by decide +kernel
theorem dX12_pay_30 : decode cX12_pay 30 = .ok (.iload_n 1, 1) := by decide +kernel
theorem dX12_pay_31 : decode cX12_pay 31 = .ok (.iadd, 1) := by decide +kernel
theorem dX12_pay_32 : decode cX12_pay 32 = .ok (.iaload, 1) := by decide +kernel
theorem dX12_pay_33 : decode cX12_pay 33 = .ok (.istore_n 2, 1) := by decide +kernel
theorem dX12_pay_34 : decode cX12_pay 34 = .ok (.aload_n 0, 1) := by decide +kernel
theorem dX12_pay_35 : decode cX12_pay 35 = .ok (.iload_n 1, 1) := by decide +kernel
theorem dX12_pay_36 : decode cX12_pay 36 = .ok (.invokevirtual 397, 3) := by decide +kernel
theorem dX12_pay_39 : decode cX12_pay 39 = .ok (.ifCond .eq 15, 3) := by decide +kernel
theorem dX12_pay_42 : decode cX12_pay 42 = .ok (.aload_n 0, 1) := by decide +kernel
theorem dX12_pay_43 : decode cX12_pay 43 = .ok (.getfield 35, 3) := by decide +kernel
theorem dX12_pay_46 : decode cX12_pay 46 = .ok (.bipush 12, 2) := by decide +kernel
theorem dX12_pay_48 : decode cX12_pay 48 = .ok (.iload_n 2, 1) := by decide +kernel
theorem dX12_pay_49 : decode cX12_pay 49 = .ok (.iadd, 1) := by decide +kernel
theorem dX12_pay_50 : decode cX12_pay 50 = .ok (.iaload, 1) := by decide +kernel
theorem dX12_pay_51 : decode cX12_pay 51 = .ok (.goto 9, 3) := by decide +kernel
theorem dX12_pay_54 : decode cX12_pay 54 = .ok (.aload_n 0, 1) := by decide +kernel
theorem dX12_pay_55 : decode cX12_pay 55 = .ok (.bipush 9, 2) := by decide +kernel
theorem dX12_pay_57 : decode cX12_pay 57 = .ok (.invokevirtual 333, 3) := by decide +kernel
theorem dX12_pay_60 : decode cX12_pay 60 = .ok (.ireturn, 1) := by decide +kernel
def F_X12_pay (w : Nat) (M : z_Mem) (a1 : Int32) : Option (Int32 × z_Mem) :=
  (F_X12_isDebtAt w (z_wI (z_wI M 137 1 (0 : Int32)) 137 0 (0 : Int32)) a1).bind fun q1 =>
  if q1.1 = true then
  if ((60 : Int32) + a1) < 0 ∨ 1875 ≤ ((60 : Int32) + a1).toNatClampNeg then none else
  (F_X12_pays w q1.2 a1).bind fun q5 =>
  if q5.1 = true then
  if ((12 : Int32) + (q1.2.1 142 ((60 : Int32) + a1).toNatClampNeg)) < 0 ∨ 1875 ≤ ((12 : Int32) + (q1.2.1 142 ((60 : Int32) + a1).toNatClampNeg)).toNatClampNeg then none else
  some (q5.2.1 142 ((12 : Int32) + (q1.2.1 142 ((60 : Int32) + a1).toNatClampNeg)).toNatClampNeg, q5.2)
  else
  (F_X12_refuse w q5.2 (9 : Int32)).bind fun q8 =>
  some (q8.1, q8.2)
  else
  (F_X12_refuse w q1.2 (2 : Int32)).bind fun q11 =>
  some (q11.1, q11.2)
set_option maxHeartbeats 4000000 in
theorem A_X12_pay {w : Nat} {M : z_Mem} {a1 : Int32} {r : Int32} {M' : z_Mem} {Q : Option Value → z_Mem → Prop} (h : F_X12_pay w M a1 = some (r, M')) (hq : Q (some (.int r)) M') : z_Cl 3 mX12_pay [.ref 139, .int a1] M Q := by
  refine g_in (ls := [some (.ref 139), some (.int a1), none]) rfl ?_
  unfold F_X12_pay at h
  refine g_aload_n dX12_pay_0 rfl rfl ?_
  refine g_iconst (v := (0 : Int32)) dX12_pay_1 (by decide) ?_
  refine g_putI (a := 137) dX12_pay_2 f_12_57 sh_137 rfl rfl rfl ?_
  refine g_aload_n dX12_pay_5 rfl rfl ?_
  refine g_iconst (v := (0 : Int32)) dX12_pay_6 (by decide) ?_
  refine g_putI (a := 137) dX12_pay_7 f_12_60 sh_137 rfl rfl rfl ?_
  refine g_aload_n dX12_pay_10 rfl rfl ?_
  refine g_iload_n dX12_pay_11 rfl rfl ?_
  obtain ⟨q1, e2, h⟩ := z_bd h
  refine g_callV (a := 137) (as := [.int a1]) (rest := []) (c := mX12_isDebtAt) (k1 := 1) dX12_pay_12 rfl rfl rfl sh_137 rfl rfl (Nat.le_of_ble_eq_true rfl) (Nat.le_of_ble_eq_true rfl) (by decide) ?_
  refine A_X12_isDebtAt e2 ?_
  show z_G none 3 mX12_pay 15 [some (.ref 139), some (.int a1), none] [.int (z_tb q1.1)] q1.2 Q
  refine g_if_ne (t := 24) dX12_pay_15 (by decide) (fun c3 => ?_) (fun c3 => ?_)
  · replace h := z_ift (z_tbn.mp c3) h
    refine g_aload_n dX12_pay_24 rfl rfl ?_
    refine g_get (a := 137) (v := .ref 144) dX12_pay_25 f_12_35 sh_137 rfl rfl ?_
    refine g_bipush (v := (60 : Int32)) dX12_pay_28 (by decide) ?_
    refine g_iload_n dX12_pay_30 rfl rfl ?_
    refine g_iadd dX12_pay_31 ?_
    by_cases g4 : ((60 : Int32) + a1) < 0 ∨ 1875 ≤ ((60 : Int32) + a1).toNatClampNeg
    · rw [if_pos g4] at h; cases h
    replace h := z_iff g4 h
    refine g_iald (a := 142) dX12_pay_32 sh_142 g4 ?_
    refine g_istore_n (ls' := [some (.ref 139), some (.int a1), some (.int (q1.2.1 142 ((60 : Int32) + a1).toNatClampNeg))]) dX12_pay_33 rfl (Nat.le_of_ble_eq_true rfl) rfl ?_
    refine g_aload_n dX12_pay_34 rfl rfl ?_
    refine g_iload_n dX12_pay_35 rfl rfl ?_
    obtain ⟨q5, e6, h⟩ := z_bd h
    refine g_callV (a := 137) (as := [.int a1]) (rest := []) (c := mX12_pays) (k1 := 2) dX12_pay_36 rfl rfl rfl sh_137 rfl rfl (Nat.le_of_ble_eq_true rfl) (Nat.le_of_ble_eq_true rfl) (by decide) ?_
    refine A_X12_pays e6 ?_
    show z_G none 3 mX12_pay 39 [some (.ref 139), some (.int a1), some (.int (q1.2.1 142 ((60 : Int32) + a1).toNatClampNeg))] [.int (z_tb q5.1)] q5.2 Q
    refine g_if_eq (t := 54) dX12_pay_39 (by decide) (fun c7 => ?_) (fun c7 => ?_)
    · replace h := z_iff (z_tb0.mp c7) h
      refine g_aload_n dX12_pay_54 rfl rfl ?_
      refine g_bipush (v := (9 : Int32)) dX12_pay_55 (by decide) ?_
      obtain ⟨q8, e9, h⟩ := z_bd h
      refine g_callV (a := 137) (as := [.int (9 : Int32)]) (rest := []) (c := mX12_refuse) (k1 := 0) dX12_pay_57 rfl rfl rfl sh_137 rfl rfl (Nat.le_of_ble_eq_true rfl) (Nat.le_of_ble_eq_true rfl) (by decide) ?_
      refine A_X12_refuse e9 ?_
      show z_G none 3 mX12_pay 60 [some (.ref 139), some (.int a1), some (.int (q1.2.1 142 ((60 : Int32) + a1).toNatClampNeg))] [.int q8.1] q8.2 Q
      cases h
      exact g_iret dX12_pay_60 rfl rfl hq
    · replace h := z_ift (z_tbn.mp c7) h
      refine g_aload_n dX12_pay_42 rfl rfl ?_
      refine g_get (a := 137) (v := .ref 144) dX12_pay_43 f_12_35 sh_137 rfl rfl ?_
      refine g_bipush (v := (12 : Int32)) dX12_pay_46 (by decide) ?_
      refine g_iload_n dX12_pay_48 rfl rfl ?_
      refine g_iadd dX12_pay_49 ?_
      by_cases g10 : ((12 : Int32) + (q1.2.1 142 ((60 : Int32) + a1).toNatClampNeg)) < 0 ∨ 1875 ≤ ((12 : Int32) + (q1.2.1 142 ((60 : Int32) + a1).toNatClampNeg)).toNatClampNeg
      · rw [if_pos g10] at h; cases h
      replace h := z_iff g10 h
      refine g_iald (a := 142) dX12_pay_50 sh_142 g10 ?_
      refine g_goto (t := 60) dX12_pay_51 (by decide) ?_
      cases h
      exact g_iret dX12_pay_60 rfl rfl hq
  · replace h := z_iff (z_tb0.mp c3) h
    refine g_aload_n dX12_pay_18 rfl rfl ?_
    refine g_iconst (v := (2 : Int32)) dX12_pay_19 (by decide) ?_
    obtain ⟨q11, e12, h⟩ := z_bd h
    refine g_callV (a := 137) (as := [.int (2 : Int32)]) (rest := []) (c := mX12_refuse) (k1 := 0) dX12_pay_20 rfl rfl rfl sh_137 rfl rfl (Nat.le_of_ble_eq_true rfl) (Nat.le_of_ble_eq_true rfl) (by decide) ?_
    refine A_X12_refuse e12 ?_
    show z_G none 3 mX12_pay 23 [some (.ref 139), some (.int a1), none] [.int q11.1] q11.2 Q
    cases h
    exact g_iret dX12_pay_23 rfl rfl hq
theorem dX12_price_0 : decode cX12_price 0 = .ok (.aload_n 0, 1) := by decide +kernel
theorem dX12_price_1 : decode cX12_price 1 = .ok (.iconst 0, 1) := by decide +kernel
theorem dX12_price_2 : decode cX12_price 2 = .ok (.putfield 57, 3) := by decide +kernel
theorem dX12_price_5 : decode cX12_price 5 = .ok (.aload_n 0, 1) := by decide +kernel
theorem dX12_price_6 : decode cX12_price 6 = .ok (.iconst 0, 1) := by decide +kernel
theorem dX12_price_7 : decode cX12_price 7 = .ok (.putfield 60, 3) := by decide +kernel
theorem dX12_price_10 : decode cX12_price 10 = .ok (.aload_n 0, 1) := by decide +kernel
theorem dX12_price_11 : decode cX12_price 11 = .ok (.iload_n 1, 1) := by decide +kernel
theorem dX12_price_12 : decode cX12_price 12 = .ok (.invokevirtual 339, 3) := by decide +kernel
theorem dX12_price_15 : decode cX12_price 15 = .ok (.ifCond .ne 9, 3) := by decide +kernel
theorem dX12_price_18 : decode cX12_price 18 = .ok (.aload_n 0, 1) := by decide +kernel
theorem dX12_price_19 : decode cX12_price 19 = .ok (.iconst 2, 1) := by decide +kernel
theorem dX12_price_20 : decode cX12_price 20 = .ok (.invokevirtual 333, 3) := by decide +kernel
theorem dX12_price_23 : decode cX12_price 23 = .ok (.ireturn, 1) := by decide +kernel
theorem dX12_price_24 : decode cX12_price 24 = .ok (.iload_n 2, 1) := by decide +kernel
theorem dX12_price_25 : decode cX12_price 25 = .ok (.i2l, 1) := by decide +kernel
theorem dX12_price_26 : decode cX12_price 26 = .ok (.lconst 1, 1) := by decide +kernel
theorem dX12_price_27 : decode cX12_price 27 = .ok (.ldc2_w 400, 3) := by decide +kernel
theorem dX12_price_30 : decode cX12_price 30 = .ok (.invokestatic 92, 3) := by decide +kernel
theorem dX12_price_33 : decode cX12_price 33 = .ok (.ifCond .ne 9, 3) := by decide +kernel
theorem dX12_price_36 : decode cX12_price 36 = .ok (.aload_n 0, 1) := by decide +kernel
theorem dX12_price_37 : decode cX12_price 37 = .ok (.iconst 5, 1) := by decide +kernel
theorem dX12_price_38 : decode cX12_price 38 = .ok (.invokevirtual 333, 3) := by decide +kernel
theorem dX12_price_41 : decode cX12_price 41 = .ok (.ireturn, 1) := by decide +kernel
theorem dX12_price_42 : decode cX12_price 42 = .ok (.aload_n 0, 1) := by decide +kernel
theorem dX12_price_43 : decode cX12_price 43 = .ok (.getfield 35, 3) := by decide +kernel
theorem dX12_price_46 : decode cX12_price 46 = .ok (.bipush 44, 2) := by decide +kernel
theorem dX12_price_48 : decode cX12_price 48 = .ok (.iload_n 1, 1) := by decide +kernel
theorem dX12_price_49 : decode cX12_price 49 = .ok (.iadd, 1) := by decide +kernel
theorem dX12_price_50 : decode cX12_price 50 = .ok (.iaload, 1) := by decide +kernel
theorem dX12_price_51 : decode cX12_price 51 = .ok (.istore_n 3, 1) := by decide +kernel
theorem dX12_price_52 : decode cX12_price 52 = .ok (.aload_n 0, 1) := by decide +kernel
theorem dX12_price_53 : decode cX12_price 53 = .ok (.getfield 35, 3) := by decide +kernel
theorem dX12_price_56 : decode cX12_price 56 = .ok (.bipush 44, 2) := by decide +kernel
theorem dX12_price_58 : decode cX12_price 58 = .ok (.iload_n 1, 1) := by decide +kernel
theorem dX12_price_59 : decode cX12_price 59 = .ok (.iadd, 1) := by decide +kernel
theorem dX12_price_60 : decode cX12_price 60 = .ok (.iload_n 2, 1) := by decide +kernel
theorem dX12_price_61 : decode cX12_price 61 = .ok (.iastore, 1) := by decide +kernel
theorem dX12_price_62 : decode cX12_price 62 = .ok (.iload_n 3, 1) := by decide +kernel
theorem dX12_price_63 : decode cX12_price 63 = .ok (.ireturn, 1) := by decide +kernel
def F_X12_price (w : Nat) (M : z_Mem) (a1 : Int32) (a2 : Int32) : Option (Int32 × z_Mem) :=
  (F_X12_isRightAt w (z_wI (z_wI M 137 1 (0 : Int32)) 137 0 (0 : Int32)) a1).bind fun q1 =>
  if q1.1 = true then
  (F_X12_isIn w q1.2 a2.toInt64 (1 : Int64) (50 : Int64)).bind fun q4 =>
  if q4.1 = true then
  if ((44 : Int32) + a1) < 0 ∨ 1875 ≤ ((44 : Int32) + a1).toNatClampNeg then none else
  if ((44 : Int32) + a1) < 0 ∨ 1875 ≤ ((44 : Int32) + a1).toNatClampNeg then none else
  some (q4.2.1 142 ((44 : Int32) + a1).toNatClampNeg, (z_wI q4.2 142 (((44 : Int32) + a1).toNatClampNeg) a2))
  else
  (F_X12_refuse w q4.2 (5 : Int32)).bind fun q9 =>
  some (q9.1, q9.2)
  else
  (F_X12_refuse w q1.2 (2 : Int32)).bind fun q11 =>
  some (q11.1, q11.2)
set_option maxHeartbeats 4000000 in
theorem A_X12_price {w : Nat} {M : z_Mem} {a1 : Int32} {a2 : Int32} {r : Int32} {M' : z_Mem} {Q : Option Value → z_Mem → Prop} (h : F_X12_price w M a1 a2 = some (r, M')) (hq : Q (some (.int r)) M') : z_Cl 2 mX12_price [.ref 139, .int a1, .int a2] M Q := by
  refine g_in (ls := [some (.ref 139), some (.int a1), some (.int a2), none]) rfl ?_
  unfold F_X12_price at h
  refine g_aload_n dX12_price_0 rfl rfl ?_
  refine g_iconst (v := (0 : Int32)) dX12_price_1 (by decide) ?_
  refine g_putI (a := 137) dX12_price_2 f_12_57 sh_137 rfl rfl rfl ?_
  refine g_aload_n dX12_price_5 rfl rfl ?_
  refine g_iconst (v := (0 : Int32)) dX12_price_6 (by decide) ?_
  refine g_putI (a := 137) dX12_price_7 f_12_60 sh_137 rfl rfl rfl ?_
  refine g_aload_n dX12_price_10 rfl rfl ?_
  refine g_iload_n dX12_price_11 rfl rfl ?_
  obtain ⟨q1, e2, h⟩ := z_bd h
  refine g_callV (a := 137) (as := [.int a1]) (rest := []) (c := mX12_isRightAt) (k1 := 1) dX12_price_12 rfl rfl rfl sh_137 rfl rfl (Nat.le_of_ble_eq_true rfl) (Nat.le_of_ble_eq_true rfl) (by decide) ?_
  refine A_X12_isRightAt e2 ?_
  show z_G none 2 mX12_price 15 [some (.ref 139), some (.int a1), some (.int a2), none] [.int (z_tb q1.1)] q1.2 Q
  refine g_if_ne (t := 24) dX12_price_15 (by decide) (fun c3 => ?_) (fun c3 => ?_)
  · replace h := z_ift (z_tbn.mp c3) h
    refine g_iload_n dX12_price_24 rfl rfl ?_
    refine g_i2l dX12_price_25 ?_
    refine g_lconst (v := (1 : Int64)) dX12_price_26 (by decide) ?_
    refine g_ldc2_w dX12_price_27 rfl ?_
    obtain ⟨q4, e5, h⟩ := z_bd h
    refine g_callS (as := [.long a2.toInt64, .long (1 : Int64), .long (50 : Int64)]) (rest := []) (c := mX12_isIn) (k1 := 0) dX12_price_30 rfl rfl rfl rfl rfl (Nat.le_of_ble_eq_true rfl) (Nat.le_of_ble_eq_true rfl) (by decide) ?_
    refine A_X12_isIn e5 ?_
    show z_G none 2 mX12_price 33 [some (.ref 139), some (.int a1), some (.int a2), none] [.int (z_tb q4.1)] q4.2 Q
    refine g_if_ne (t := 42) dX12_price_33 (by decide) (fun c6 => ?_) (fun c6 => ?_)
    · replace h := z_ift (z_tbn.mp c6) h
      refine g_aload_n dX12_price_42 rfl rfl ?_
      refine g_get (a := 137) (v := .ref 144) dX12_price_43 f_12_35 sh_137 rfl rfl ?_
      refine g_bipush (v := (44 : Int32)) dX12_price_46 (by decide) ?_
      refine g_iload_n dX12_price_48 rfl rfl ?_
      refine g_iadd dX12_price_49 ?_
      by_cases g7 : ((44 : Int32) + a1) < 0 ∨ 1875 ≤ ((44 : Int32) + a1).toNatClampNeg
      · rw [if_pos g7] at h; cases h
      replace h := z_iff g7 h
      refine g_iald (a := 142) dX12_price_50 sh_142 g7 ?_
      refine g_istore_n (ls' := [some (.ref 139), some (.int a1), some (.int a2), some (.int (q4.2.1 142 ((44 : Int32) + a1).toNatClampNeg))]) dX12_price_51 rfl (Nat.le_of_ble_eq_true rfl) rfl ?_
      refine g_aload_n dX12_price_52 rfl rfl ?_
      refine g_get (a := 137) (v := .ref 144) dX12_price_53 f_12_35 sh_137 rfl rfl ?_
      refine g_bipush (v := (44 : Int32)) dX12_price_56 (by decide) ?_
      refine g_iload_n dX12_price_58 rfl rfl ?_
      refine g_iadd dX12_price_59 ?_
      refine g_iload_n dX12_price_60 rfl rfl ?_
      by_cases g8 : ((44 : Int32) + a1) < 0 ∨ 1875 ≤ ((44 : Int32) + a1).toNatClampNeg
      · rw [if_pos g8] at h; cases h
      replace h := z_iff g8 h
      refine g_iast (a := 142) dX12_price_61 sh_142 g8 ?_
      refine g_iload_n dX12_price_62 rfl rfl ?_
      cases h
      exact g_iret dX12_price_63 rfl rfl hq
    · replace h := z_iff (z_tb0.mp c6) h
      refine g_aload_n dX12_price_36 rfl rfl ?_
      refine g_iconst (v := (5 : Int32)) dX12_price_37 (by decide) ?_
      obtain ⟨q9, e10, h⟩ := z_bd h
      refine g_callV (a := 137) (as := [.int (5 : Int32)]) (rest := []) (c := mX12_refuse) (k1 := 0) dX12_price_38 rfl rfl rfl sh_137 rfl rfl (Nat.le_of_ble_eq_true rfl) (Nat.le_of_ble_eq_true rfl) (by decide) ?_
      refine A_X12_refuse e10 ?_
      show z_G none 2 mX12_price 41 [some (.ref 139), some (.int a1), some (.int a2), none] [.int q9.1] q9.2 Q
      cases h
      exact g_iret dX12_price_41 rfl rfl hq
  · replace h := z_iff (z_tb0.mp c3) h
    refine g_aload_n dX12_price_18 rfl rfl ?_
    refine g_iconst (v := (2 : Int32)) dX12_price_19 (by decide) ?_
    obtain ⟨q11, e12, h⟩ := z_bd h
    refine g_callV (a := 137) (as := [.int (2 : Int32)]) (rest := []) (c := mX12_refuse) (k1 := 0) dX12_price_20 rfl rfl rfl sh_137 rfl rfl (Nat.le_of_ble_eq_true rfl) (Nat.le_of_ble_eq_true rfl) (by decide) ?_
    refine A_X12_refuse e12 ?_
    show z_G none 2 mX12_price 23 [some (.ref 139), some (.int a1), some (.int a2), none] [.int q11.1] q11.2 Q
    cases h
    exact g_iret dX12_price_23 rfl rfl hq
theorem dX12_grant_0 : decode cX12_grant 0 = .ok (.aload_n 0, 1) := by decide +kernel
theorem dX12_grant_1 : decode cX12_grant 1 = .ok (.iconst 0, 1) := by decide +kernel
theorem dX12_grant_2 : decode cX12_grant 2 = .ok (.putfield 57, 3) := by decide +kernel
theorem dX12_grant_5 : decode cX12_grant 5 = .ok (.aload_n 0, 1) := by decide +kernel
theorem dX12_grant_6 : decode cX12_grant 6 = .ok (.iconst 0, 1) := by decide +kernel
theorem dX12_grant_7 : decode cX12_grant 7 = .ok (.putfield 60, 3) := by decide +kernel
theorem dX12_grant_10 : decode cX12_grant 10 = .ok (.aload_n 0, 1) := by decide +kernel
theorem dX12_grant_11 : decode cX12_grant 11 = .ok (.iload_n 1, 1) := by decide +kernel
theorem dX12_grant_12 : decode cX12_grant 12 = .ok (.invokevirtual 339, 3) := by decide +kernel
theorem dX12_grant_15 : decode cX12_grant 15 = .ok (.ifCond .ne 9, 3) := by decide +kernel
theorem dX12_grant_18 : decode cX12_grant 18 = .ok (.aload_n 0, 1) := by decide +kernel
theorem dX12_grant_19 : decode cX12_grant 19 = .ok (.iconst 2, 1) := by decide +kernel
theorem dX12_grant_20 : decode cX12_grant 20 = .ok (.invokevirtual 72, 3) := by decide +kernel
theorem dX12_grant_23 : decode cX12_grant 23 = .ok (.ireturn, 1) := by decide +kernel
theorem dX12_grant_24 : decode cX12_grant 24 = .ok (.iload_n 2, 1) := by decide +kernel
theorem dX12_grant_25 : decode cX12_grant 25 = .ok (.i2l, 1) := by decide +kernel
theorem dX12_grant_26 : decode cX12_grant 26 = .ok (.lconst 0, 1) := by decide +kernel
theorem dX12_grant_27 : decode cX12_grant 27 = .ok (.ldc2_w 260, 3) := by decide +kernel
theorem dX12_grant_30 : decode cX12_grant 30 = .ok (.invokestatic 92, 3) := by decide +kernel
theorem dX12_grant_33 : decode cX12_grant 33 = .ok (.ifCond .ne 9, 3) := by decide +kernel
theorem dX12_grant_36 : decode cX12_grant 36 = .ok (.aload_n 0, 1) := by decide +kernel
theorem dX12_grant_37 : decode cX12_grant 37 = .ok (.iconst 5, 1) := by decide +kernel
theorem dX12_grant_38 : decode cX12_grant 38 = .ok (.invokevirtual 72, 3) := by decide +kernel
theorem dX12_grant_41 : decode cX12_grant 41 = .ok (.ireturn, 1) := by decide +kernel
theorem dX12_grant_42 : decode cX12_grant 42 = .ok (.aload_n 0, 1) := by decide +kernel
theorem dX12_grant_43 : decode cX12_grant 43 = .ok (.getfield 35, 3) := by decide +kernel
theorem dX12_grant_46 : decode cX12_grant 46 = .ok (.bipush 52, 2) := by decide +kernel
theorem dX12_grant_48 : decode cX12_grant 48 = .ok (.iload_n 1, 1) := by decide +kernel
theorem dX12_grant_49 : decode cX12_grant 49 = .ok (.iadd, 1) := by decide +kernel
theorem dX12_grant_50 : decode cX12_grant 50 = .ok (.iaload, 1) := by decide +kernel
theorem dX12_grant_51 : decode cX12_grant 51 = .ok (.iload_n 2, 1) := by decide +kernel
theorem dX12_grant_52 : decode cX12_grant 52 = .ok (.invokestatic 96, 3) := by decide +kernel
theorem dX12_grant_55 : decode cX12_grant 55 = .ok (.iload_n 3, 1) := by decide +kernel
theorem dX12_grant_56 : decode cX12_grant 56 = .ok (.if_icmp .ne 10, 3) := by decide +kernel
theorem dX12_grant_59 : decode cX12_grant 59 = .ok (.aload_n 0, 1) := by decide +kernel
theorem dX12_grant_60 : decode cX12_grant 60 = .ok (.bipush 9, 2) := by decide +kernel
theorem dX12_grant_62 : decode cX12_grant 62 = .ok (.invokevirtual 72, 3) := by decide +kernel
theorem dX12_grant_65 : decode cX12_grant 65 = .ok (.ireturn, 1) := by decide +kernel
theorem dX12_grant_66 : decode cX12_grant 66 = .ok (.aload_n 0, 1) := by decide +kernel
theorem dX12_grant_67 : decode cX12_grant 67 = .ok (.getfield 35, 3) := by decide +kernel
theorem dX12_grant_70 : decode cX12_grant 70 = .ok (.bipush 52, 2) := by decide +kernel
theorem dX12_grant_72 : decode cX12_grant 72 = .ok (.iload_n 1, 1) := by decide +kernel
theorem dX12_grant_73 : decode cX12_grant 73 = .ok (.iadd, 1) := by decide +kernel
theorem dX12_grant_74 : decode cX12_grant 74 = .ok (.dup2, 1) := by decide +kernel
theorem dX12_grant_75 : decode cX12_grant 75 = .ok (.iaload, 1) := by decide +kernel
theorem dX12_grant_76 : decode cX12_grant 76 = .ok (.iconst 1, 1) := by decide +kernel
theorem dX12_grant_77 : decode cX12_grant 77 = .ok (.iload_n 2, 1) := by decide +kernel
theorem dX12_grant_78 : decode cX12_grant 78 = .ok (.ishl, 1) := by decide +kernel
theorem dX12_grant_79 : decode cX12_grant 79 = .ok (.ixor, 1) := by decide +kernel
theorem dX12_grant_80 : decode cX12_grant 80 = .ok (.iastore, 1) := by decide +kernel
theorem dX12_grant_81 : decode cX12_grant 81 = .ok (.iconst 1, 1) := by decide +kernel
theorem dX12_grant_82 : decode cX12_grant 82 = .ok (.ireturn, 1) := by decide +kernel
def F_X12_grant (w : Nat) (M : z_Mem) (a1 : Int32) (a2 : Int32) (a3 : Int32) : Option (Bool × z_Mem) :=
  (F_X12_isRightAt w (z_wI (z_wI M 137 1 (0 : Int32)) 137 0 (0 : Int32)) a1).bind fun q1 =>
  if q1.1 = true then
  (F_X12_isIn w q1.2 a2.toInt64 (0 : Int64) (11 : Int64)).bind fun q4 =>
  if q4.1 = true then
  if ((52 : Int32) + a1) < 0 ∨ 1875 ≤ ((52 : Int32) + a1).toNatClampNeg then none else
  (F_X12_has w q4.2 (q4.2.1 142 ((52 : Int32) + a1).toNatClampNeg) a2).bind fun q8 =>
  if (z_tb q8.1) = a3 then
  (F_X12_no w q8.2 (9 : Int32)).bind fun q13 =>
  some (q13.1, q13.2)
  else
  if ((52 : Int32) + a1) < 0 ∨ 1875 ≤ ((52 : Int32) + a1).toNatClampNeg then none else
  if ((52 : Int32) + a1) < 0 ∨ 1875 ≤ ((52 : Int32) + a1).toNatClampNeg then none else
  some (true, (z_wI q8.2 142 (((52 : Int32) + a1).toNatClampNeg) ((q8.2.1 142 ((52 : Int32) + a1).toNatClampNeg) ^^^ ((1 : Int32) <<< (a2 &&& 31)))))
  else
  (F_X12_no w q4.2 (5 : Int32)).bind fun q15 =>
  some (q15.1, q15.2)
  else
  (F_X12_no w q1.2 (2 : Int32)).bind fun q17 =>
  some (q17.1, q17.2)
set_option maxHeartbeats 4000000 in
theorem A_X12_grant {w : Nat} {M : z_Mem} {a1 : Int32} {a2 : Int32} {a3 : Int32} {r : Bool} {M' : z_Mem} {Q : Option Value → z_Mem → Prop} (h : F_X12_grant w M a1 a2 a3 = some (r, M')) (hq : Q (some (.int (z_tb r))) M') : z_Cl 2 mX12_grant [.ref 139, .int a1, .int a2, .int a3] M Q := by
  refine g_in (ls := [some (.ref 139), some (.int a1), some (.int a2), some (.int a3)]) rfl ?_
  unfold F_X12_grant at h
  refine g_aload_n dX12_grant_0 rfl rfl ?_
  refine g_iconst (v := (0 : Int32)) dX12_grant_1 (by decide) ?_
  refine g_putI (a := 137) dX12_grant_2 f_12_57 sh_137 rfl rfl rfl ?_
  refine g_aload_n dX12_grant_5 rfl rfl ?_
  refine g_iconst (v := (0 : Int32)) dX12_grant_6 (by decide) ?_
  refine g_putI (a := 137) dX12_grant_7 f_12_60 sh_137 rfl rfl rfl ?_
  refine g_aload_n dX12_grant_10 rfl rfl ?_
  refine g_iload_n dX12_grant_11 rfl rfl ?_
  obtain ⟨q1, e2, h⟩ := z_bd h
  refine g_callV (a := 137) (as := [.int a1]) (rest := []) (c := mX12_isRightAt) (k1 := 1) dX12_grant_12 rfl rfl rfl sh_137 rfl rfl (Nat.le_of_ble_eq_true rfl) (Nat.le_of_ble_eq_true rfl) (by decide) ?_
  refine A_X12_isRightAt e2 ?_
  show z_G none 2 mX12_grant 15 [some (.ref 139), some (.int a1), some (.int a2), some (.int a3)] [.int (z_tb q1.1)] q1.2 Q
  refine g_if_ne (t := 24) dX12_grant_15 (by decide) (fun c3 => ?_) (fun c3 => ?_)
  · replace h := z_ift (z_tbn.mp c3) h
    refine g_iload_n dX12_grant_24 rfl rfl ?_
    refine g_i2l dX12_grant_25 ?_
    refine g_lconst (v := (0 : Int64)) dX12_grant_26 (by decide) ?_
    refine g_ldc2_w dX12_grant_27 rfl ?_
    obtain ⟨q4, e5, h⟩ := z_bd h
    refine g_callS (as := [.long a2.toInt64, .long (0 : Int64), .long (11 : Int64)]) (rest := []) (c := mX12_isIn) (k1 := 0) dX12_grant_30 rfl rfl rfl rfl rfl (Nat.le_of_ble_eq_true rfl) (Nat.le_of_ble_eq_true rfl) (by decide) ?_
    refine A_X12_isIn e5 ?_
    show z_G none 2 mX12_grant 33 [some (.ref 139), some (.int a1), some (.int a2), some (.int a3)] [.int (z_tb q4.1)] q4.2 Q
    refine g_if_ne (t := 42) dX12_grant_33 (by decide) (fun c6 => ?_) (fun c6 => ?_)
    · replace h := z_ift (z_tbn.mp c6) h
      refine g_aload_n dX12_grant_42 rfl rfl ?_
      refine g_get (a := 137) (v := .ref 144) dX12_grant_43 f_12_35 sh_137 rfl rfl ?_
      refine g_bipush (v := (52 : Int32)) dX12_grant_46 (by decide) ?_
      refine g_iload_n dX12_grant_48 rfl rfl ?_
      refine g_iadd dX12_grant_49 ?_
      by_cases g7 : ((52 : Int32) + a1) < 0 ∨ 1875 ≤ ((52 : Int32) + a1).toNatClampNeg
      · rw [if_pos g7] at h; cases h
      replace h := z_iff g7 h
      refine g_iald (a := 142) dX12_grant_50 sh_142 g7 ?_
      refine g_iload_n dX12_grant_51 rfl rfl ?_
      obtain ⟨q8, e9, h⟩ := z_bd h
      refine g_callS (as := [.int (q4.2.1 142 ((52 : Int32) + a1).toNatClampNeg), .int a2]) (rest := []) (c := mX12_has) (k1 := 0) dX12_grant_52 rfl rfl rfl rfl rfl (Nat.le_of_ble_eq_true rfl) (Nat.le_of_ble_eq_true rfl) (by decide) ?_
      refine A_X12_has e9 ?_
      show z_G none 2 mX12_grant 55 [some (.ref 139), some (.int a1), some (.int a2), some (.int a3)] [.int (z_tb q8.1)] q8.2 Q
      refine g_iload_n dX12_grant_55 rfl rfl ?_
      refine g_ic_ne (t := 66) dX12_grant_56 (by decide) (fun c10 => ?_) (fun c10 => ?_)
      · replace h := z_iff c10 h
        refine g_aload_n dX12_grant_66 rfl rfl ?_
        refine g_get (a := 137) (v := .ref 144) dX12_grant_67 f_12_35 sh_137 rfl rfl ?_
        refine g_bipush (v := (52 : Int32)) dX12_grant_70 (by decide) ?_
        refine g_iload_n dX12_grant_72 rfl rfl ?_
        refine g_iadd dX12_grant_73 ?_
        refine g_dup2 dX12_grant_74 rfl rfl ?_
        by_cases g11 : ((52 : Int32) + a1) < 0 ∨ 1875 ≤ ((52 : Int32) + a1).toNatClampNeg
        · rw [if_pos g11] at h; cases h
        replace h := z_iff g11 h
        refine g_iald (a := 142) dX12_grant_75 sh_142 g11 ?_
        refine g_iconst (v := (1 : Int32)) dX12_grant_76 (by decide) ?_
        refine g_iload_n dX12_grant_77 rfl rfl ?_
        refine g_ishl dX12_grant_78 ?_
        refine g_ixor dX12_grant_79 ?_
        by_cases g12 : ((52 : Int32) + a1) < 0 ∨ 1875 ≤ ((52 : Int32) + a1).toNatClampNeg
        · rw [if_pos g12] at h; cases h
        replace h := z_iff g12 h
        refine g_iast (a := 142) dX12_grant_80 sh_142 g12 ?_
        refine g_iconst (v := (1 : Int32)) dX12_grant_81 (by decide) ?_
        cases h
        exact g_iret dX12_grant_82 rfl rfl hq
      · replace h := z_ift c10 h
        refine g_aload_n dX12_grant_59 rfl rfl ?_
        refine g_bipush (v := (9 : Int32)) dX12_grant_60 (by decide) ?_
        obtain ⟨q13, e14, h⟩ := z_bd h
        refine g_callV (a := 137) (as := [.int (9 : Int32)]) (rest := []) (c := mX12_no) (k1 := 0) dX12_grant_62 rfl rfl rfl sh_137 rfl rfl (Nat.le_of_ble_eq_true rfl) (Nat.le_of_ble_eq_true rfl) (by decide) ?_
        refine A_X12_no e14 ?_
        show z_G none 2 mX12_grant 65 [some (.ref 139), some (.int a1), some (.int a2), some (.int a3)] [.int (z_tb q13.1)] q13.2 Q
        cases h
        exact g_iret dX12_grant_65 rfl nb_tb hq
    · replace h := z_iff (z_tb0.mp c6) h
      refine g_aload_n dX12_grant_36 rfl rfl ?_
      refine g_iconst (v := (5 : Int32)) dX12_grant_37 (by decide) ?_
      obtain ⟨q15, e16, h⟩ := z_bd h
      refine g_callV (a := 137) (as := [.int (5 : Int32)]) (rest := []) (c := mX12_no) (k1 := 0) dX12_grant_38 rfl rfl rfl sh_137 rfl rfl (Nat.le_of_ble_eq_true rfl) (Nat.le_of_ble_eq_true rfl) (by decide) ?_
      refine A_X12_no e16 ?_
      show z_G none 2 mX12_grant 41 [some (.ref 139), some (.int a1), some (.int a2), some (.int a3)] [.int (z_tb q15.1)] q15.2 Q
      cases h
      exact g_iret dX12_grant_41 rfl nb_tb hq
  · replace h := z_iff (z_tb0.mp c3) h
    refine g_aload_n dX12_grant_18 rfl rfl ?_
    refine g_iconst (v := (2 : Int32)) dX12_grant_19 (by decide) ?_
    obtain ⟨q17, e18, h⟩ := z_bd h
    refine g_callV (a := 137) (as := [.int (2 : Int32)]) (rest := []) (c := mX12_no) (k1 := 0) dX12_grant_20 rfl rfl rfl sh_137 rfl rfl (Nat.le_of_ble_eq_true rfl) (Nat.le_of_ble_eq_true rfl) (by decide) ?_
    refine A_X12_no e18 ?_
    show z_G none 2 mX12_grant 23 [some (.ref 139), some (.int a1), some (.int a2), some (.int a3)] [.int (z_tb q17.1)] q17.2 Q
    cases h
    exact g_iret dX12_grant_23 rfl nb_tb hq
theorem dX12_claim_0 : decode cX12_claim 0 = .ok (.aload_n 0, 1) := by decide +kernel
theorem dX12_claim_1 : decode cX12_claim 1 = .ok (.iconst 0, 1) := by decide +kernel
theorem dX12_claim_2 : decode cX12_claim 2 = .ok (.putfield 57, 3) := by decide +kernel
theorem dX12_claim_5 : decode cX12_claim 5 = .ok (.aload_n 0, 1) := by decide +kernel
theorem dX12_claim_6 : decode cX12_claim 6 = .ok (.iconst 0, 1) := by decide +kernel
theorem dX12_claim_7 : decode cX12_claim 7 = .ok (.putfield 60, 3) := by decide +kernel
theorem dX12_claim_10 : decode cX12_claim 10 = .ok (.iload_n 1, 1) := by decide +kernel
theorem dX12_claim_11 : decode cX12_claim 11 = .ok (.invokestatic 336, 3) := by decide +kernel
theorem dX12_claim_14 : decode cX12_claim 14 = .ok (.ifCond .ne 9, 3) := by decide +kernel
theorem dX12_claim_17 : decode cX12_claim 17 = .ok (.aload_n 0, 1) := by decide +kernel
theorem dX12_claim_18 : decode cX12_claim 18 = .ok (.iconst 2, 1) := by decide +kernel
theorem dX12_claim_19 : decode cX12_claim 19 = .ok (.invokevirtual 333, 3) := by decide +kernel
theorem dX12_claim_22 : decode cX12_claim 22 = .ok (.ireturn, 1) := by decide +kernel
theorem dX12_claim_23 : decode cX12_claim 23 = .ok (.iload_n 2, 1) := by decide +kernel
theorem dX12_claim_24 : decode cX12_claim 24 = .ok (.i2l, 1) := by decide +kernel
theorem dX12_claim_25 : decode cX12_claim 25 = .ok (.lconst 0, 1) := by decide +kernel
theorem dX12_claim_26 : decode cX12_claim 26 = .ok (.ldc2_w 347, 3) := by decide +kernel
theorem dX12_claim_29 : decode cX12_claim 29 = .ok (.invokestatic 92, 3) := by decide +kernel
theorem dX12_claim_32 : decode cX12_claim 32 = .ok (.ifCond .eq 54, 3) := by decide +kernel
theorem dX12_claim_35 : decode cX12_claim 35 = .ok (.iload_n 3, 1) := by decide +kernel
theorem dX12_claim_36 : decode cX12_claim 36 = .ok (.i2l, 1) := by decide +kernel
theorem dX12_claim_37 : decode cX12_claim 37 = .ok (.iload_n 2, 1) := by decide +kernel
theorem dX12_claim_38 : decode cX12_claim 38 = .ok (.iconst 2, 1) := by decide +kernel
theorem dX12_claim_39 : decode cX12_claim 39 = .ok (.if_icmp .ne 7, 3) := by decide +kernel
theorem dX12_claim_42 : decode cX12_claim 42 = .ok (.lconst 1, 1) := by decide +kernel
theorem dX12_claim_43 : decode cX12_claim 43 = .ok (.goto 4, 3) := by decide +kernel
theorem dX12_claim_46 : decode cX12_claim 46 = .ok (.lconst 0, 1) := by decide +kernel
theorem dX12_claim_47 : decode cX12_claim 47 = .ok (.iload_n 2, 1) := by decide +kernel
theorem dX12_claim_48 : decode cX12_claim 48 = .ok (.iconst 2, 1) := by decide +kernel
theorem dX12_claim_49 : decode cX12_claim 49 = .ok (.if_icmp .ne 9, 3) := by decide +kernel
theorem dX12_claim_52 : decode cX12_claim 52 = .ok (.ldc2_w 352, 3) := by decide +kernel
theorem dX12_claim_55 : decode cX12_claim 55 = .ok (.goto 4, 3) := by decide +kernel
theorem dX12_claim_58 : decode cX12_claim 58 = .ok (.lconst 0, 1) := by decide +kernel
theorem dX12_claim_59 : decode cX12_claim 59 = .ok (.invokestatic 92, 3) := by decide +kernel
theorem dX12_claim_62 : decode cX12_claim 62 = .ok (.ifCond .eq 24, 3) := by decide +kernel
theorem dX12_claim_65 : decode cX12_claim 65 = .ok (.iload 4, 2) := by decide +kernel
theorem dX12_claim_67 : decode cX12_claim 67 = .ok (.i2l, 1) := by decide +kernel
theorem dX12_claim_68 : decode cX12_claim 68 = .ok (.lconst 1, 1) := by decide +kernel
theorem dX12_claim_69 : decode cX12_claim 69 = .ok (.ldc2_w 400, 3) := by decide +kernel
theorem dX12_claim_72 : decode cX12_claim 72 = .ok (.invokestatic 92, 3) := by decide +kernel
theorem dX12_claim_75 : decode cX12_claim 75 = .ok (.ifCond .eq 11, 3) := by decide +kernel
theorem dX12_claim_78 : decode cX12_claim 78 = .ok (.iload 5, 2) := by decide +kernel
theorem dX12_claim_80 : decode cX12_claim 80 = .ok (.invokestatic 402, 3) := by decide +kernel
theorem dX12_claim_83 : decode cX12_claim 83 = .ok (.ifCond .ne 9, 3) := by decide +kernel
theorem dX12_claim_86 : decode cX12_claim 86 = .ok (.aload_n 0, 1) := by decide +kernel
theorem dX12_claim_87 : decode cX12_claim 87 = .ok (.iconst 5, 1) := by decide +kernel
theorem dX12_claim_88 : decode cX12_claim 88 = .ok (.invokevirtual 333, 3) := by decide +kernel
theorem dX12_claim_91 : decode cX12_claim 91 = .ok (.ireturn, 1) := by decide +kernel
theorem dX12_claim_92 : decode cX12_claim 92 = .ok (.aload_n 0, 1) := by decide +kernel
theorem dX12_claim_93 : decode cX12_claim 93 = .ok (.getfield 35, 3) := by decide +kernel
theorem dX12_claim_96 : decode cX12_claim 96 = .ok (.iconst 0, 1) := by decide +kernel
theorem dX12_claim_97 : decode cX12_claim 97 = .ok (.iaload, 1) := by decide +kernel
theorem dX12_claim_98 : decode cX12_claim 98 = .ok (.istore 6, 2) := by decide +kernel
theorem dX12_claim_100 : decode cX12_claim 100 = .ok (.iload 6, 2) := by decide +kernel
theorem dX12_claim_102 : decode cX12_claim 102 = .ok (.bipush 8, 2) := by decide +kernel
theorem dX12_claim_104 : decode cX12_claim 104 = .ok (.if_icmp .ne 10, 3) := by decide +kernel
theorem dX12_claim_107 : decode cX12_claim 107 = .ok (.aload_n 0, 1) := by decide +kernel
theorem dX12_claim_108 : decode cX12_claim 108 = .ok (.bipush 7, 2) := by decide +kernel
theorem dX12_claim_110 : decode cX12_claim 110 = .ok (.invokevirtual 333, 3) := by decide +kernel
theorem dX12_claim_113 : decode cX12_claim 113 = .ok (.ireturn, 1) := by decide +kernel
theorem dX12_claim_114 : decode cX12_claim 114 = .ok (.aload_n 0, 1) := by decide +kernel
theorem dX12_claim_115 : decode cX12_claim 115 = .ok (.iconst 0, 1) := by decide +kernel
theorem dX12_claim_116 : decode cX12_claim 116 = .ok (.iload 6, 2) := by decide +kernel
theorem dX12_claim_118 : decode cX12_claim 118 = .ok (.iload_n 1, 1) := by decide +kernel
theorem dX12_claim_119 : decode cX12_claim 119 = .ok (.iload_n 2, 1) := by decide +kernel
theorem dX12_claim_120 : decode cX12_claim 120 = .ok (.iload_n 3, 1) := by decide +kernel
theorem dX12_claim_121 : decode cX12_claim 121 = .ok (.iload 4, 2) := by decide +kernel
theorem dX12_claim_123 : decode cX12_claim 123 = .ok (.iload 5, 2) := by decide +kernel
theorem dX12_claim_125 : decode cX12_claim 125 = .ok (.invokevirtual 262, 3) := by decide +kernel
theorem dX12_claim_128 : decode cX12_claim 128 = .ok (.iload 6, 2) := by decide +kernel
theorem dX12_claim_130 : decode cX12_claim 130 = .ok (.ireturn, 1) := by decide +kernel
def F_X12_claim (w : Nat) (M : z_Mem) (a1 : Int32) (a2 : Int32) (a3 : Int32) (a4 : Int32) (a5 : Int32) : Option (Int32 × z_Mem) :=
  (F_X12_isSideAt w (z_wI (z_wI M 137 1 (0 : Int32)) 137 0 (0 : Int32)) a1).bind fun q1 =>
  if q1.1 = true then
  (F_X12_isIn w q1.2 a2.toInt64 (0 : Int64) (2 : Int64)).bind fun q4 =>
  if q4.1 = true then
  if a2 = (2 : Int32) then
  if a2 = (2 : Int32) then
  (F_X12_isIn w q4.2 a3.toInt64 (1 : Int64) (6 : Int64)).bind fun q72 =>
  if q72.1 = true then
  (F_X12_isIn w q72.2 a4.toInt64 (1 : Int64) (50 : Int64)).bind fun q77 =>
  if q77.1 = true then
  (F_X12_isPlan w q77.2 a5).bind fun q82 =>
  if q82.1 = true then
  if (q82.2.1 142 0) = (8 : Int32) then
  (F_X12_refuse w q82.2 (7 : Int32)).bind fun q88 =>
  some (q88.1, q88.2)
  else
  (F_X12_grants w q82.2 (0 : Int32) (q82.2.1 142 0) a1 a2 a3 a4 a5).bind fun q86 =>
  some (q82.2.1 142 0, q86.2)
  else
  (F_X12_refuse w q82.2 (5 : Int32)).bind fun q90 =>
  some (q90.1, q90.2)
  else
  (F_X12_refuse w q77.2 (5 : Int32)).bind fun q80 =>
  some (q80.1, q80.2)
  else
  (F_X12_refuse w q72.2 (5 : Int32)).bind fun q75 =>
  some (q75.1, q75.2)
  else
  (F_X12_isIn w q4.2 a3.toInt64 (1 : Int64) (0 : Int64)).bind fun q52 =>
  if q52.1 = true then
  (F_X12_isIn w q52.2 a4.toInt64 (1 : Int64) (50 : Int64)).bind fun q57 =>
  if q57.1 = true then
  (F_X12_isPlan w q57.2 a5).bind fun q62 =>
  if q62.1 = true then
  if (q62.2.1 142 0) = (8 : Int32) then
  (F_X12_refuse w q62.2 (7 : Int32)).bind fun q68 =>
  some (q68.1, q68.2)
  else
  (F_X12_grants w q62.2 (0 : Int32) (q62.2.1 142 0) a1 a2 a3 a4 a5).bind fun q66 =>
  some (q62.2.1 142 0, q66.2)
  else
  (F_X12_refuse w q62.2 (5 : Int32)).bind fun q70 =>
  some (q70.1, q70.2)
  else
  (F_X12_refuse w q57.2 (5 : Int32)).bind fun q60 =>
  some (q60.1, q60.2)
  else
  (F_X12_refuse w q52.2 (5 : Int32)).bind fun q55 =>
  some (q55.1, q55.2)
  else
  if a2 = (2 : Int32) then
  (F_X12_isIn w q4.2 a3.toInt64 (0 : Int64) (6 : Int64)).bind fun q31 =>
  if q31.1 = true then
  (F_X12_isIn w q31.2 a4.toInt64 (1 : Int64) (50 : Int64)).bind fun q36 =>
  if q36.1 = true then
  (F_X12_isPlan w q36.2 a5).bind fun q41 =>
  if q41.1 = true then
  if (q41.2.1 142 0) = (8 : Int32) then
  (F_X12_refuse w q41.2 (7 : Int32)).bind fun q47 =>
  some (q47.1, q47.2)
  else
  (F_X12_grants w q41.2 (0 : Int32) (q41.2.1 142 0) a1 a2 a3 a4 a5).bind fun q45 =>
  some (q41.2.1 142 0, q45.2)
  else
  (F_X12_refuse w q41.2 (5 : Int32)).bind fun q49 =>
  some (q49.1, q49.2)
  else
  (F_X12_refuse w q36.2 (5 : Int32)).bind fun q39 =>
  some (q39.1, q39.2)
  else
  (F_X12_refuse w q31.2 (5 : Int32)).bind fun q34 =>
  some (q34.1, q34.2)
  else
  (F_X12_isIn w q4.2 a3.toInt64 (0 : Int64) (0 : Int64)).bind fun q11 =>
  if q11.1 = true then
  (F_X12_isIn w q11.2 a4.toInt64 (1 : Int64) (50 : Int64)).bind fun q16 =>
  if q16.1 = true then
  (F_X12_isPlan w q16.2 a5).bind fun q21 =>
  if q21.1 = true then
  if (q21.2.1 142 0) = (8 : Int32) then
  (F_X12_refuse w q21.2 (7 : Int32)).bind fun q27 =>
  some (q27.1, q27.2)
  else
  (F_X12_grants w q21.2 (0 : Int32) (q21.2.1 142 0) a1 a2 a3 a4 a5).bind fun q25 =>
  some (q21.2.1 142 0, q25.2)
  else
  (F_X12_refuse w q21.2 (5 : Int32)).bind fun q29 =>
  some (q29.1, q29.2)
  else
  (F_X12_refuse w q16.2 (5 : Int32)).bind fun q19 =>
  some (q19.1, q19.2)
  else
  (F_X12_refuse w q11.2 (5 : Int32)).bind fun q14 =>
  some (q14.1, q14.2)
  else
  (F_X12_refuse w q4.2 (5 : Int32)).bind fun q7 =>
  some (q7.1, q7.2)
  else
  (F_X12_refuse w q1.2 (2 : Int32)).bind fun q92 =>
  some (q92.1, q92.2)
set_option maxHeartbeats 4000000 in
theorem A_X12_claim {w : Nat} {M : z_Mem} {a1 : Int32} {a2 : Int32} {a3 : Int32} {a4 : Int32} {a5 : Int32} {r : Int32} {M' : z_Mem} {Q : Option Value → z_Mem → Prop} (h : F_X12_claim w M a1 a2 a3 a4 a5 = some (r, M')) (hq : Q (some (.int r)) M') : z_Cl 2 mX12_claim [.ref 139, .int a1, .int a2, .int a3, .int a4, .int a5] M Q := by
  refine g_in (ls := [some (.ref 139), some (.int a1), some (.int a2), some (.int a3), some (.int a4), some (.int a5), none]) rfl ?_
  unfold F_X12_claim at h
  refine g_aload_n dX12_claim_0 rfl rfl ?_
  refine g_iconst (v := (0 : Int32)) dX12_claim_1 (by decide) ?_
  refine g_putI (a := 137) dX12_claim_2 f_12_57 sh_137 rfl rfl rfl ?_
  refine g_aload_n dX12_claim_5 rfl rfl ?_
  refine g_iconst (v := (0 : Int32)) dX12_claim_6 (by decide) ?_
  refine g_putI (a := 137) dX12_claim_7 f_12_60 sh_137 rfl rfl rfl ?_
  refine g_iload_n dX12_claim_10 rfl rfl ?_
  obtain ⟨q1, e2, h⟩ := z_bd h
  refine g_callS (as := [.int a1]) (rest := []) (c := mX12_isSideAt) (k1 := 0) dX12_claim_11 rfl rfl rfl rfl rfl (Nat.le_of_ble_eq_true rfl) (Nat.le_of_ble_eq_true rfl) (by decide) ?_
  refine A_X12_isSideAt e2 ?_
  show z_G none 2 mX12_claim 14 [some (.ref 139), some (.int a1), some (.int a2), some (.int a3), some (.int a4), some (.int a5), none] [.int (z_tb q1.1)] q1.2 Q
  refine g_if_ne (t := 23) dX12_claim_14 (by decide) (fun c3 => ?_) (fun c3 => ?_)
  · replace h := z_ift (z_tbn.mp c3) h
    refine g_iload_n dX12_claim_23 rfl rfl ?_
    refine g_i2l dX12_claim_24 ?_
    refine g_lconst (v := (0 : Int64)) dX12_claim_25 (by decide) ?_
    refine g_ldc2_w dX12_claim_26 rfl ?_
    obtain ⟨q4, e5, h⟩ := z_bd h
    refine g_callS (as := [.long a2.toInt64, .long (0 : Int64), .long (2 : Int64)]) (rest := []) (c := mX12_isIn) (k1 := 0) dX12_claim_29 rfl rfl rfl rfl rfl (Nat.le_of_ble_eq_true rfl) (Nat.le_of_ble_eq_true rfl) (by decide) ?_
    refine A_X12_isIn e5 ?_
    show z_G none 2 mX12_claim 32 [some (.ref 139), some (.int a1), some (.int a2), some (.int a3), some (.int a4), some (.int a5), none] [.int (z_tb q4.1)] q4.2 Q
    refine g_if_eq (t := 86) dX12_claim_32 (by decide) (fun c6 => ?_) (fun c6 => ?_)
    · replace h := z_iff (z_tb0.mp c6) h
      refine g_aload_n dX12_claim_86 rfl rfl ?_
      refine g_iconst (v := (5 : Int32)) dX12_claim_87 (by decide) ?_
      obtain ⟨q7, e8, h⟩ := z_bd h
      refine g_callV (a := 137) (as := [.int (5 : Int32)]) (rest := []) (c := mX12_refuse) (k1 := 0) dX12_claim_88 rfl rfl rfl sh_137 rfl rfl (Nat.le_of_ble_eq_true rfl) (Nat.le_of_ble_eq_true rfl) (by decide) ?_
      refine A_X12_refuse e8 ?_
      show z_G none 2 mX12_claim 91 [some (.ref 139), some (.int a1), some (.int a2), some (.int a3), some (.int a4), some (.int a5), none] [.int q7.1] q7.2 Q
      cases h
      exact g_iret dX12_claim_91 rfl rfl hq
    · replace h := z_ift (z_tbn.mp c6) h
      refine g_iload_n dX12_claim_35 rfl rfl ?_
      refine g_i2l dX12_claim_36 ?_
      refine g_iload_n dX12_claim_37 rfl rfl ?_
      refine g_iconst (v := (2 : Int32)) dX12_claim_38 (by decide) ?_
      refine g_ic_ne (t := 46) dX12_claim_39 (by decide) (fun c9 => ?_) (fun c9 => ?_)
      · replace h := z_iff c9 h
        refine g_lconst (v := (0 : Int64)) dX12_claim_46 (by decide) ?_
        refine g_iload_n dX12_claim_47 rfl rfl ?_
        refine g_iconst (v := (2 : Int32)) dX12_claim_48 (by decide) ?_
        refine g_ic_ne (t := 58) dX12_claim_49 (by decide) (fun c10 => ?_) (fun c10 => ?_)
        · replace h := z_iff c10 h
          refine g_lconst (v := (0 : Int64)) dX12_claim_58 (by decide) ?_
          obtain ⟨q11, e12, h⟩ := z_bd h
          refine g_callS (as := [.long a3.toInt64, .long (0 : Int64), .long (0 : Int64)]) (rest := []) (c := mX12_isIn) (k1 := 0) dX12_claim_59 rfl rfl rfl rfl rfl (Nat.le_of_ble_eq_true rfl) (Nat.le_of_ble_eq_true rfl) (by decide) ?_
          refine A_X12_isIn e12 ?_
          show z_G none 2 mX12_claim 62 [some (.ref 139), some (.int a1), some (.int a2), some (.int a3), some (.int a4), some (.int a5), none] [.int (z_tb q11.1)] q11.2 Q
          refine g_if_eq (t := 86) dX12_claim_62 (by decide) (fun c13 => ?_) (fun c13 => ?_)
          · replace h := z_iff (z_tb0.mp c13) h
            refine g_aload_n dX12_claim_86 rfl rfl ?_
            refine g_iconst (v := (5 : Int32)) dX12_claim_87 (by decide) ?_
            obtain ⟨q14, e15, h⟩ := z_bd h
            refine g_callV (a := 137) (as := [.int (5 : Int32)]) (rest := []) (c := mX12_refuse) (k1 := 0) dX12_claim_88 rfl rfl rfl sh_137 rfl rfl (Nat.le_of_ble_eq_true rfl) (Nat.le_of_ble_eq_true rfl) (by decide) ?_
            refine A_X12_refuse e15 ?_
            show z_G none 2 mX12_claim 91 [some (.ref 139), some (.int a1), some (.int a2), some (.int a3), some (.int a4), some (.int a5), none] [.int q14.1] q14.2 Q
            cases h
            exact g_iret dX12_claim_91 rfl rfl hq
          · replace h := z_ift (z_tbn.mp c13) h
            refine g_iload dX12_claim_65 rfl ?_
            refine g_i2l dX12_claim_67 ?_
            refine g_lconst (v := (1 : Int64)) dX12_claim_68 (by decide) ?_
            refine g_ldc2_w dX12_claim_69 rfl ?_
            obtain ⟨q16, e17, h⟩ := z_bd h
            refine g_callS (as := [.long a4.toInt64, .long (1 : Int64), .long (50 : Int64)]) (rest := []) (c := mX12_isIn) (k1 := 0) dX12_claim_72 rfl rfl rfl rfl rfl (Nat.le_of_ble_eq_true rfl) (Nat.le_of_ble_eq_true rfl) (by decide) ?_
            refine A_X12_isIn e17 ?_
            show z_G none 2 mX12_claim 75 [some (.ref 139), some (.int a1), some (.int a2), some (.int a3), some (.int a4), some (.int a5), none] [.int (z_tb q16.1)] q16.2 Q
            refine g_if_eq (t := 86) dX12_claim_75 (by decide) (fun c18 => ?_) (fun c18 => ?_)
            · replace h := z_iff (z_tb0.mp c18) h
              refine g_aload_n dX12_claim_86 rfl rfl ?_
              refine g_iconst (v := (5 : Int32)) dX12_claim_87 (by decide) ?_
              obtain ⟨q19, e20, h⟩ := z_bd h
              refine g_callV (a := 137) (as := [.int (5 : Int32)]) (rest := []) (c := mX12_refuse) (k1 := 0) dX12_claim_88 rfl rfl rfl sh_137 rfl rfl (Nat.le_of_ble_eq_true rfl) (Nat.le_of_ble_eq_true rfl) (by decide) ?_
              refine A_X12_refuse e20 ?_
              show z_G none 2 mX12_claim 91 [some (.ref 139), some (.int a1), some (.int a2), some (.int a3), some (.int a4), some (.int a5), none] [.int q19.1] q19.2 Q
              cases h
              exact g_iret dX12_claim_91 rfl rfl hq
            · replace h := z_ift (z_tbn.mp c18) h
              refine g_iload dX12_claim_78 rfl ?_
              obtain ⟨q21, e22, h⟩ := z_bd h
              refine g_callS (as := [.int a5]) (rest := []) (c := mX12_isPlan) (k1 := 1) dX12_claim_80 rfl rfl rfl rfl rfl (Nat.le_of_ble_eq_true rfl) (Nat.le_of_ble_eq_true rfl) (by decide) ?_
              refine A_X12_isPlan e22 ?_
              show z_G none 2 mX12_claim 83 [some (.ref 139), some (.int a1), some (.int a2), some (.int a3), some (.int a4), some (.int a5), none] [.int (z_tb q21.1)] q21.2 Q
              refine g_if_ne (t := 92) dX12_claim_83 (by decide) (fun c23 => ?_) (fun c23 => ?_)
              · replace h := z_ift (z_tbn.mp c23) h
                refine g_aload_n dX12_claim_92 rfl rfl ?_
                refine g_get (a := 137) (v := .ref 144) dX12_claim_93 f_12_35 sh_137 rfl rfl ?_
                refine g_iconst (v := (0 : Int32)) dX12_claim_96 (by decide) ?_
                refine g_ialN (a := 142) (j := 0) (v := q21.2.1 142 0) dX12_claim_97 sh_142 rfl (by decide) rfl ?_
                refine g_istore (ls' := [some (.ref 139), some (.int a1), some (.int a2), some (.int a3), some (.int a4), some (.int a5), some (.int (q21.2.1 142 0))]) dX12_claim_98 (Nat.le_of_ble_eq_true rfl) rfl ?_
                refine g_iload dX12_claim_100 rfl ?_
                refine g_bipush (v := (8 : Int32)) dX12_claim_102 (by decide) ?_
                refine g_ic_ne (t := 114) dX12_claim_104 (by decide) (fun c24 => ?_) (fun c24 => ?_)
                · replace h := z_iff c24 h
                  refine g_aload_n dX12_claim_114 rfl rfl ?_
                  refine g_iconst (v := (0 : Int32)) dX12_claim_115 (by decide) ?_
                  refine g_iload dX12_claim_116 rfl ?_
                  refine g_iload_n dX12_claim_118 rfl rfl ?_
                  refine g_iload_n dX12_claim_119 rfl rfl ?_
                  refine g_iload_n dX12_claim_120 rfl rfl ?_
                  refine g_iload dX12_claim_121 rfl ?_
                  refine g_iload dX12_claim_123 rfl ?_
                  obtain ⟨q25, e26, h⟩ := z_bd h
                  refine g_callV (a := 137) (as := [.int (0 : Int32), .int (q21.2.1 142 0), .int a1, .int a2, .int a3, .int a4, .int a5]) (rest := []) (c := mX12_grants) (k1 := 0) dX12_claim_125 rfl rfl rfl sh_137 rfl rfl (Nat.le_of_ble_eq_true rfl) (Nat.le_of_ble_eq_true rfl) (by decide) ?_
                  refine A_X12_grants e26 ?_
                  show z_G none 2 mX12_claim 128 [some (.ref 139), some (.int a1), some (.int a2), some (.int a3), some (.int a4), some (.int a5), some (.int (q21.2.1 142 0))] [] q25.2 Q
                  refine g_iload dX12_claim_128 rfl ?_
                  cases h
                  exact g_iret dX12_claim_130 rfl rfl hq
                · replace h := z_ift c24 h
                  refine g_aload_n dX12_claim_107 rfl rfl ?_
                  refine g_bipush (v := (7 : Int32)) dX12_claim_108 (by decide) ?_
                  obtain ⟨q27, e28, h⟩ := z_bd h
                  refine g_callV (a := 137) (as := [.int (7 : Int32)]) (rest := []) (c := mX12_refuse) (k1 := 0) dX12_claim_110 rfl rfl rfl sh_137 rfl rfl (Nat.le_of_ble_eq_true rfl) (Nat.le_of_ble_eq_true rfl) (by decide) ?_
                  refine A_X12_refuse e28 ?_
                  show z_G none 2 mX12_claim 113 [some (.ref 139), some (.int a1), some (.int a2), some (.int a3), some (.int a4), some (.int a5), some (.int (q21.2.1 142 0))] [.int q27.1] q27.2 Q
                  cases h
                  exact g_iret dX12_claim_113 rfl rfl hq
              · replace h := z_iff (z_tb0.mp c23) h
                refine g_aload_n dX12_claim_86 rfl rfl ?_
                refine g_iconst (v := (5 : Int32)) dX12_claim_87 (by decide) ?_
                obtain ⟨q29, e30, h⟩ := z_bd h
                refine g_callV (a := 137) (as := [.int (5 : Int32)]) (rest := []) (c := mX12_refuse) (k1 := 0) dX12_claim_88 rfl rfl rfl sh_137 rfl rfl (Nat.le_of_ble_eq_true rfl) (Nat.le_of_ble_eq_true rfl) (by decide) ?_
                refine A_X12_refuse e30 ?_
                show z_G none 2 mX12_claim 91 [some (.ref 139), some (.int a1), some (.int a2), some (.int a3), some (.int a4), some (.int a5), none] [.int q29.1] q29.2 Q
                cases h
                exact g_iret dX12_claim_91 rfl rfl hq
        · replace h := z_ift c10 h
          refine g_ldc2_w dX12_claim_52 rfl ?_
          refine g_goto (t := 59) dX12_claim_55 (by decide) ?_
          obtain ⟨q31, e32, h⟩ := z_bd h
          refine g_callS (as := [.long a3.toInt64, .long (0 : Int64), .long (6 : Int64)]) (rest := []) (c := mX12_isIn) (k1 := 0) dX12_claim_59 rfl rfl rfl rfl rfl (Nat.le_of_ble_eq_true rfl) (Nat.le_of_ble_eq_true rfl) (by decide) ?_
          refine A_X12_isIn e32 ?_
          show z_G none 2 mX12_claim 62 [some (.ref 139), some (.int a1), some (.int a2), some (.int a3), some (.int a4), some (.int a5), none] [.int (z_tb q31.1)] q31.2 Q
          refine g_if_eq (t := 86) dX12_claim_62 (by decide) (fun c33 => ?_) (fun c33 => ?_)
          · replace h := z_iff (z_tb0.mp c33) h
            refine g_aload_n dX12_claim_86 rfl rfl ?_
            refine g_iconst (v := (5 : Int32)) dX12_claim_87 (by decide) ?_
            obtain ⟨q34, e35, h⟩ := z_bd h
            refine g_callV (a := 137) (as := [.int (5 : Int32)]) (rest := []) (c := mX12_refuse) (k1 := 0) dX12_claim_88 rfl rfl rfl sh_137 rfl rfl (Nat.le_of_ble_eq_true rfl) (Nat.le_of_ble_eq_true rfl) (by decide) ?_
            refine A_X12_refuse e35 ?_
            show z_G none 2 mX12_claim 91 [some (.ref 139), some (.int a1), some (.int a2), some (.int a3), some (.int a4), some (.int a5), none] [.int q34.1] q34.2 Q
            cases h
            exact g_iret dX12_claim_91 rfl rfl hq
          · replace h := z_ift (z_tbn.mp c33) h
            refine g_iload dX12_claim_65 rfl ?_
            refine g_i2l dX12_claim_67 ?_
            refine g_lconst (v := (1 : Int64)) dX12_claim_68 (by decide) ?_
            refine g_ldc2_w dX12_claim_69 rfl ?_
            obtain ⟨q36, e37, h⟩ := z_bd h
            refine g_callS (as := [.long a4.toInt64, .long (1 : Int64), .long (50 : Int64)]) (rest := []) (c := mX12_isIn) (k1 := 0) dX12_claim_72 rfl rfl rfl rfl rfl (Nat.le_of_ble_eq_true rfl) (Nat.le_of_ble_eq_true rfl) (by decide) ?_
            refine A_X12_isIn e37 ?_
            show z_G none 2 mX12_claim 75 [some (.ref 139), some (.int a1), some (.int a2), some (.int a3), some (.int a4), some (.int a5), none] [.int (z_tb q36.1)] q36.2 Q
            refine g_if_eq (t := 86) dX12_claim_75 (by decide) (fun c38 => ?_) (fun c38 => ?_)
            · replace h := z_iff (z_tb0.mp c38) h
              refine g_aload_n dX12_claim_86 rfl rfl ?_
              refine g_iconst (v := (5 : Int32)) dX12_claim_87 (by decide) ?_
              obtain ⟨q39, e40, h⟩ := z_bd h
              refine g_callV (a := 137) (as := [.int (5 : Int32)]) (rest := []) (c := mX12_refuse) (k1 := 0) dX12_claim_88 rfl rfl rfl sh_137 rfl rfl (Nat.le_of_ble_eq_true rfl) (Nat.le_of_ble_eq_true rfl) (by decide) ?_
              refine A_X12_refuse e40 ?_
              show z_G none 2 mX12_claim 91 [some (.ref 139), some (.int a1), some (.int a2), some (.int a3), some (.int a4), some (.int a5), none] [.int q39.1] q39.2 Q
              cases h
              exact g_iret dX12_claim_91 rfl rfl hq
            · replace h := z_ift (z_tbn.mp c38) h
              refine g_iload dX12_claim_78 rfl ?_
              obtain ⟨q41, e42, h⟩ := z_bd h
              refine g_callS (as := [.int a5]) (rest := []) (c := mX12_isPlan) (k1 := 1) dX12_claim_80 rfl rfl rfl rfl rfl (Nat.le_of_ble_eq_true rfl) (Nat.le_of_ble_eq_true rfl) (by decide) ?_
              refine A_X12_isPlan e42 ?_
              show z_G none 2 mX12_claim 83 [some (.ref 139), some (.int a1), some (.int a2), some (.int a3), some (.int a4), some (.int a5), none] [.int (z_tb q41.1)] q41.2 Q
              refine g_if_ne (t := 92) dX12_claim_83 (by decide) (fun c43 => ?_) (fun c43 => ?_)
              · replace h := z_ift (z_tbn.mp c43) h
                refine g_aload_n dX12_claim_92 rfl rfl ?_
                refine g_get (a := 137) (v := .ref 144) dX12_claim_93 f_12_35 sh_137 rfl rfl ?_
                refine g_iconst (v := (0 : Int32)) dX12_claim_96 (by decide) ?_
                refine g_ialN (a := 142) (j := 0) (v := q41.2.1 142 0) dX12_claim_97 sh_142 rfl (by decide) rfl ?_
                refine g_istore (ls' := [some (.ref 139), some (.int a1), some (.int a2), some (.int a3), some (.int a4), some (.int a5), some (.int (q41.2.1 142 0))]) dX12_claim_98 (Nat.le_of_ble_eq_true rfl) rfl ?_
                refine g_iload dX12_claim_100 rfl ?_
                refine g_bipush (v := (8 : Int32)) dX12_claim_102 (by decide) ?_
                refine g_ic_ne (t := 114) dX12_claim_104 (by decide) (fun c44 => ?_) (fun c44 => ?_)
                · replace h := z_iff c44 h
                  refine g_aload_n dX12_claim_114 rfl rfl ?_
                  refine g_iconst (v := (0 : Int32)) dX12_claim_115 (by decide) ?_
                  refine g_iload dX12_claim_116 rfl ?_
                  refine g_iload_n dX12_claim_118 rfl rfl ?_
                  refine g_iload_n dX12_claim_119 rfl rfl ?_
                  refine g_iload_n dX12_claim_120 rfl rfl ?_
                  refine g_iload dX12_claim_121 rfl ?_
                  refine g_iload dX12_claim_123 rfl ?_
                  obtain ⟨q45, e46, h⟩ := z_bd h
                  refine g_callV (a := 137) (as := [.int (0 : Int32), .int (q41.2.1 142 0), .int a1, .int a2, .int a3, .int a4, .int a5]) (rest := []) (c := mX12_grants) (k1 := 0) dX12_claim_125 rfl rfl rfl sh_137 rfl rfl (Nat.le_of_ble_eq_true rfl) (Nat.le_of_ble_eq_true rfl) (by decide) ?_
                  refine A_X12_grants e46 ?_
                  show z_G none 2 mX12_claim 128 [some (.ref 139), some (.int a1), some (.int a2), some (.int a3), some (.int a4), some (.int a5), some (.int (q41.2.1 142 0))] [] q45.2 Q
                  refine g_iload dX12_claim_128 rfl ?_
                  cases h
                  exact g_iret dX12_claim_130 rfl rfl hq
                · replace h := z_ift c44 h
                  refine g_aload_n dX12_claim_107 rfl rfl ?_
                  refine g_bipush (v := (7 : Int32)) dX12_claim_108 (by decide) ?_
                  obtain ⟨q47, e48, h⟩ := z_bd h
                  refine g_callV (a := 137) (as := [.int (7 : Int32)]) (rest := []) (c := mX12_refuse) (k1 := 0) dX12_claim_110 rfl rfl rfl sh_137 rfl rfl (Nat.le_of_ble_eq_true rfl) (Nat.le_of_ble_eq_true rfl) (by decide) ?_
                  refine A_X12_refuse e48 ?_
                  show z_G none 2 mX12_claim 113 [some (.ref 139), some (.int a1), some (.int a2), some (.int a3), some (.int a4), some (.int a5), some (.int (q41.2.1 142 0))] [.int q47.1] q47.2 Q
                  cases h
                  exact g_iret dX12_claim_113 rfl rfl hq
              · replace h := z_iff (z_tb0.mp c43) h
                refine g_aload_n dX12_claim_86 rfl rfl ?_
                refine g_iconst (v := (5 : Int32)) dX12_claim_87 (by decide) ?_
                obtain ⟨q49, e50, h⟩ := z_bd h
                refine g_callV (a := 137) (as := [.int (5 : Int32)]) (rest := []) (c := mX12_refuse) (k1 := 0) dX12_claim_88 rfl rfl rfl sh_137 rfl rfl (Nat.le_of_ble_eq_true rfl) (Nat.le_of_ble_eq_true rfl) (by decide) ?_
                refine A_X12_refuse e50 ?_
                show z_G none 2 mX12_claim 91 [some (.ref 139), some (.int a1), some (.int a2), some (.int a3), some (.int a4), some (.int a5), none] [.int q49.1] q49.2 Q
                cases h
                exact g_iret dX12_claim_91 rfl rfl hq
      · replace h := z_ift c9 h
        refine g_lconst (v := (1 : Int64)) dX12_claim_42 (by decide) ?_
        refine g_goto (t := 47) dX12_claim_43 (by decide) ?_
        refine g_iload_n dX12_claim_47 rfl rfl ?_
        refine g_iconst (v := (2 : Int32)) dX12_claim_48 (by decide) ?_
        refine g_ic_ne (t := 58) dX12_claim_49 (by decide) (fun c51 => ?_) (fun c51 => ?_)
        · replace h := z_iff c51 h
          refine g_lconst (v := (0 : Int64)) dX12_claim_58 (by decide) ?_
          obtain ⟨q52, e53, h⟩ := z_bd h
          refine g_callS (as := [.long a3.toInt64, .long (1 : Int64), .long (0 : Int64)]) (rest := []) (c := mX12_isIn) (k1 := 0) dX12_claim_59 rfl rfl rfl rfl rfl (Nat.le_of_ble_eq_true rfl) (Nat.le_of_ble_eq_true rfl) (by decide) ?_
          refine A_X12_isIn e53 ?_
          show z_G none 2 mX12_claim 62 [some (.ref 139), some (.int a1), some (.int a2), some (.int a3), some (.int a4), some (.int a5), none] [.int (z_tb q52.1)] q52.2 Q
          refine g_if_eq (t := 86) dX12_claim_62 (by decide) (fun c54 => ?_) (fun c54 => ?_)
          · replace h := z_iff (z_tb0.mp c54) h
            refine g_aload_n dX12_claim_86 rfl rfl ?_
            refine g_iconst (v := (5 : Int32)) dX12_claim_87 (by decide) ?_
            obtain ⟨q55, e56, h⟩ := z_bd h
            refine g_callV (a := 137) (as := [.int (5 : Int32)]) (rest := []) (c := mX12_refuse) (k1 := 0) dX12_claim_88 rfl rfl rfl sh_137 rfl rfl (Nat.le_of_ble_eq_true rfl) (Nat.le_of_ble_eq_true rfl) (by decide) ?_
            refine A_X12_refuse e56 ?_
            show z_G none 2 mX12_claim 91 [some (.ref 139), some (.int a1), some (.int a2), some (.int a3), some (.int a4), some (.int a5), none] [.int q55.1] q55.2 Q
            cases h
            exact g_iret dX12_claim_91 rfl rfl hq
          · replace h := z_ift (z_tbn.mp c54) h
            refine g_iload dX12_claim_65 rfl ?_
            refine g_i2l dX12_claim_67 ?_
            refine g_lconst (v := (1 : Int64)) dX12_claim_68 (by decide) ?_
            refine g_ldc2_w dX12_claim_69 rfl ?_
            obtain ⟨q57, e58, h⟩ := z_bd h
            refine g_callS (as := [.long a4.toInt64, .long (1 : Int64), .long (50 : Int64)]) (rest := []) (c := mX12_isIn) (k1 := 0) dX12_claim_72 rfl rfl rfl rfl rfl (Nat.le_of_ble_eq_true rfl) (Nat.le_of_ble_eq_true rfl) (by decide) ?_
            refine A_X12_isIn e58 ?_
            show z_G none 2 mX12_claim 75 [some (.ref 139), some (.int a1), some (.int a2), some (.int a3), some (.int a4), some (.int a5), none] [.int (z_tb q57.1)] q57.2 Q
            refine g_if_eq (t := 86) dX12_claim_75 (by decide) (fun c59 => ?_) (fun c59 => ?_)
            · replace h := z_iff (z_tb0.mp c59) h
              refine g_aload_n dX12_claim_86 rfl rfl ?_
              refine g_iconst (v := (5 : Int32)) dX12_claim_87 (by decide) ?_
              obtain ⟨q60, e61, h⟩ := z_bd h
              refine g_callV (a := 137) (as := [.int (5 : Int32)]) (rest := []) (c := mX12_refuse) (k1 := 0) dX12_claim_88 rfl rfl rfl sh_137 rfl rfl (Nat.le_of_ble_eq_true rfl) (Nat.le_of_ble_eq_true rfl) (by decide) ?_
              refine A_X12_refuse e61 ?_
              show z_G none 2 mX12_claim 91 [some (.ref 139), some (.int a1), some (.int a2), some (.int a3), some (.int a4), some (.int a5), none] [.int q60.1] q60.2 Q
              cases h
              exact g_iret dX12_claim_91 rfl rfl hq
            · replace h := z_ift (z_tbn.mp c59) h
              refine g_iload dX12_claim_78 rfl ?_
              obtain ⟨q62, e63, h⟩ := z_bd h
              refine g_callS (as := [.int a5]) (rest := []) (c := mX12_isPlan) (k1 := 1) dX12_claim_80 rfl rfl rfl rfl rfl (Nat.le_of_ble_eq_true rfl) (Nat.le_of_ble_eq_true rfl) (by decide) ?_
              refine A_X12_isPlan e63 ?_
              show z_G none 2 mX12_claim 83 [some (.ref 139), some (.int a1), some (.int a2), some (.int a3), some (.int a4), some (.int a5), none] [.int (z_tb q62.1)] q62.2 Q
              refine g_if_ne (t := 92) dX12_claim_83 (by decide) (fun c64 => ?_) (fun c64 => ?_)
              · replace h := z_ift (z_tbn.mp c64) h
                refine g_aload_n dX12_claim_92 rfl rfl ?_
                refine g_get (a := 137) (v := .ref 144) dX12_claim_93 f_12_35 sh_137 rfl rfl ?_
                refine g_iconst (v := (0 : Int32)) dX12_claim_96 (by decide) ?_
                refine g_ialN (a := 142) (j := 0) (v := q62.2.1 142 0) dX12_claim_97 sh_142 rfl (by decide) rfl ?_
                refine g_istore (ls' := [some (.ref 139), some (.int a1), some (.int a2), some (.int a3), some (.int a4), some (.int a5), some (.int (q62.2.1 142 0))]) dX12_claim_98 (Nat.le_of_ble_eq_true rfl) rfl ?_
                refine g_iload dX12_claim_100 rfl ?_
                refine g_bipush (v := (8 : Int32)) dX12_claim_102 (by decide) ?_
                refine g_ic_ne (t := 114) dX12_claim_104 (by decide) (fun c65 => ?_) (fun c65 => ?_)
                · replace h := z_iff c65 h
                  refine g_aload_n dX12_claim_114 rfl rfl ?_
                  refine g_iconst (v := (0 : Int32)) dX12_claim_115 (by decide) ?_
                  refine g_iload dX12_claim_116 rfl ?_
                  refine g_iload_n dX12_claim_118 rfl rfl ?_
                  refine g_iload_n dX12_claim_119 rfl rfl ?_
                  refine g_iload_n dX12_claim_120 rfl rfl ?_
                  refine g_iload dX12_claim_121 rfl ?_
                  refine g_iload dX12_claim_123 rfl ?_
                  obtain ⟨q66, e67, h⟩ := z_bd h
                  refine g_callV (a := 137) (as := [.int (0 : Int32), .int (q62.2.1 142 0), .int a1, .int a2, .int a3, .int a4, .int a5]) (rest := []) (c := mX12_grants) (k1 := 0) dX12_claim_125 rfl rfl rfl sh_137 rfl rfl (Nat.le_of_ble_eq_true rfl) (Nat.le_of_ble_eq_true rfl) (by decide) ?_
                  refine A_X12_grants e67 ?_
                  show z_G none 2 mX12_claim 128 [some (.ref 139), some (.int a1), some (.int a2), some (.int a3), some (.int a4), some (.int a5), some (.int (q62.2.1 142 0))] [] q66.2 Q
                  refine g_iload dX12_claim_128 rfl ?_
                  cases h
                  exact g_iret dX12_claim_130 rfl rfl hq
                · replace h := z_ift c65 h
                  refine g_aload_n dX12_claim_107 rfl rfl ?_
                  refine g_bipush (v := (7 : Int32)) dX12_claim_108 (by decide) ?_
                  obtain ⟨q68, e69, h⟩ := z_bd h
                  refine g_callV (a := 137) (as := [.int (7 : Int32)]) (rest := []) (c := mX12_refuse) (k1 := 0) dX12_claim_110 rfl rfl rfl sh_137 rfl rfl (Nat.le_of_ble_eq_true rfl) (Nat.le_of_ble_eq_true rfl) (by decide) ?_
                  refine A_X12_refuse e69 ?_
                  show z_G none 2 mX12_claim 113 [some (.ref 139), some (.int a1), some (.int a2), some (.int a3), some (.int a4), some (.int a5), some (.int (q62.2.1 142 0))] [.int q68.1] q68.2 Q
                  cases h
                  exact g_iret dX12_claim_113 rfl rfl hq
              · replace h := z_iff (z_tb0.mp c64) h
                refine g_aload_n dX12_claim_86 rfl rfl ?_
                refine g_iconst (v := (5 : Int32)) dX12_claim_87 (by decide) ?_
                obtain ⟨q70, e71, h⟩ := z_bd h
                refine g_callV (a := 137) (as := [.int (5 : Int32)]) (rest := []) (c := mX12_refuse) (k1 := 0) dX12_claim_88 rfl rfl rfl sh_137 rfl rfl (Nat.le_of_ble_eq_true rfl) (Nat.le_of_ble_eq_true rfl) (by decide) ?_
                refine A_X12_refuse e71 ?_
                show z_G none 2 mX12_claim 91 [some (.ref 139), some (.int a1), some (.int a2), some (.int a3), some (.int a4), some (.int a5), none] [.int q70.1] q70.2 Q
                cases h
                exact g_iret dX12_claim_91 rfl rfl hq
        · replace h := z_ift c51 h
          refine g_ldc2_w dX12_claim_52 rfl ?_
          refine g_goto (t := 59) dX12_claim_55 (by decide) ?_
          obtain ⟨q72, e73, h⟩ := z_bd h
          refine g_callS (as := [.long a3.toInt64, .long (1 : Int64), .long (6 : Int64)]) (rest := []) (c := mX12_isIn) (k1 := 0) dX12_claim_59 rfl rfl rfl rfl rfl (Nat.le_of_ble_eq_true rfl) (Nat.le_of_ble_eq_true rfl) (by decide) ?_
          refine A_X12_isIn e73 ?_
          show z_G none 2 mX12_claim 62 [some (.ref 139), some (.int a1), some (.int a2), some (.int a3), some (.int a4), some (.int a5), none] [.int (z_tb q72.1)] q72.2 Q
          refine g_if_eq (t := 86) dX12_claim_62 (by decide) (fun c74 => ?_) (fun c74 => ?_)
          · replace h := z_iff (z_tb0.mp c74) h
            refine g_aload_n dX12_claim_86 rfl rfl ?_
            refine g_iconst (v := (5 : Int32)) dX12_claim_87 (by decide) ?_
            obtain ⟨q75, e76, h⟩ := z_bd h
            refine g_callV (a := 137) (as := [.int (5 : Int32)]) (rest := []) (c := mX12_refuse) (k1 := 0) dX12_claim_88 rfl rfl rfl sh_137 rfl rfl (Nat.le_of_ble_eq_true rfl) (Nat.le_of_ble_eq_true rfl) (by decide) ?_
            refine A_X12_refuse e76 ?_
            show z_G none 2 mX12_claim 91 [some (.ref 139), some (.int a1), some (.int a2), some (.int a3), some (.int a4), some (.int a5), none] [.int q75.1] q75.2 Q
            cases h
            exact g_iret dX12_claim_91 rfl rfl hq
          · replace h := z_ift (z_tbn.mp c74) h
            refine g_iload dX12_claim_65 rfl ?_
            refine g_i2l dX12_claim_67 ?_
            refine g_lconst (v := (1 : Int64)) dX12_claim_68 (by decide) ?_
            refine g_ldc2_w dX12_claim_69 rfl ?_
            obtain ⟨q77, e78, h⟩ := z_bd h
            refine g_callS (as := [.long a4.toInt64, .long (1 : Int64), .long (50 : Int64)]) (rest := []) (c := mX12_isIn) (k1 := 0) dX12_claim_72 rfl rfl rfl rfl rfl (Nat.le_of_ble_eq_true rfl) (Nat.le_of_ble_eq_true rfl) (by decide) ?_
            refine A_X12_isIn e78 ?_
            show z_G none 2 mX12_claim 75 [some (.ref 139), some (.int a1), some (.int a2), some (.int a3), some (.int a4), some (.int a5), none] [.int (z_tb q77.1)] q77.2 Q
            refine g_if_eq (t := 86) dX12_claim_75 (by decide) (fun c79 => ?_) (fun c79 => ?_)
            · replace h := z_iff (z_tb0.mp c79) h
              refine g_aload_n dX12_claim_86 rfl rfl ?_
              refine g_iconst (v := (5 : Int32)) dX12_claim_87 (by decide) ?_
              obtain ⟨q80, e81, h⟩ := z_bd h
              refine g_callV (a := 137) (as := [.int (5 : Int32)]) (rest := []) (c := mX12_refuse) (k1 := 0) dX12_claim_88 rfl rfl rfl sh_137 rfl rfl (Nat.le_of_ble_eq_true rfl) (Nat.le_of_ble_eq_true rfl) (by decide) ?_
              refine A_X12_refuse e81 ?_
              show z_G none 2 mX12_claim 91 [some (.ref 139), some (.int a1), some (.int a2), some (.int a3), some (.int a4), some (.int a5), none] [.int q80.1] q80.2 Q
              cases h
              exact g_iret dX12_claim_91 rfl rfl hq
            · replace h := z_ift (z_tbn.mp c79) h
              refine g_iload dX12_claim_78 rfl ?_
              obtain ⟨q82, e83, h⟩ := z_bd h
              refine g_callS (as := [.int a5]) (rest := []) (c := mX12_isPlan) (k1 := 1) dX12_claim_80 rfl rfl rfl rfl rfl (Nat.le_of_ble_eq_true rfl) (Nat.le_of_ble_eq_true rfl) (by decide) ?_
              refine A_X12_isPlan e83 ?_
              show z_G none 2 mX12_claim 83 [some (.ref 139), some (.int a1), some (.int a2), some (.int a3), some (.int a4), some (.int a5), none] [.int (z_tb q82.1)] q82.2 Q
              refine g_if_ne (t := 92) dX12_claim_83 (by decide) (fun c84 => ?_) (fun c84 => ?_)
              · replace h := z_ift (z_tbn.mp c84) h
                refine g_aload_n dX12_claim_92 rfl rfl ?_
                refine g_get (a := 137) (v := .ref 144) dX12_claim_93 f_12_35 sh_137 rfl rfl ?_
                refine g_iconst (v := (0 : Int32)) dX12_claim_96 (by decide) ?_
                refine g_ialN (a := 142) (j := 0) (v := q82.2.1 142 0) dX12_claim_97 sh_142 rfl (by decide) rfl ?_
                refine g_istore (ls' := [some (.ref 139), some (.int a1), some (.int a2), some (.int a3), some (.int a4), some (.int a5), some (.int (q82.2.1 142 0))]) dX12_claim_98 (Nat.le_of_ble_eq_true rfl) rfl ?_
                refine g_iload dX12_claim_100 rfl ?_
                refine g_bipush (v := (8 : Int32)) dX12_claim_102 (by decide) ?_
                refine g_ic_ne (t := 114) dX12_claim_104 (by decide) (fun c85 => ?_) (fun c85 => ?_)
                · replace h := z_iff c85 h
                  refine g_aload_n dX12_claim_114 rfl rfl ?_
                  refine g_iconst (v := (0 : Int32)) dX12_claim_115 (by decide) ?_
                  refine g_iload dX12_claim_116 rfl ?_
                  refine g_iload_n dX12_claim_118 rfl rfl ?_
                  refine g_iload_n dX12_claim_119 rfl rfl ?_
                  refine g_iload_n dX12_claim_120 rfl rfl ?_
                  refine g_iload dX12_claim_121 rfl ?_
                  refine g_iload dX12_claim_123 rfl ?_
                  obtain ⟨q86, e87, h⟩ := z_bd h
                  refine g_callV (a := 137) (as := [.int (0 : Int32), .int (q82.2.1 142 0), .int a1, .int a2, .int a3, .int a4, .int a5]) (rest := []) (c := mX12_grants) (k1 := 0) dX12_claim_125 rfl rfl rfl sh_137 rfl rfl (Nat.le_of_ble_eq_true rfl) (Nat.le_of_ble_eq_true rfl) (by decide) ?_
                  refine A_X12_grants e87 ?_
                  show z_G none 2 mX12_claim 128 [some (.ref 139), some (.int a1), some (.int a2), some (.int a3), some (.int a4), some (.int a5), some (.int (q82.2.1 142 0))] [] q86.2 Q
                  refine g_iload dX12_claim_128 rfl ?_
                  cases h
                  exact g_iret dX12_claim_130 rfl rfl hq
                · replace h := z_ift c85 h
                  refine g_aload_n dX12_claim_107 rfl rfl ?_
                  refine g_bipush (v := (7 : Int32)) dX12_claim_108 (by decide) ?_
                  obtain ⟨q88, e89, h⟩ := z_bd h
                  refine g_callV (a := 137) (as := [.int (7 : Int32)]) (rest := []) (c := mX12_refuse) (k1 := 0) dX12_claim_110 rfl rfl rfl sh_137 rfl rfl (Nat.le_of_ble_eq_true rfl) (Nat.le_of_ble_eq_true rfl) (by decide) ?_
                  refine A_X12_refuse e89 ?_
                  show z_G none 2 mX12_claim 113 [some (.ref 139), some (.int a1), some (.int a2), some (.int a3), some (.int a4), some (.int a5), some (.int (q82.2.1 142 0))] [.int q88.1] q88.2 Q
                  cases h
                  exact g_iret dX12_claim_113 rfl rfl hq
              · replace h := z_iff (z_tb0.mp c84) h
                refine g_aload_n dX12_claim_86 rfl rfl ?_
                refine g_iconst (v := (5 : Int32)) dX12_claim_87 (by decide) ?_
                obtain ⟨q90, e91, h⟩ := z_bd h
                refine g_callV (a := 137) (as := [.int (5 : Int32)]) (rest := []) (c := mX12_refuse) (k1 := 0) dX12_claim_88 rfl rfl rfl sh_137 rfl rfl (Nat.le_of_ble_eq_true rfl) (Nat.le_of_ble_eq_true rfl) (by decide) ?_
                refine A_X12_refuse e91 ?_
                show z_G none 2 mX12_claim 91 [some (.ref 139), some (.int a1), some (.int a2), some (.int a3), some (.int a4), some (.int a5), none] [.int q90.1] q90.2 Q
                cases h
                exact g_iret dX12_claim_91 rfl rfl hq
  · replace h := z_iff (z_tb0.mp c3) h
    refine g_aload_n dX12_claim_17 rfl rfl ?_
    refine g_iconst (v := (2 : Int32)) dX12_claim_18 (by decide) ?_
    obtain ⟨q92, e93, h⟩ := z_bd h
    refine g_callV (a := 137) (as := [.int (2 : Int32)]) (rest := []) (c := mX12_refuse) (k1 := 0) dX12_claim_19 rfl rfl rfl sh_137 rfl rfl (Nat.le_of_ble_eq_true rfl) (Nat.le_of_ble_eq_true rfl) (by decide) ?_
    refine A_X12_refuse e93 ?_
    show z_G none 2 mX12_claim 22 [some (.ref 139), some (.int a1), some (.int a2), some (.int a3), some (.int a4), some (.int a5), none] [.int q92.1] q92.2 Q
    cases h
    exact g_iret dX12_claim_22 rfl rfl hq
theorem dX12_rule_0 : decode cX12_rule 0 = .ok (.aload_n 0, 1) := by decide +kernel
theorem dX12_rule_1 : decode cX12_rule 1 = .ok (.iconst 0, 1) := by decide +kernel
theorem dX12_rule_2 : decode cX12_rule 2 = .ok (.putfield 57, 3) := by decide +kernel
theorem dX12_rule_5 : decode cX12_rule 5 = .ok (.aload_n 0, 1) := by decide +kernel
theorem dX12_rule_6 : decode cX12_rule 6 = .ok (.iconst 0, 1) := by decide +kernel
theorem dX12_rule_7 : decode cX12_rule 7 = .ok (.putfield 60, 3) := by decide +kernel
theorem dX12_rule_10 : decode cX12_rule 10 = .ok (.iload_n 1, 1) := by decide +kernel
theorem dX12_rule_11 : decode cX12_rule 11 = .ok (.i2l, 1) := by decide +kernel
theorem dX12_rule_12 : decode cX12_rule 12 = .ok (.ldc2_w 405, 3) := by decide +kernel
theorem dX12_rule_15 : decode cX12_rule 15 = .ok (.ldc2_w 407, 3) := by decide +kernel
theorem dX12_rule_18 : decode cX12_rule 18 = .ok (.invokestatic 92, 3) := by decide +kernel
theorem dX12_rule_21 : decode cX12_rule 21 = .ok (.ifCond .eq 26, 3) := by decide +kernel
theorem dX12_rule_24 : decode cX12_rule 24 = .ok (.iload_n 2, 1) := by decide +kernel
theorem dX12_rule_25 : decode cX12_rule 25 = .ok (.i2l, 1) := by decide +kernel
theorem dX12_rule_26 : decode cX12_rule 26 = .ok (.lconst 0, 1) := by decide +kernel
theorem dX12_rule_27 : decode cX12_rule 27 = .ok (.iload_n 1, 1) := by decide +kernel
theorem dX12_rule_28 : decode cX12_rule 28 = .ok (.iconst 5, 1) := by decide +kernel
theorem dX12_rule_29 : decode cX12_rule 29 = .ok (.if_icmp .ne 9, 3) := by decide +kernel
theorem dX12_rule_32 : decode cX12_rule 32 = .ok (.ldc2_w 409, 3) := by decide +kernel
theorem dX12_rule_35 : decode cX12_rule 35 = .ok (.goto 6, 3) := by decide +kernel
theorem dX12_rule_38 : decode cX12_rule 38 = .ok (.ldc2_w 379, 3) := by decide +kernel
theorem dX12_rule_41 : decode cX12_rule 41 = .ok (.invokestatic 92, 3) := by decide +kernel
theorem dX12_rule_44 : decode cX12_rule 44 = .ok (.ifCond .ne 9, 3) := by decide +kernel
theorem dX12_rule_47 : decode cX12_rule 47 = .ok (.aload_n 0, 1) := by decide +kernel
theorem dX12_rule_48 : decode cX12_rule 48 = .ok (.iconst 5, 1) := by decide +kernel
theorem dX12_rule_49 : decode cX12_rule 49 = .ok (.invokevirtual 72, 3) := by decide +kernel
theorem dX12_rule_52 : decode cX12_rule 52 = .ok (.ireturn, 1) := by decide +kernel
theorem dX12_rule_53 : decode cX12_rule 53 = .ok (.aload_n 0, 1) := by decide +kernel
theorem dX12_rule_54 : decode cX12_rule 54 = .ok (.getfield 35, 3) := by decide +kernel
theorem dX12_rule_57 : decode cX12_rule 57 = .ok (.iload_n 1, 1) := by decide +kernel
theorem dX12_rule_58 : decode cX12_rule 58 = .ok (.iload_n 2, 1) := by decide +kernel
theorem dX12_rule_59 : decode cX12_rule 59 = .ok (.iastore, 1) := by decide +kernel
theorem dX12_rule_60 : decode cX12_rule 60 = .ok (.iconst 1, 1) := by decide +kernel
theorem dX12_rule_61 : decode cX12_rule 61 = .ok (.ireturn, 1) := by decide +kernel
def F_X12_rule (w : Nat) (M : z_Mem) (a1 : Int32) (a2 : Int32) : Option (Bool × z_Mem) :=
  (F_X12_isIn w (z_wI (z_wI M 137 1 (0 : Int32)) 137 0 (0 : Int32)) a1.toInt64 (5 : Int64) (7 : Int64)).bind fun q1 =>
  if q1.1 = true then
  if a1 = (5 : Int32) then
  (F_X12_isIn w q1.2 a2.toInt64 (0 : Int64) (16 : Int64)).bind fun q13 =>
  if q13.1 = true then
  if a1 < 0 ∨ 1875 ≤ a1.toNatClampNeg then none else
  some (true, (z_wI q13.2 142 a1.toNatClampNeg a2))
  else
  (F_X12_no w q13.2 (5 : Int32)).bind fun q17 =>
  some (q17.1, q17.2)
  else
  (F_X12_isIn w q1.2 a2.toInt64 (0 : Int64) (99 : Int64)).bind fun q7 =>
  if q7.1 = true then
  if a1 < 0 ∨ 1875 ≤ a1.toNatClampNeg then none else
  some (true, (z_wI q7.2 142 a1.toNatClampNeg a2))
  else
  (F_X12_no w q7.2 (5 : Int32)).bind fun q11 =>
  some (q11.1, q11.2)
  else
  (F_X12_no w q1.2 (5 : Int32)).bind fun q4 =>
  some (q4.1, q4.2)
set_option maxHeartbeats 4000000 in
theorem A_X12_rule {w : Nat} {M : z_Mem} {a1 : Int32} {a2 : Int32} {r : Bool} {M' : z_Mem} {Q : Option Value → z_Mem → Prop} (h : F_X12_rule w M a1 a2 = some (r, M')) (hq : Q (some (.int (z_tb r))) M') : z_Cl 1 mX12_rule [.ref 139, .int a1, .int a2] M Q := by
  refine g_in (ls := [some (.ref 139), some (.int a1), some (.int a2)]) rfl ?_
  unfold F_X12_rule at h
  refine g_aload_n dX12_rule_0 rfl rfl ?_
  refine g_iconst (v := (0 : Int32)) dX12_rule_1 (by decide) ?_
  refine g_putI (a := 137) dX12_rule_2 f_12_57 sh_137 rfl rfl rfl ?_
  refine g_aload_n dX12_rule_5 rfl rfl ?_
  refine g_iconst (v := (0 : Int32)) dX12_rule_6 (by decide) ?_
  refine g_putI (a := 137) dX12_rule_7 f_12_60 sh_137 rfl rfl rfl ?_
  refine g_iload_n dX12_rule_10 rfl rfl ?_
  refine g_i2l dX12_rule_11 ?_
  refine g_ldc2_w dX12_rule_12 rfl ?_
  refine g_ldc2_w dX12_rule_15 rfl ?_
  obtain ⟨q1, e2, h⟩ := z_bd h
  refine g_callS (as := [.long a1.toInt64, .long (5 : Int64), .long (7 : Int64)]) (rest := []) (c := mX12_isIn) (k1 := 0) dX12_rule_18 rfl rfl rfl rfl rfl (Nat.le_of_ble_eq_true rfl) (Nat.le_of_ble_eq_true rfl) (by decide) ?_
  refine A_X12_isIn e2 ?_
  show z_G none 1 mX12_rule 21 [some (.ref 139), some (.int a1), some (.int a2)] [.int (z_tb q1.1)] q1.2 Q
  refine g_if_eq (t := 47) dX12_rule_21 (by decide) (fun c3 => ?_) (fun c3 => ?_)
  · replace h := z_iff (z_tb0.mp c3) h
    refine g_aload_n dX12_rule_47 rfl rfl ?_
    refine g_iconst (v := (5 : Int32)) dX12_rule_48 (by decide) ?_
    obtain ⟨q4, e5, h⟩ := z_bd h
    refine g_callV (a := 137) (as := [.int (5 : Int32)]) (rest := []) (c := mX12_no) (k1 := 0) dX12_rule_49 rfl rfl rfl sh_137 rfl rfl (Nat.le_of_ble_eq_true rfl) (Nat.le_of_ble_eq_true rfl) (by decide) ?_
    refine A_X12_no e5 ?_
    show z_G none 1 mX12_rule 52 [some (.ref 139), some (.int a1), some (.int a2)] [.int (z_tb q4.1)] q4.2 Q
    cases h
    exact g_iret dX12_rule_52 rfl nb_tb hq
  · replace h := z_ift (z_tbn.mp c3) h
    refine g_iload_n dX12_rule_24 rfl rfl ?_
    refine g_i2l dX12_rule_25 ?_
    refine g_lconst (v := (0 : Int64)) dX12_rule_26 (by decide) ?_
    refine g_iload_n dX12_rule_27 rfl rfl ?_
    refine g_iconst (v := (5 : Int32)) dX12_rule_28 (by decide) ?_
    refine g_ic_ne (t := 38) dX12_rule_29 (by decide) (fun c6 => ?_) (fun c6 => ?_)
    · replace h := z_iff c6 h
      refine g_ldc2_w dX12_rule_38 rfl ?_
      obtain ⟨q7, e8, h⟩ := z_bd h
      refine g_callS (as := [.long a2.toInt64, .long (0 : Int64), .long (99 : Int64)]) (rest := []) (c := mX12_isIn) (k1 := 0) dX12_rule_41 rfl rfl rfl rfl rfl (Nat.le_of_ble_eq_true rfl) (Nat.le_of_ble_eq_true rfl) (by decide) ?_
      refine A_X12_isIn e8 ?_
      show z_G none 1 mX12_rule 44 [some (.ref 139), some (.int a1), some (.int a2)] [.int (z_tb q7.1)] q7.2 Q
      refine g_if_ne (t := 53) dX12_rule_44 (by decide) (fun c9 => ?_) (fun c9 => ?_)
      · replace h := z_ift (z_tbn.mp c9) h
        refine g_aload_n dX12_rule_53 rfl rfl ?_
        refine g_get (a := 137) (v := .ref 144) dX12_rule_54 f_12_35 sh_137 rfl rfl ?_
        refine g_iload_n dX12_rule_57 rfl rfl ?_
        refine g_iload_n dX12_rule_58 rfl rfl ?_
        by_cases g10 : a1 < 0 ∨ 1875 ≤ a1.toNatClampNeg
        · rw [if_pos g10] at h; cases h
        replace h := z_iff g10 h
        refine g_iast (a := 142) dX12_rule_59 sh_142 g10 ?_
        refine g_iconst (v := (1 : Int32)) dX12_rule_60 (by decide) ?_
        cases h
        exact g_iret dX12_rule_61 rfl rfl hq
      · replace h := z_iff (z_tb0.mp c9) h
        refine g_aload_n dX12_rule_47 rfl rfl ?_
        refine g_iconst (v := (5 : Int32)) dX12_rule_48 (by decide) ?_
        obtain ⟨q11, e12, h⟩ := z_bd h
        refine g_callV (a := 137) (as := [.int (5 : Int32)]) (rest := []) (c := mX12_no) (k1 := 0) dX12_rule_49 rfl rfl rfl sh_137 rfl rfl (Nat.le_of_ble_eq_true rfl) (Nat.le_of_ble_eq_true rfl) (by decide) ?_
        refine A_X12_no e12 ?_
        show z_G none 1 mX12_rule 52 [some (.ref 139), some (.int a1), some (.int a2)] [.int (z_tb q11.1)] q11.2 Q
        cases h
        exact g_iret dX12_rule_52 rfl nb_tb hq
    · replace h := z_ift c6 h
      refine g_ldc2_w dX12_rule_32 rfl ?_
      refine g_goto (t := 41) dX12_rule_35 (by decide) ?_
      obtain ⟨q13, e14, h⟩ := z_bd h
      refine g_callS (as := [.long a2.toInt64, .long (0 : Int64), .long (16 : Int64)]) (rest := []) (c := mX12_isIn) (k1 := 0) dX12_rule_41 rfl rfl rfl rfl rfl (Nat.le_of_ble_eq_true rfl) (Nat.le_of_ble_eq_true rfl) (by decide) ?_
      refine A_X12_isIn e14 ?_
      show z_G none 1 mX12_rule 44 [some (.ref 139), some (.int a1), some (.int a2)] [.int (z_tb q13.1)] q13.2 Q
      refine g_if_ne (t := 53) dX12_rule_44 (by decide) (fun c15 => ?_) (fun c15 => ?_)
      · replace h := z_ift (z_tbn.mp c15) h
        refine g_aload_n dX12_rule_53 rfl rfl ?_
        refine g_get (a := 137) (v := .ref 144) dX12_rule_54 f_12_35 sh_137 rfl rfl ?_
        refine g_iload_n dX12_rule_57 rfl rfl ?_
        refine g_iload_n dX12_rule_58 rfl rfl ?_
        by_cases g16 : a1 < 0 ∨ 1875 ≤ a1.toNatClampNeg
        · rw [if_pos g16] at h; cases h
        replace h := z_iff g16 h
        refine g_iast (a := 142) dX12_rule_59 sh_142 g16 ?_
        refine g_iconst (v := (1 : Int32)) dX12_rule_60 (by decide) ?_
        cases h
        exact g_iret dX12_rule_61 rfl rfl hq
      · replace h := z_iff (z_tb0.mp c15) h
        refine g_aload_n dX12_rule_47 rfl rfl ?_
        refine g_iconst (v := (5 : Int32)) dX12_rule_48 (by decide) ?_
        obtain ⟨q17, e18, h⟩ := z_bd h
        refine g_callV (a := 137) (as := [.int (5 : Int32)]) (rest := []) (c := mX12_no) (k1 := 0) dX12_rule_49 rfl rfl rfl sh_137 rfl rfl (Nat.le_of_ble_eq_true rfl) (Nat.le_of_ble_eq_true rfl) (by decide) ?_
        refine A_X12_no e18 ?_
        show z_G none 1 mX12_rule 52 [some (.ref 139), some (.int a1), some (.int a2)] [.int (z_tb q17.1)] q17.2 Q
        cases h
        exact g_iret dX12_rule_52 rfl nb_tb hq
theorem dX12_keeps_0 : decode cX12_keeps 0 = .ok (.iconst 0, 1) := by decide +kernel
theorem dX12_keeps_1 : decode cX12_keeps 1 = .ok (.istore_n 1, 1) := by decide +kernel
theorem dX12_keeps_2 : decode cX12_keeps 2 = .ok (.iload_n 1, 1) := by decide +kernel
theorem dX12_keeps_3 : decode cX12_keeps 3 = .ok (.bipush 103, 2) := by decide +kernel
theorem dX12_keeps_5 : decode cX12_keeps 5 = .ok (.if_icmp .ge 21, 3) := by decide +kernel
theorem dX12_keeps_8 : decode cX12_keeps 8 = .ok (.aload_n 0, 1) := by decide +kernel
theorem dX12_keeps_9 : decode cX12_keeps 9 = .ok (.getfield 38, 3) := by decide +kernel
theorem dX12_keeps_12 : decode cX12_keeps 12 = .ok (.iload_n 1, 1) := by decide +kernel
theorem dX12_keeps_13 : decode cX12_keeps 13 = .ok (.aload_n 0, 1) := by decide +kernel
theorem dX12_keeps_14 : decode cX12_keeps 14 = .ok (.getfield 35, 3) := by decide +kernel
theorem dX12_keeps_17 : decode cX12_keeps 17 = .ok (.iload_n 1, 1) := by decide +kernel
theorem dX12_keeps_18 : decode cX12_keeps 18 = .ok (.iaload, 1) := by decide +kernel
theorem dX12_keeps_19 : decode cX12_keeps 19 = .ok (.iastore, 1) := by decide +kernel
theorem dX12_keeps_20 : decode cX12_keeps 20 = .ok (.iinc 1 1, 3) := by decide +kernel
theorem dX12_keeps_23 : decode cX12_keeps 23 = .ok (.goto (-21), 3) := by decide +kernel
theorem dX12_keeps_26 : decode cX12_keeps 26 = .ok (.return_, 1) := by decide +kernel
def L_X12_keeps (w : Nat) : Nat → z_Mem → Int32 → Option (Unit × z_Mem)
  | 0, _, _ => none
  | c + 1, M, x1 =>
    if (103 : Int32) ≤ x1 then
    some ((), M)
    else
    if x1 < 0 ∨ 1875 ≤ x1.toNatClampNeg then none else
    if x1 < 0 ∨ 103 ≤ x1.toNatClampNeg then none else
    L_X12_keeps w c (z_wI M 143 x1.toNatClampNeg (M.1 142 x1.toNatClampNeg)) (x1 + (1 : Int32))
set_option maxHeartbeats 4000000 in
theorem AL_X12_keeps {w : Nat} : ∀ (c : Nat), (∀ (M : z_Mem) (x1 : Int32) (r : Unit) (M' : z_Mem) (Q : Option Value → z_Mem → Prop), L_X12_keeps w c M x1 = some (r, M') → Q none M' → z_G none 0 mX12_keeps 2 [some (.ref 139), some (.int x1)] [] M Q) := by
  intro c
  induction c with
  | zero => exact (fun M x1 r M' Q h hq => by rw [L_X12_keeps] at h; cases h)
  | succ c ih =>
    intro M x1 r M' Q h hq
    rw [L_X12_keeps] at h
    refine g_iload_n dX12_keeps_2 rfl rfl ?_
    refine g_bipush (v := (103 : Int32)) dX12_keeps_3 (by decide) ?_
    refine g_ic_ge (t := 26) dX12_keeps_5 (by decide) (fun c1 => ?_) (fun c1 => ?_)
    · replace h := z_ift c1 h
      cases h
      exact g_vret dX12_keeps_26 rfl hq
    · replace h := z_iff c1 h
      refine g_aload_n dX12_keeps_8 rfl rfl ?_
      refine g_get (a := 137) (v := .ref 145) dX12_keeps_9 f_12_38 sh_137 rfl rfl ?_
      refine g_iload_n dX12_keeps_12 rfl rfl ?_
      refine g_aload_n dX12_keeps_13 rfl rfl ?_
      refine g_get (a := 137) (v := .ref 144) dX12_keeps_14 f_12_35 sh_137 rfl rfl ?_
      refine g_iload_n dX12_keeps_17 rfl rfl ?_
      by_cases g2 : x1 < 0 ∨ 1875 ≤ x1.toNatClampNeg
      · rw [if_pos g2] at h; cases h
      replace h := z_iff g2 h
      refine g_iald (a := 142) dX12_keeps_18 sh_142 g2 ?_
      by_cases g3 : x1 < 0 ∨ 103 ≤ x1.toNatClampNeg
      · rw [if_pos g3] at h; cases h
      replace h := z_iff g3 h
      refine g_iast (a := 143) dX12_keeps_19 sh_143 g3 ?_
      refine g_iinc (v := x1 + (1 : Int32)) (ls' := [some (.ref 139), some (.int (x1 + (1 : Int32)))]) dX12_keeps_20 rfl rfl rfl ?_
      refine g_goto (t := 2) dX12_keeps_23 (by decide) ?_
      exact g_sub (z_sub_s (z_sub_s z_sub_nil)) (ih _ _ _ _ _ h hq)
def F_X12_keeps (w : Nat) (M : z_Mem) : Option (Unit × z_Mem) :=
  L_X12_keeps w w M (0 : Int32)
set_option maxHeartbeats 4000000 in
theorem A_X12_keeps {w : Nat} {M : z_Mem} {r : Unit} {M' : z_Mem} {Q : Option Value → z_Mem → Prop} (h : F_X12_keeps w M = some (r, M')) (hq : Q none M') : z_Cl 0 mX12_keeps [.ref 139] M Q := by
  refine g_in (ls := [some (.ref 139), none]) rfl ?_
  unfold F_X12_keeps at h
  refine g_iconst (v := (0 : Int32)) dX12_keeps_0 (by decide) ?_
  refine g_istore_n (ls' := [some (.ref 139), some (.int (0 : Int32))]) dX12_keeps_1 rfl (Nat.le_of_ble_eq_true rfl) rfl ?_
  exact g_sub (z_sub_s (z_sub_s z_sub_nil)) ((AL_X12_keeps (w := w) w) _ _ _ _ _ h hq)
theorem dX12_restores_0 : decode cX12_restores 0 = .ok (.iconst 0, 1) := by decide +kernel
theorem dX12_restores_1 : decode cX12_restores 1 = .ok (.istore_n 1, 1) := by decide +kernel
theorem dX12_restores_2 : decode cX12_restores 2 = .ok (.iload_n 1, 1) := by decide +kernel
theorem dX12_restores_3 : decode cX12_restores 3 = .ok (.bipush 103, 2) := by decide +kernel
theorem dX12_restores_5 : decode cX12_restores 5 = .ok (.if_icmp .ge 21, 3) := by decide +kernel
theorem dX12_restores_8 : decode cX12_restores 8 = .ok (.aload_n 0, 1) := by decide +kernel
theorem dX12_restores_9 : decode cX12_restores 9 = .ok (.getfield 35, 3) := by decide +kernel
theorem dX12_restores_12 : decode cX12_restores 12 = .ok (.iload_n 1, 1) := by decide +kernel
theorem dX12_restores_13 : decode cX12_restores 13 = .ok (.aload_n 0, 1) := by decide +kernel
theorem dX12_restores_14 : decode cX12_restores 14 = .ok (.getfield 38, 3) := by decide +kernel
theorem dX12_restores_17 : decode cX12_restores 17 = .ok (.iload_n 1, 1) := by decide +kernel
theorem dX12_restores_18 : decode cX12_restores 18 = .ok (.iaload, 1) := by decide +kernel
theorem dX12_restores_19 : decode cX12_restores 19 = .ok (.iastore, 1) := by decide +kernel
theorem dX12_restores_20 : decode cX12_restores 20 = .ok (.iinc 1 1, 3) := by decide +kernel
theorem dX12_restores_23 : decode cX12_restores 23 = .ok (.goto (-21), 3) := by decide +kernel
theorem dX12_restores_26 : decode cX12_restores 26 = .ok (.return_, 1) := by decide +kernel
def L_X12_restores (w : Nat) : Nat → z_Mem → Int32 → Option (Unit × z_Mem)
  | 0, _, _ => none
  | c + 1, M, x1 =>
    if (103 : Int32) ≤ x1 then
    some ((), M)
    else
    if x1 < 0 ∨ 103 ≤ x1.toNatClampNeg then none else
    if x1 < 0 ∨ 1875 ≤ x1.toNatClampNeg then none else
    L_X12_restores w c (z_wI M 142 x1.toNatClampNeg (M.1 143 x1.toNatClampNeg)) (x1 + (1 : Int32))
set_option maxHeartbeats 4000000 in
theorem AL_X12_restores {w : Nat} : ∀ (c : Nat), (∀ (M : z_Mem) (x1 : Int32) (r : Unit) (M' : z_Mem) (Q : Option Value → z_Mem → Prop), L_X12_restores w c M x1 = some (r, M') → Q none M' → z_G none 0 mX12_restores 2 [some (.ref 139), some (.int x1)] [] M Q) := by
  intro c
  induction c with
  | zero => exact (fun M x1 r M' Q h hq => by rw [L_X12_restores] at h; cases h)
  | succ c ih =>
    intro M x1 r M' Q h hq
    rw [L_X12_restores] at h
    refine g_iload_n dX12_restores_2 rfl rfl ?_
    refine g_bipush (v := (103 : Int32)) dX12_restores_3 (by decide) ?_
    refine g_ic_ge (t := 26) dX12_restores_5 (by decide) (fun c1 => ?_) (fun c1 => ?_)
    · replace h := z_ift c1 h
      cases h
      exact g_vret dX12_restores_26 rfl hq
    · replace h := z_iff c1 h
      refine g_aload_n dX12_restores_8 rfl rfl ?_
      refine g_get (a := 137) (v := .ref 144) dX12_restores_9 f_12_35 sh_137 rfl rfl ?_
      refine g_iload_n dX12_restores_12 rfl rfl ?_
      refine g_aload_n dX12_restores_13 rfl rfl ?_
      refine g_get (a := 137) (v := .ref 145) dX12_restores_14 f_12_38 sh_137 rfl rfl ?_
      refine g_iload_n dX12_restores_17 rfl rfl ?_
      by_cases g2 : x1 < 0 ∨ 103 ≤ x1.toNatClampNeg
      · rw [if_pos g2] at h; cases h
      replace h := z_iff g2 h
      refine g_iald (a := 143) dX12_restores_18 sh_143 g2 ?_
      by_cases g3 : x1 < 0 ∨ 1875 ≤ x1.toNatClampNeg
      · rw [if_pos g3] at h; cases h
      replace h := z_iff g3 h
      refine g_iast (a := 142) dX12_restores_19 sh_142 g3 ?_
      refine g_iinc (v := x1 + (1 : Int32)) (ls' := [some (.ref 139), some (.int (x1 + (1 : Int32)))]) dX12_restores_20 rfl rfl rfl ?_
      refine g_goto (t := 2) dX12_restores_23 (by decide) ?_
      exact g_sub (z_sub_s (z_sub_s z_sub_nil)) (ih _ _ _ _ _ h hq)
def F_X12_restores (w : Nat) (M : z_Mem) : Option (Unit × z_Mem) :=
  L_X12_restores w w M (0 : Int32)
set_option maxHeartbeats 4000000 in
theorem A_X12_restores {w : Nat} {M : z_Mem} {r : Unit} {M' : z_Mem} {Q : Option Value → z_Mem → Prop} (h : F_X12_restores w M = some (r, M')) (hq : Q none M') : z_Cl 0 mX12_restores [.ref 139] M Q := by
  refine g_in (ls := [some (.ref 139), none]) rfl ?_
  unfold F_X12_restores at h
  refine g_iconst (v := (0 : Int32)) dX12_restores_0 (by decide) ?_
  refine g_istore_n (ls' := [some (.ref 139), some (.int (0 : Int32))]) dX12_restores_1 rfl (Nat.le_of_ble_eq_true rfl) rfl ?_
  exact g_sub (z_sub_s (z_sub_s z_sub_nil)) ((AL_X12_restores (w := w) w) _ _ _ _ _ h hq)
theorem dX12_chestIn_0 : decode cX12_chestIn 0 = .ok (.aload_n 0, 1) := by decide +kernel
theorem dX12_chestIn_1 : decode cX12_chestIn 1 = .ok (.iconst 0, 1) := by decide +kernel
theorem dX12_chestIn_2 : decode cX12_chestIn 2 = .ok (.putfield 57, 3) := by decide +kernel
theorem dX12_chestIn_5 : decode cX12_chestIn 5 = .ok (.aload_n 0, 1) := by decide +kernel
theorem dX12_chestIn_6 : decode cX12_chestIn 6 = .ok (.iconst 0, 1) := by decide +kernel
theorem dX12_chestIn_7 : decode cX12_chestIn 7 = .ok (.putfield 60, 3) := by decide +kernel
theorem dX12_chestIn_10 : decode cX12_chestIn 10 = .ok (.iload_n 1, 1) := by decide +kernel
theorem dX12_chestIn_11 : decode cX12_chestIn 11 = .ok (.invokestatic 336, 3) := by decide +kernel
theorem dX12_chestIn_14 : decode cX12_chestIn 14 = .ok (.ifCond .ne 9, 3) := by decide +kernel
theorem dX12_chestIn_17 : decode cX12_chestIn 17 = .ok (.aload_n 0, 1) := by decide +kernel
theorem dX12_chestIn_18 : decode cX12_chestIn 18 = .ok (.iconst 2, 1) := by decide +kernel
theorem dX12_chestIn_19 : decode cX12_chestIn 19 = .ok (.invokevirtual 333, 3) := by decide +kernel
theorem dX12_chestIn_22 : decode cX12_chestIn 22 = .ok (.ireturn, 1) := by decide +kernel
theorem dX12_chestIn_23 : decode cX12_chestIn 23 = .ok (.iload_n 2, 1) := by decide +kernel
theorem dX12_chestIn_24 : decode cX12_chestIn 24 = .ok (.i2l, 1) := by decide +kernel
theorem dX12_chestIn_25 : decode cX12_chestIn 25 = .ok (.lconst 0, 1) := by decide +kernel
theorem dX12_chestIn_26 : decode cX12_chestIn 26 = .ok (.ldc2_w 411, 3) := by decide +kernel
theorem dX12_chestIn_29 : decode cX12_chestIn 29 = .ok (.invokestatic 92, 3) := by decide +kernel
theorem dX12_chestIn_32 : decode cX12_chestIn 32 = .ok (.ifCond .ne 9, 3) := by decide +kernel
theorem dX12_chestIn_35 : decode cX12_chestIn 35 = .ok (.aload_n 0, 1) := by decide +kernel
theorem dX12_chestIn_36 : decode cX12_chestIn 36 = .ok (.iconst 5, 1) := by decide +kernel
theorem dX12_chestIn_37 : decode cX12_chestIn 37 = .ok (.invokevirtual 333, 3) := by decide +kernel
theorem dX12_chestIn_40 : decode cX12_chestIn 40 = .ok (.ireturn, 1) := by decide +kernel
theorem dX12_chestIn_41 : decode cX12_chestIn 41 = .ok (.aload_n 0, 1) := by decide +kernel
theorem dX12_chestIn_42 : decode cX12_chestIn 42 = .ok (.invokevirtual 413, 3) := by decide +kernel
theorem dX12_chestIn_45 : decode cX12_chestIn 45 = .ok (.iconst 0, 1) := by decide +kernel
theorem dX12_chestIn_46 : decode cX12_chestIn 46 = .ok (.istore_n 3, 1) := by decide +kernel
theorem dX12_chestIn_47 : decode cX12_chestIn 47 = .ok (.iload_n 3, 1) := by decide +kernel
theorem dX12_chestIn_48 : decode cX12_chestIn 48 = .ok (.iload_n 2, 1) := by decide +kernel
theorem dX12_chestIn_49 : decode cX12_chestIn 49 = .ok (.if_icmp .ge 13, 3) := by decide +kernel
theorem dX12_chestIn_52 : decode cX12_chestIn 52 = .ok (.aload_n 0, 1) := by decide +kernel
theorem dX12_chestIn_53 : decode cX12_chestIn 53 = .ok (.invokevirtual 381, 3) := by decide +kernel
theorem dX12_chestIn_56 : decode cX12_chestIn 56 = .ok (.iinc 3 1, 3) := by decide +kernel
theorem dX12_chestIn_59 : decode cX12_chestIn 59 = .ok (.goto (-12), 3) := by decide +kernel
theorem dX12_chestIn_62 : decode cX12_chestIn 62 = .ok (.aload_n 0, 1) := by decide +kernel
theorem dX12_chestIn_63 : decode cX12_chestIn 63 = .ok (.getfield 35, 3) := by decide +kernel
theorem dX12_chestIn_66 : decode cX12_chestIn 66 = .ok (.bipush 12, 2) := by decide +kernel
theorem dX12_chestIn_68 : decode cX12_chestIn 68 = .ok (.iload_n 1, 1) := by decide +kernel
theorem dX12_chestIn_69 : decode cX12_chestIn 69 = .ok (.iadd, 1) := by decide +kernel
theorem dX12_chestIn_70 : decode cX12_chestIn 70 = .ok (.iaload, 1) := by decide +kernel
theorem dX12_chestIn_71 : decode cX12_chestIn 71 = .ok (.istore_n 3, 1) := by decide +kernel
theorem dX12_chestIn_72 : decode cX12_chestIn 72 = .ok (.aload_n 0, 1) := by decide +kernel
theorem dX12_chestIn_73 : decode cX12_chestIn 73 = .ok (.invokevirtual 416, 3) := by decide +kernel
theorem dX12_chestIn_76 : decode cX12_chestIn 76 = .ok (.iload_n 3, 1) := by decide +kernel
theorem dX12_chestIn_77 : decode cX12_chestIn 77 = .ok (.ireturn, 1) := by decide +kernel
def L_X12_chestIn (w : Nat) : Nat → z_Mem → Int32 → Int32 → Int32 → Option (Int32 × z_Mem)
  | 0, _, _, _, _ => none
  | c + 1, M, x1, x2, x3 =>
    if x2 ≤ x3 then
    if ((12 : Int32) + x1) < 0 ∨ 1875 ≤ ((12 : Int32) + x1).toNatClampNeg then none else
    (F_X12_restores w M).bind fun q3 =>
    some (M.1 142 ((12 : Int32) + x1).toNatClampNeg, q3.2)
    else
    (F_X12_passes w M).bind fun q5 =>
    L_X12_chestIn w c q5.2 x1 x2 (x3 + (1 : Int32))
set_option maxHeartbeats 4000000 in
theorem AL_X12_chestIn {w : Nat} : ∀ (c : Nat), (∀ (M : z_Mem) (x1 : Int32) (x2 : Int32) (x3 : Int32) (r : Int32) (M' : z_Mem) (Q : Option Value → z_Mem → Prop), L_X12_chestIn w c M x1 x2 x3 = some (r, M') → Q (some (.int r)) M' → z_G none 4 mX12_chestIn 47 [some (.ref 139), some (.int x1), some (.int x2), some (.int x3)] [] M Q) := by
  intro c
  induction c with
  | zero => exact (fun M x1 x2 x3 r M' Q h hq => by rw [L_X12_chestIn] at h; cases h)
  | succ c ih =>
    intro M x1 x2 x3 r M' Q h hq
    rw [L_X12_chestIn] at h
    refine g_iload_n dX12_chestIn_47 rfl rfl ?_
    refine g_iload_n dX12_chestIn_48 rfl rfl ?_
    refine g_ic_ge (t := 62) dX12_chestIn_49 (by decide) (fun c1 => ?_) (fun c1 => ?_)
    · replace h := z_ift c1 h
      refine g_aload_n dX12_chestIn_62 rfl rfl ?_
      refine g_get (a := 137) (v := .ref 144) dX12_chestIn_63 f_12_35 sh_137 rfl rfl ?_
      refine g_bipush (v := (12 : Int32)) dX12_chestIn_66 (by decide) ?_
      refine g_iload_n dX12_chestIn_68 rfl rfl ?_
      refine g_iadd dX12_chestIn_69 ?_
      by_cases g2 : ((12 : Int32) + x1) < 0 ∨ 1875 ≤ ((12 : Int32) + x1).toNatClampNeg
      · rw [if_pos g2] at h; cases h
      replace h := z_iff g2 h
      refine g_iald (a := 142) dX12_chestIn_70 sh_142 g2 ?_
      refine g_istore_n (ls' := [some (.ref 139), some (.int x1), some (.int x2), some (.int (M.1 142 ((12 : Int32) + x1).toNatClampNeg))]) dX12_chestIn_71 rfl (Nat.le_of_ble_eq_true rfl) rfl ?_
      refine g_aload_n dX12_chestIn_72 rfl rfl ?_
      obtain ⟨q3, e4, h⟩ := z_bd h
      refine g_callV (a := 137) (as := []) (rest := []) (c := mX12_restores) (k1 := 0) dX12_chestIn_73 rfl rfl rfl sh_137 rfl rfl (Nat.le_of_ble_eq_true rfl) (Nat.le_of_ble_eq_true rfl) (by decide) ?_
      refine A_X12_restores e4 ?_
      show z_G none 4 mX12_chestIn 76 [some (.ref 139), some (.int x1), some (.int x2), some (.int (M.1 142 ((12 : Int32) + x1).toNatClampNeg))] [] q3.2 Q
      refine g_iload_n dX12_chestIn_76 rfl rfl ?_
      cases h
      exact g_iret dX12_chestIn_77 rfl rfl hq
    · replace h := z_iff c1 h
      refine g_aload_n dX12_chestIn_52 rfl rfl ?_
      obtain ⟨q5, e6, h⟩ := z_bd h
      refine g_callV (a := 137) (as := []) (rest := []) (c := mX12_passes) (k1 := 3) dX12_chestIn_53 rfl rfl rfl sh_137 rfl rfl (Nat.le_of_ble_eq_true rfl) (Nat.le_of_ble_eq_true rfl) (by decide) ?_
      refine A_X12_passes e6 ?_
      show z_G none 4 mX12_chestIn 56 [some (.ref 139), some (.int x1), some (.int x2), some (.int x3)] [] q5.2 Q
      refine g_iinc (v := x3 + (1 : Int32)) (ls' := [some (.ref 139), some (.int x1), some (.int x2), some (.int (x3 + (1 : Int32)))]) dX12_chestIn_56 rfl rfl rfl ?_
      refine g_goto (t := 47) dX12_chestIn_59 (by decide) ?_
      exact g_sub (z_sub_s (z_sub_s (z_sub_s (z_sub_s z_sub_nil)))) (ih _ _ _ _ _ _ _ h hq)
def F_X12_chestIn (w : Nat) (M : z_Mem) (a1 : Int32) (a2 : Int32) : Option (Int32 × z_Mem) :=
  (F_X12_isSideAt w (z_wI (z_wI M 137 1 (0 : Int32)) 137 0 (0 : Int32)) a1).bind fun q7 =>
  if q7.1 = true then
  (F_X12_isIn w q7.2 a2.toInt64 (0 : Int64) (60 : Int64)).bind fun q10 =>
  if q10.1 = true then
  (F_X12_keeps w q10.2).bind fun q13 =>
  L_X12_chestIn w w q13.2 a1 a2 (0 : Int32)
  else
  (F_X12_refuse w q10.2 (5 : Int32)).bind fun q15 =>
  some (q15.1, q15.2)
  else
  (F_X12_refuse w q7.2 (2 : Int32)).bind fun q17 =>
  some (q17.1, q17.2)
set_option maxHeartbeats 4000000 in
theorem A_X12_chestIn {w : Nat} {M : z_Mem} {a1 : Int32} {a2 : Int32} {r : Int32} {M' : z_Mem} {Q : Option Value → z_Mem → Prop} (h : F_X12_chestIn w M a1 a2 = some (r, M')) (hq : Q (some (.int r)) M') : z_Cl 4 mX12_chestIn [.ref 139, .int a1, .int a2] M Q := by
  refine g_in (ls := [some (.ref 139), some (.int a1), some (.int a2), none]) rfl ?_
  unfold F_X12_chestIn at h
  refine g_aload_n dX12_chestIn_0 rfl rfl ?_
  refine g_iconst (v := (0 : Int32)) dX12_chestIn_1 (by decide) ?_
  refine g_putI (a := 137) dX12_chestIn_2 f_12_57 sh_137 rfl rfl rfl ?_
  refine g_aload_n dX12_chestIn_5 rfl rfl ?_
  refine g_iconst (v := (0 : Int32)) dX12_chestIn_6 (by decide) ?_
  refine g_putI (a := 137) dX12_chestIn_7 f_12_60 sh_137 rfl rfl rfl ?_
  refine g_iload_n dX12_chestIn_10 rfl rfl ?_
  obtain ⟨q7, e8, h⟩ := z_bd h
  refine g_callS (as := [.int a1]) (rest := []) (c := mX12_isSideAt) (k1 := 0) dX12_chestIn_11 rfl rfl rfl rfl rfl (Nat.le_of_ble_eq_true rfl) (Nat.le_of_ble_eq_true rfl) (by decide) ?_
  refine A_X12_isSideAt e8 ?_
  show z_G none 4 mX12_chestIn 14 [some (.ref 139), some (.int a1), some (.int a2), none] [.int (z_tb q7.1)] q7.2 Q
  refine g_if_ne (t := 23) dX12_chestIn_14 (by decide) (fun c9 => ?_) (fun c9 => ?_)
  · replace h := z_ift (z_tbn.mp c9) h
    refine g_iload_n dX12_chestIn_23 rfl rfl ?_
    refine g_i2l dX12_chestIn_24 ?_
    refine g_lconst (v := (0 : Int64)) dX12_chestIn_25 (by decide) ?_
    refine g_ldc2_w dX12_chestIn_26 rfl ?_
    obtain ⟨q10, e11, h⟩ := z_bd h
    refine g_callS (as := [.long a2.toInt64, .long (0 : Int64), .long (60 : Int64)]) (rest := []) (c := mX12_isIn) (k1 := 0) dX12_chestIn_29 rfl rfl rfl rfl rfl (Nat.le_of_ble_eq_true rfl) (Nat.le_of_ble_eq_true rfl) (by decide) ?_
    refine A_X12_isIn e11 ?_
    show z_G none 4 mX12_chestIn 32 [some (.ref 139), some (.int a1), some (.int a2), none] [.int (z_tb q10.1)] q10.2 Q
    refine g_if_ne (t := 41) dX12_chestIn_32 (by decide) (fun c12 => ?_) (fun c12 => ?_)
    · replace h := z_ift (z_tbn.mp c12) h
      refine g_aload_n dX12_chestIn_41 rfl rfl ?_
      obtain ⟨q13, e14, h⟩ := z_bd h
      refine g_callV (a := 137) (as := []) (rest := []) (c := mX12_keeps) (k1 := 0) dX12_chestIn_42 rfl rfl rfl sh_137 rfl rfl (Nat.le_of_ble_eq_true rfl) (Nat.le_of_ble_eq_true rfl) (by decide) ?_
      refine A_X12_keeps e14 ?_
      show z_G none 4 mX12_chestIn 45 [some (.ref 139), some (.int a1), some (.int a2), none] [] q13.2 Q
      refine g_iconst (v := (0 : Int32)) dX12_chestIn_45 (by decide) ?_
      refine g_istore_n (ls' := [some (.ref 139), some (.int a1), some (.int a2), some (.int (0 : Int32))]) dX12_chestIn_46 rfl (Nat.le_of_ble_eq_true rfl) rfl ?_
      exact g_sub (z_sub_s (z_sub_s (z_sub_s (z_sub_s z_sub_nil)))) ((AL_X12_chestIn (w := w) w) _ _ _ _ _ _ _ h hq)
    · replace h := z_iff (z_tb0.mp c12) h
      refine g_aload_n dX12_chestIn_35 rfl rfl ?_
      refine g_iconst (v := (5 : Int32)) dX12_chestIn_36 (by decide) ?_
      obtain ⟨q15, e16, h⟩ := z_bd h
      refine g_callV (a := 137) (as := [.int (5 : Int32)]) (rest := []) (c := mX12_refuse) (k1 := 0) dX12_chestIn_37 rfl rfl rfl sh_137 rfl rfl (Nat.le_of_ble_eq_true rfl) (Nat.le_of_ble_eq_true rfl) (by decide) ?_
      refine A_X12_refuse e16 ?_
      show z_G none 4 mX12_chestIn 40 [some (.ref 139), some (.int a1), some (.int a2), none] [.int q15.1] q15.2 Q
      cases h
      exact g_iret dX12_chestIn_40 rfl rfl hq
  · replace h := z_iff (z_tb0.mp c9) h
    refine g_aload_n dX12_chestIn_17 rfl rfl ?_
    refine g_iconst (v := (2 : Int32)) dX12_chestIn_18 (by decide) ?_
    obtain ⟨q17, e18, h⟩ := z_bd h
    refine g_callV (a := 137) (as := [.int (2 : Int32)]) (rest := []) (c := mX12_refuse) (k1 := 0) dX12_chestIn_19 rfl rfl rfl sh_137 rfl rfl (Nat.le_of_ble_eq_true rfl) (Nat.le_of_ble_eq_true rfl) (by decide) ?_
    refine A_X12_refuse e18 ?_
    show z_G none 4 mX12_chestIn 22 [some (.ref 139), some (.int a1), some (.int a2), none] [.int q17.1] q17.2 Q
    cases h
    exact g_iret dX12_chestIn_22 rfl rfl hq
theorem dX12_tollIn_0 : decode cX12_tollIn 0 = .ok (.aload_n 0, 1) := by decide +kernel
theorem dX12_tollIn_1 : decode cX12_tollIn 1 = .ok (.iconst 0, 1) := by decide +kernel
theorem dX12_tollIn_2 : decode cX12_tollIn 2 = .ok (.putfield 57, 3) := by decide +kernel
theorem dX12_tollIn_5 : decode cX12_tollIn 5 = .ok (.aload_n 0, 1) := by decide +kernel
theorem dX12_tollIn_6 : decode cX12_tollIn 6 = .ok (.iconst 0, 1) := by decide +kernel
theorem dX12_tollIn_7 : decode cX12_tollIn 7 = .ok (.putfield 60, 3) := by decide +kernel
theorem dX12_tollIn_10 : decode cX12_tollIn 10 = .ok (.iconst (-1), 1) := by decide +kernel
theorem dX12_tollIn_11 : decode cX12_tollIn 11 = .ok (.istore_n 1, 1) := by decide +kernel
theorem dX12_tollIn_12 : decode cX12_tollIn 12 = .ok (.aload_n 0, 1) := by decide +kernel
theorem dX12_tollIn_13 : decode cX12_tollIn 13 = .ok (.invokevirtual 413, 3) := by decide +kernel
theorem dX12_tollIn_16 : decode cX12_tollIn 16 = .ok (.iconst 0, 1) := by decide +kernel
theorem dX12_tollIn_17 : decode cX12_tollIn 17 = .ok (.istore_n 2, 1) := by decide +kernel
theorem dX12_tollIn_18 : decode cX12_tollIn 18 = .ok (.iload_n 2, 1) := by decide +kernel
theorem dX12_tollIn_19 : decode cX12_tollIn 19 = .ok (.bipush 60, 2) := by decide +kernel
theorem dX12_tollIn_21 : decode cX12_tollIn 21 = .ok (.if_icmp .gt 26, 3) := by decide +kernel
theorem dX12_tollIn_24 : decode cX12_tollIn 24 = .ok (.iload_n 1, 1) := by decide +kernel
theorem dX12_tollIn_25 : decode cX12_tollIn 25 = .ok (.ifCond .ge 22, 3) := by decide +kernel
theorem dX12_tollIn_28 : decode cX12_tollIn 28 = .ok (.aload_n 0, 1) := by decide +kernel
theorem dX12_tollIn_29 : decode cX12_tollIn 29 = .ok (.invokevirtual 387, 3) := by decide +kernel
theorem dX12_tollIn_32 : decode cX12_tollIn 32 = .ok (.ifCond .eq 5, 3) := by decide +kernel
theorem dX12_tollIn_35 : decode cX12_tollIn 35 = .ok (.iload_n 2, 1) := by decide +kernel
theorem dX12_tollIn_36 : decode cX12_tollIn 36 = .ok (.istore_n 1, 1) := by decide +kernel
theorem dX12_tollIn_37 : decode cX12_tollIn 37 = .ok (.aload_n 0, 1) := by decide +kernel
theorem dX12_tollIn_38 : decode cX12_tollIn 38 = .ok (.invokevirtual 381, 3) := by decide +kernel
theorem dX12_tollIn_41 : decode cX12_tollIn 41 = .ok (.iinc 2 1, 3) := by decide +kernel
theorem dX12_tollIn_44 : decode cX12_tollIn 44 = .ok (.goto (-26), 3) := by decide +kernel
theorem dX12_tollIn_47 : decode cX12_tollIn 47 = .ok (.aload_n 0, 1) := by decide +kernel
theorem dX12_tollIn_48 : decode cX12_tollIn 48 = .ok (.invokevirtual 416, 3) := by decide +kernel
theorem dX12_tollIn_51 : decode cX12_tollIn 51 = .ok (.iload_n 1, 1) := by decide +kernel
theorem dX12_tollIn_52 : decode cX12_tollIn 52 = .ok (.ifCond .ge 12, 3) := by decide +kernel
theorem dX12_tollIn_55 : decode cX12_tollIn 55 = .ok (.aload_n 0, 1) := by decide +kernel
theorem dX12_tollIn_56 : decode cX12_tollIn 56 = .ok (.bipush 8, 2) := by decide +kernel
theorem dX12_tollIn_58 : decode cX12_tollIn 58 = .ok (.invokevirtual 333, 3) := by decide +kernel
theorem dX12_tollIn_61 : decode cX12_tollIn 61 = .ok (.goto 4, 3) := by decide +kernel
theorem dX12_tollIn_64 : decode cX12_tollIn 64 = .ok (.iload_n 1, 1) := by decide +kernel
theorem dX12_tollIn_65 : decode cX12_tollIn 65 = .ok (.ireturn, 1) := by decide +kernel
def L_X12_tollIn (w : Nat) : Nat → z_Mem → Int32 → Int32 → Option (Int32 × z_Mem)
  | 0, _, _, _ => none
  | c + 1, M, x1, x2 =>
    if (60 : Int32) < x2 then
    (F_X12_restores w M).bind fun q2 =>
    if (0 : Int32) ≤ x1 then
    some (x1, q2.2)
    else
    (F_X12_refuse w q2.2 (8 : Int32)).bind fun q5 =>
    some (q5.1, q5.2)
    else
    if (0 : Int32) ≤ x1 then
    (F_X12_restores w M).bind fun q8 =>
    if (0 : Int32) ≤ x1 then
    some (x1, q8.2)
    else
    (F_X12_refuse w q8.2 (8 : Int32)).bind fun q11 =>
    some (q11.1, q11.2)
    else
    (F_X12_hasToll w M).bind fun q13 =>
    if q13.1 = true then
    (F_X12_passes w q13.2).bind fun q18 =>
    L_X12_tollIn w c q18.2 x2 (x2 + (1 : Int32))
    else
    (F_X12_passes w q13.2).bind fun q16 =>
    L_X12_tollIn w c q16.2 x1 (x2 + (1 : Int32))
set_option maxHeartbeats 4000000 in
theorem AL_X12_tollIn {w : Nat} : ∀ (c : Nat), (∀ (M : z_Mem) (x1 : Int32) (x2 : Int32) (r : Int32) (M' : z_Mem) (Q : Option Value → z_Mem → Prop), L_X12_tollIn w c M x1 x2 = some (r, M') → Q (some (.int r)) M' → z_G none 4 mX12_tollIn 18 [some (.ref 139), some (.int x1), some (.int x2)] [] M Q) := by
  intro c
  induction c with
  | zero => exact (fun M x1 x2 r M' Q h hq => by rw [L_X12_tollIn] at h; cases h)
  | succ c ih =>
    intro M x1 x2 r M' Q h hq
    rw [L_X12_tollIn] at h
    refine g_iload_n dX12_tollIn_18 rfl rfl ?_
    refine g_bipush (v := (60 : Int32)) dX12_tollIn_19 (by decide) ?_
    refine g_ic_gt (t := 47) dX12_tollIn_21 (by decide) (fun c1 => ?_) (fun c1 => ?_)
    · replace h := z_ift c1 h
      refine g_aload_n dX12_tollIn_47 rfl rfl ?_
      obtain ⟨q2, e3, h⟩ := z_bd h
      refine g_callV (a := 137) (as := []) (rest := []) (c := mX12_restores) (k1 := 0) dX12_tollIn_48 rfl rfl rfl sh_137 rfl rfl (Nat.le_of_ble_eq_true rfl) (Nat.le_of_ble_eq_true rfl) (by decide) ?_
      refine A_X12_restores e3 ?_
      show z_G none 4 mX12_tollIn 51 [some (.ref 139), some (.int x1), some (.int x2)] [] q2.2 Q
      refine g_iload_n dX12_tollIn_51 rfl rfl ?_
      refine g_if_ge (t := 64) dX12_tollIn_52 (by decide) (fun c4 => ?_) (fun c4 => ?_)
      · replace h := z_ift c4 h
        refine g_iload_n dX12_tollIn_64 rfl rfl ?_
        cases h
        exact g_iret dX12_tollIn_65 rfl rfl hq
      · replace h := z_iff c4 h
        refine g_aload_n dX12_tollIn_55 rfl rfl ?_
        refine g_bipush (v := (8 : Int32)) dX12_tollIn_56 (by decide) ?_
        obtain ⟨q5, e6, h⟩ := z_bd h
        refine g_callV (a := 137) (as := [.int (8 : Int32)]) (rest := []) (c := mX12_refuse) (k1 := 0) dX12_tollIn_58 rfl rfl rfl sh_137 rfl rfl (Nat.le_of_ble_eq_true rfl) (Nat.le_of_ble_eq_true rfl) (by decide) ?_
        refine A_X12_refuse e6 ?_
        show z_G none 4 mX12_tollIn 61 [some (.ref 139), some (.int x1), some (.int x2)] [.int q5.1] q5.2 Q
        refine g_goto (t := 65) dX12_tollIn_61 (by decide) ?_
        cases h
        exact g_iret dX12_tollIn_65 rfl rfl hq
    · replace h := z_iff c1 h
      refine g_iload_n dX12_tollIn_24 rfl rfl ?_
      refine g_if_ge (t := 47) dX12_tollIn_25 (by decide) (fun c7 => ?_) (fun c7 => ?_)
      · replace h := z_ift c7 h
        refine g_aload_n dX12_tollIn_47 rfl rfl ?_
        obtain ⟨q8, e9, h⟩ := z_bd h
        refine g_callV (a := 137) (as := []) (rest := []) (c := mX12_restores) (k1 := 0) dX12_tollIn_48 rfl rfl rfl sh_137 rfl rfl (Nat.le_of_ble_eq_true rfl) (Nat.le_of_ble_eq_true rfl) (by decide) ?_
        refine A_X12_restores e9 ?_
        show z_G none 4 mX12_tollIn 51 [some (.ref 139), some (.int x1), some (.int x2)] [] q8.2 Q
        refine g_iload_n dX12_tollIn_51 rfl rfl ?_
        refine g_if_ge (t := 64) dX12_tollIn_52 (by decide) (fun c10 => ?_) (fun c10 => ?_)
        · replace h := z_ift c10 h
          refine g_iload_n dX12_tollIn_64 rfl rfl ?_
          cases h
          exact g_iret dX12_tollIn_65 rfl rfl hq
        · replace h := z_iff c10 h
          refine g_aload_n dX12_tollIn_55 rfl rfl ?_
          refine g_bipush (v := (8 : Int32)) dX12_tollIn_56 (by decide) ?_
          obtain ⟨q11, e12, h⟩ := z_bd h
          refine g_callV (a := 137) (as := [.int (8 : Int32)]) (rest := []) (c := mX12_refuse) (k1 := 0) dX12_tollIn_58 rfl rfl rfl sh_137 rfl rfl (Nat.le_of_ble_eq_true rfl) (Nat.le_of_ble_eq_true rfl) (by decide) ?_
          refine A_X12_refuse e12 ?_
          show z_G none 4 mX12_tollIn 61 [some (.ref 139), some (.int x1), some (.int x2)] [.int q11.1] q11.2 Q
          refine g_goto (t := 65) dX12_tollIn_61 (by decide) ?_
          cases h
          exact g_iret dX12_tollIn_65 rfl rfl hq
      · replace h := z_iff c7 h
        refine g_aload_n dX12_tollIn_28 rfl rfl ?_
        obtain ⟨q13, e14, h⟩ := z_bd h
        refine g_callV (a := 137) (as := []) (rest := []) (c := mX12_hasToll) (k1 := 0) dX12_tollIn_29 rfl rfl rfl sh_137 rfl rfl (Nat.le_of_ble_eq_true rfl) (Nat.le_of_ble_eq_true rfl) (by decide) ?_
        refine A_X12_hasToll e14 ?_
        show z_G none 4 mX12_tollIn 32 [some (.ref 139), some (.int x1), some (.int x2)] [.int (z_tb q13.1)] q13.2 Q
        refine g_if_eq (t := 37) dX12_tollIn_32 (by decide) (fun c15 => ?_) (fun c15 => ?_)
        · replace h := z_iff (z_tb0.mp c15) h
          refine g_aload_n dX12_tollIn_37 rfl rfl ?_
          obtain ⟨q16, e17, h⟩ := z_bd h
          refine g_callV (a := 137) (as := []) (rest := []) (c := mX12_passes) (k1 := 3) dX12_tollIn_38 rfl rfl rfl sh_137 rfl rfl (Nat.le_of_ble_eq_true rfl) (Nat.le_of_ble_eq_true rfl) (by decide) ?_
          refine A_X12_passes e17 ?_
          show z_G none 4 mX12_tollIn 41 [some (.ref 139), some (.int x1), some (.int x2)] [] q16.2 Q
          refine g_iinc (v := x2 + (1 : Int32)) (ls' := [some (.ref 139), some (.int x1), some (.int (x2 + (1 : Int32)))]) dX12_tollIn_41 rfl rfl rfl ?_
          refine g_goto (t := 18) dX12_tollIn_44 (by decide) ?_
          exact g_sub (z_sub_s (z_sub_s (z_sub_s z_sub_nil))) (ih _ _ _ _ _ _ h hq)
        · replace h := z_ift (z_tbn.mp c15) h
          refine g_iload_n dX12_tollIn_35 rfl rfl ?_
          refine g_istore_n (ls' := [some (.ref 139), some (.int x2), some (.int x2)]) dX12_tollIn_36 rfl (Nat.le_of_ble_eq_true rfl) rfl ?_
          refine g_aload_n dX12_tollIn_37 rfl rfl ?_
          obtain ⟨q18, e19, h⟩ := z_bd h
          refine g_callV (a := 137) (as := []) (rest := []) (c := mX12_passes) (k1 := 3) dX12_tollIn_38 rfl rfl rfl sh_137 rfl rfl (Nat.le_of_ble_eq_true rfl) (Nat.le_of_ble_eq_true rfl) (by decide) ?_
          refine A_X12_passes e19 ?_
          show z_G none 4 mX12_tollIn 41 [some (.ref 139), some (.int x2), some (.int x2)] [] q18.2 Q
          refine g_iinc (v := x2 + (1 : Int32)) (ls' := [some (.ref 139), some (.int x2), some (.int (x2 + (1 : Int32)))]) dX12_tollIn_41 rfl rfl rfl ?_
          refine g_goto (t := 18) dX12_tollIn_44 (by decide) ?_
          exact g_sub (z_sub_s (z_sub_s (z_sub_s z_sub_nil))) (ih _ _ _ _ _ _ h hq)
def F_X12_tollIn (w : Nat) (M : z_Mem) : Option (Int32 × z_Mem) :=
  (F_X12_keeps w (z_wI (z_wI M 137 1 (0 : Int32)) 137 0 (0 : Int32))).bind fun q20 =>
  L_X12_tollIn w w q20.2 (-1 : Int32) (0 : Int32)
set_option maxHeartbeats 4000000 in
theorem A_X12_tollIn {w : Nat} {M : z_Mem} {r : Int32} {M' : z_Mem} {Q : Option Value → z_Mem → Prop} (h : F_X12_tollIn w M = some (r, M')) (hq : Q (some (.int r)) M') : z_Cl 4 mX12_tollIn [.ref 139] M Q := by
  refine g_in (ls := [some (.ref 139), none, none]) rfl ?_
  unfold F_X12_tollIn at h
  refine g_aload_n dX12_tollIn_0 rfl rfl ?_
  refine g_iconst (v := (0 : Int32)) dX12_tollIn_1 (by decide) ?_
  refine g_putI (a := 137) dX12_tollIn_2 f_12_57 sh_137 rfl rfl rfl ?_
  refine g_aload_n dX12_tollIn_5 rfl rfl ?_
  refine g_iconst (v := (0 : Int32)) dX12_tollIn_6 (by decide) ?_
  refine g_putI (a := 137) dX12_tollIn_7 f_12_60 sh_137 rfl rfl rfl ?_
  refine g_iconst (v := (-1 : Int32)) dX12_tollIn_10 (by decide) ?_
  refine g_istore_n (ls' := [some (.ref 139), some (.int (-1 : Int32)), none]) dX12_tollIn_11 rfl (Nat.le_of_ble_eq_true rfl) rfl ?_
  refine g_aload_n dX12_tollIn_12 rfl rfl ?_
  obtain ⟨q20, e21, h⟩ := z_bd h
  refine g_callV (a := 137) (as := []) (rest := []) (c := mX12_keeps) (k1 := 0) dX12_tollIn_13 rfl rfl rfl sh_137 rfl rfl (Nat.le_of_ble_eq_true rfl) (Nat.le_of_ble_eq_true rfl) (by decide) ?_
  refine A_X12_keeps e21 ?_
  show z_G none 4 mX12_tollIn 16 [some (.ref 139), some (.int (-1 : Int32)), none] [] q20.2 Q
  refine g_iconst (v := (0 : Int32)) dX12_tollIn_16 (by decide) ?_
  refine g_istore_n (ls' := [some (.ref 139), some (.int (-1 : Int32)), some (.int (0 : Int32))]) dX12_tollIn_17 rfl (Nat.le_of_ble_eq_true rfl) rfl ?_
  exact g_sub (z_sub_s (z_sub_s (z_sub_s z_sub_nil))) ((AL_X12_tollIn (w := w) w) _ _ _ _ _ _ h hq)
theorem dX12_bears_0 : decode cX12_bears 0 = .ok (.aload_n 0, 1) := by decide +kernel
theorem dX12_bears_1 : decode cX12_bears 1 = .ok (.iconst 0, 1) := by decide +kernel
theorem dX12_bears_2 : decode cX12_bears 2 = .ok (.putfield 57, 3) := by decide +kernel
theorem dX12_bears_5 : decode cX12_bears 5 = .ok (.aload_n 0, 1) := by decide +kernel
theorem dX12_bears_6 : decode cX12_bears 6 = .ok (.iconst 0, 1) := by decide +kernel
theorem dX12_bears_7 : decode cX12_bears 7 = .ok (.putfield 60, 3) := by decide +kernel
theorem dX12_bears_10 : decode cX12_bears 10 = .ok (.aload_n 0, 1) := by decide +kernel
theorem dX12_bears_11 : decode cX12_bears 11 = .ok (.invokevirtual 370, 3) := by decide +kernel
theorem dX12_bears_14 : decode cX12_bears 14 = .ok (.ireturn, 1) := by decide +kernel
def F_X12_bears (w : Nat) (M : z_Mem) : Option (Int32 × z_Mem) :=
  (F_X12_borne w (z_wI (z_wI M 137 1 (0 : Int32)) 137 0 (0 : Int32))).bind fun q1 =>
  some (q1.1, q1.2)
set_option maxHeartbeats 4000000 in
theorem A_X12_bears {w : Nat} {M : z_Mem} {r : Int32} {M' : z_Mem} {Q : Option Value → z_Mem → Prop} (h : F_X12_bears w M = some (r, M')) (hq : Q (some (.int r)) M') : z_Cl 3 mX12_bears [.ref 139] M Q := by
  refine g_in (ls := [some (.ref 139)]) rfl ?_
  unfold F_X12_bears at h
  refine g_aload_n dX12_bears_0 rfl rfl ?_
  refine g_iconst (v := (0 : Int32)) dX12_bears_1 (by decide) ?_
  refine g_putI (a := 137) dX12_bears_2 f_12_57 sh_137 rfl rfl rfl ?_
  refine g_aload_n dX12_bears_5 rfl rfl ?_
  refine g_iconst (v := (0 : Int32)) dX12_bears_6 (by decide) ?_
  refine g_putI (a := 137) dX12_bears_7 f_12_60 sh_137 rfl rfl rfl ?_
  refine g_aload_n dX12_bears_10 rfl rfl ?_
  obtain ⟨q1, e2, h⟩ := z_bd h
  refine g_callV (a := 137) (as := []) (rest := []) (c := mX12_borne) (k1 := 2) dX12_bears_11 rfl rfl rfl sh_137 rfl rfl (Nat.le_of_ble_eq_true rfl) (Nat.le_of_ble_eq_true rfl) (by decide) ?_
  refine A_X12_borne e2 ?_
  show z_G none 3 mX12_bears 14 [some (.ref 139)] [.int q1.1] q1.2 Q
  cases h
  exact g_iret dX12_bears_14 rfl rfl hq
theorem dX12_lyingBy_0 : decode cX12_lyingBy 0 = .ok (.iload_n 1, 1) := by decide +kernel
theorem dX12_lyingBy_1 : decode cX12_lyingBy 1 = .ok (.iload_n 2, 1) := by decide +kernel
theorem dX12_lyingBy_2 : decode cX12_lyingBy 2 = .ok (.if_icmp .ne 7, 3) := by decide +kernel
theorem dX12_lyingBy_5 : decode cX12_lyingBy 5 = .ok (.iconst 2, 1) := by decide +kernel
theorem dX12_lyingBy_6 : decode cX12_lyingBy 6 = .ok (.goto 16, 3) := by decide +kernel
theorem dX12_lyingBy_9 : decode cX12_lyingBy 9 = .ok (.iload_n 0, 1) := by decide +kernel
theorem dX12_lyingBy_10 : decode cX12_lyingBy 10 = .ok (.iload_n 1, 1) := by decide +kernel
theorem dX12_lyingBy_11 : decode cX12_lyingBy 11 = .ok (.invokestatic 96, 3) := by decide +kernel
theorem dX12_lyingBy_14 : decode cX12_lyingBy 14 = .ok (.ifCond .eq 7, 3) := by decide +kernel
theorem dX12_lyingBy_17 : decode cX12_lyingBy 17 = .ok (.iconst 0, 1) := by decide +kernel
theorem dX12_lyingBy_18 : decode cX12_lyingBy 18 = .ok (.goto 4, 3) := by decide +kernel
theorem dX12_lyingBy_21 : decode cX12_lyingBy 21 = .ok (.iconst 1, 1) := by decide +kernel
theorem dX12_lyingBy_22 : decode cX12_lyingBy 22 = .ok (.ireturn, 1) := by decide +kernel
def F_X12_lyingBy (w : Nat) (M : z_Mem) (a0 : Int32) (a1 : Int32) (a2 : Int32) : Option (Int32 × z_Mem) :=
  if a1 = a2 then
  some ((2 : Int32), M)
  else
  (F_X12_has w M a0 a1).bind fun q2 =>
  if q2.1 = true then
  some ((0 : Int32), q2.2)
  else
  some ((1 : Int32), q2.2)
set_option maxHeartbeats 4000000 in
theorem A_X12_lyingBy {w : Nat} {M : z_Mem} {a0 : Int32} {a1 : Int32} {a2 : Int32} {r : Int32} {M' : z_Mem} {Q : Option Value → z_Mem → Prop} (h : F_X12_lyingBy w M a0 a1 a2 = some (r, M')) (hq : Q (some (.int r)) M') : z_Cl 1 mX12_lyingBy [.int a0, .int a1, .int a2] M Q := by
  refine g_in (ls := [some (.int a0), some (.int a1), some (.int a2)]) rfl ?_
  unfold F_X12_lyingBy at h
  refine g_iload_n dX12_lyingBy_0 rfl rfl ?_
  refine g_iload_n dX12_lyingBy_1 rfl rfl ?_
  refine g_ic_ne (t := 9) dX12_lyingBy_2 (by decide) (fun c1 => ?_) (fun c1 => ?_)
  · replace h := z_iff c1 h
    refine g_iload_n dX12_lyingBy_9 rfl rfl ?_
    refine g_iload_n dX12_lyingBy_10 rfl rfl ?_
    obtain ⟨q2, e3, h⟩ := z_bd h
    refine g_callS (as := [.int a0, .int a1]) (rest := []) (c := mX12_has) (k1 := 0) dX12_lyingBy_11 rfl rfl rfl rfl rfl (Nat.le_of_ble_eq_true rfl) (Nat.le_of_ble_eq_true rfl) (by decide) ?_
    refine A_X12_has e3 ?_
    show z_G none 1 mX12_lyingBy 14 [some (.int a0), some (.int a1), some (.int a2)] [.int (z_tb q2.1)] q2.2 Q
    refine g_if_eq (t := 21) dX12_lyingBy_14 (by decide) (fun c4 => ?_) (fun c4 => ?_)
    · replace h := z_iff (z_tb0.mp c4) h
      refine g_iconst (v := (1 : Int32)) dX12_lyingBy_21 (by decide) ?_
      cases h
      exact g_iret dX12_lyingBy_22 rfl rfl hq
    · replace h := z_ift (z_tbn.mp c4) h
      refine g_iconst (v := (0 : Int32)) dX12_lyingBy_17 (by decide) ?_
      refine g_goto (t := 22) dX12_lyingBy_18 (by decide) ?_
      cases h
      exact g_iret dX12_lyingBy_22 rfl rfl hq
  · replace h := z_ift c1 h
    refine g_iconst (v := (2 : Int32)) dX12_lyingBy_5 (by decide) ?_
    refine g_goto (t := 22) dX12_lyingBy_6 (by decide) ?_
    cases h
    exact g_iret dX12_lyingBy_22 rfl rfl hq
theorem dX12_gainOf_0 : decode cX12_gainOf 0 = .ok (.iconst 0, 1) := by decide +kernel
theorem dX12_gainOf_1 : decode cX12_gainOf 1 = .ok (.istore 4, 2) := by decide +kernel
theorem dX12_gainOf_3 : decode cX12_gainOf 3 = .ok (.iconst 0, 1) := by decide +kernel
theorem dX12_gainOf_4 : decode cX12_gainOf 4 = .ok (.istore 5, 2) := by decide +kernel
theorem dX12_gainOf_6 : decode cX12_gainOf 6 = .ok (.iload 5, 2) := by decide +kernel
theorem dX12_gainOf_8 : decode cX12_gainOf 8 = .ok (.aload_n 0, 1) := by decide +kernel
theorem dX12_gainOf_9 : decode cX12_gainOf 9 = .ok (.getfield 35, 3) := by decide +kernel
theorem dX12_gainOf_12 : decode cX12_gainOf 12 = .ok (.iconst 0, 1) := by decide +kernel
theorem dX12_gainOf_13 : decode cX12_gainOf 13 = .ok (.iaload, 1) := by decide +kernel
theorem dX12_gainOf_14 : decode cX12_gainOf 14 = .ok (.if_icmp .ge 149, 3) := by decide +kernel
theorem dX12_gainOf_17 : decode cX12_gainOf 17 = .ok (.aload_n 0, 1) := by decide +kernel
theorem dX12_gainOf_18 : decode cX12_gainOf 18 = .ok (.getfield 35, 3) := by decide +kernel
theorem dX12_gainOf_21 : decode cX12_gainOf 21 = .ok (.bipush 20, 2) := by decide +kernel
theorem dX12_gainOf_23 : decode cX12_gainOf 23 = .ok (.iload 5, 2) := by decide +kernel
theorem dX12_gainOf_25 : decode cX12_gainOf 25 = .ok (.iadd, 1) := by decide +kernel
theorem dX12_gainOf_26 : decode cX12_gainOf 26 = .ok (.iaload, 1) := by decide +kernel
theorem dX12_gainOf_27 : decode cX12_gainOf 27 = .ok (.iload_n 1, 1) := by decide +kernel
theorem dX12_gainOf_28 : decode cX12_gainOf 28 = .ok (.if_icmp .eq 6, 3) := by decide +kernel
theorem dX12_gainOf_31 : decode cX12_gainOf 31 = .ok (.goto 126, 3) := by decide +kernel
theorem dX12_gainOf_34 : decode cX12_gainOf 34 = .ok (.iconst 0, 1) := by decide +kernel
theorem dX12_gainOf_35 : decode cX12_gainOf 35 = .ok (.istore 6, 2) := by decide +kernel
theorem dX12_gainOf_37 : decode cX12_gainOf 37 = .ok (.iload 6, 2) := by decide +kernel
theorem dX12_gainOf_39 : decode cX12_gainOf 39 = .ok (.bipush 12, 2) := by decide +kernel
theorem dX12_gainOf_41 : decode cX12_gainOf 41 = .ok (.if_icmp .ge 116, 3) := by decide +kernel
theorem dX12_gainOf_44 : decode cX12_gainOf 44 = .ok (.iload_n 2, 1) := by decide +kernel
theorem dX12_gainOf_45 : decode cX12_gainOf 45 = .ok (.aload_n 0, 1) := by decide +kernel
theorem dX12_gainOf_46 : decode cX12_gainOf 46 = .ok (.getfield 35, 3) := by decide +kernel
theorem dX12_gainOf_49 : decode cX12_gainOf 49 = .ok (.bipush 28, 2) := by decide +kernel
theorem dX12_gainOf_51 : decode cX12_gainOf 51 = .ok (.iload 5, 2) := by decide +kernel
theorem dX12_gainOf_53 : decode cX12_gainOf 53 = .ok (.iadd, 1) := by decide +kernel
theorem dX12_gainOf_54 : decode cX12_gainOf 54 = .ok (.iaload, 1) := by decide +kernel
theorem dX12_gainOf_55 : decode cX12_gainOf 55 = .ok (.iconst 2, 1) := by decide +kernel
theorem dX12_gainOf_56 : decode cX12_gainOf 56 = .ok (.if_icmp .ne 25, 3) := by decide +kernel
theorem dX12_gainOf_59 : decode cX12_gainOf 59 = .ok (.iload 6, 2) := by decide +kernel
theorem dX12_gainOf_61 : decode cX12_gainOf 61 = .ok (.bipush 12, 2) := by decide +kernel
theorem dX12_gainOf_63 : decode cX12_gainOf 63 = .ok (.iadd, 1) := by decide +kernel
theorem dX12_gainOf_64 : decode cX12_gainOf 64 = .ok (.aload_n 0, 1) := by decide +kernel
theorem dX12_gainOf_65 : decode cX12_gainOf 65 = .ok (.getfield 35, 3) := by decide +kernel
theorem dX12_gainOf_68 : decode cX12_gainOf 68 = .ok (.bipush 36, 2) := by decide +kernel
theorem dX12_gainOf_70 : decode cX12_gainOf 70 = .ok (.iload 5, 2) := by decide +kernel
theorem dX12_gainOf_72 : decode cX12_gainOf 72 = .ok (.iadd, 1) := by decide +kernel
theorem dX12_gainOf_73 : decode cX12_gainOf 73 = .ok (.iaload, 1) := by decide +kernel
theorem dX12_gainOf_74 : decode cX12_gainOf 74 = .ok (.isub, 1) := by decide +kernel
theorem dX12_gainOf_75 : decode cX12_gainOf 75 = .ok (.bipush 12, 2) := by decide +kernel
theorem dX12_gainOf_77 : decode cX12_gainOf 77 = .ok (.irem, 1) := by decide +kernel
theorem dX12_gainOf_78 : decode cX12_gainOf 78 = .ok (.goto 5, 3) := by decide +kernel
theorem dX12_gainOf_81 : decode cX12_gainOf 81 = .ok (.iload 6, 2) := by decide +kernel
theorem dX12_gainOf_83 : decode cX12_gainOf 83 = .ok (.iload_n 3, 1) := by decide +kernel
theorem dX12_gainOf_84 : decode cX12_gainOf 84 = .ok (.invokestatic 419, 3) := by decide +kernel
theorem dX12_gainOf_87 : decode cX12_gainOf 87 = .ok (.istore 7, 2) := by decide +kernel
theorem dX12_gainOf_89 : decode cX12_gainOf 89 = .ok (.aload_n 0, 1) := by decide +kernel
theorem dX12_gainOf_90 : decode cX12_gainOf 90 = .ok (.getfield 35, 3) := by decide +kernel
theorem dX12_gainOf_93 : decode cX12_gainOf 93 = .ok (.bipush 52, 2) := by decide +kernel
theorem dX12_gainOf_95 : decode cX12_gainOf 95 = .ok (.iload 5, 2) := by decide +kernel
theorem dX12_gainOf_97 : decode cX12_gainOf 97 = .ok (.iadd, 1) := by decide +kernel
theorem dX12_gainOf_98 : decode cX12_gainOf 98 = .ok (.iaload, 1) := by decide +kernel
theorem dX12_gainOf_99 : decode cX12_gainOf 99 = .ok (.iload 6, 2) := by decide +kernel
theorem dX12_gainOf_101 : decode cX12_gainOf 101 = .ok (.invokestatic 96, 3) := by decide +kernel
theorem dX12_gainOf_104 : decode cX12_gainOf 104 = .ok (.ifCond .eq 47, 3) := by decide +kernel
theorem dX12_gainOf_107 : decode cX12_gainOf 107 = .ok (.aload_n 0, 1) := by decide +kernel
theorem dX12_gainOf_108 : decode cX12_gainOf 108 = .ok (.getfield 35, 3) := by decide +kernel
theorem dX12_gainOf_111 : decode cX12_gainOf 111 = .ok (.bipush 28, 2) := by decide +kernel
theorem dX12_gainOf_113 : decode cX12_gainOf 113 = .ok (.iload 5, 2) := by decide +kernel
theorem dX12_gainOf_115 : decode cX12_gainOf 115 = .ok (.iadd, 1) := by decide +kernel
theorem dX12_gainOf_116 : decode cX12_gainOf 116 = .ok (.iaload, 1) := by decide +kernel
theorem dX12_gainOf_117 : decode cX12_gainOf 117 = .ok (.iconst 1, 1) := by decide +kernel
theorem dX12_gainOf_118 : decode cX12_gainOf 118 = .ok (.if_icmp .ne 12, 3) := by decide +kernel
theorem dX12_gainOf_121 : decode cX12_gainOf 121 = .ok (.iload 7, 2) := by decide +kernel
theorem dX12_gainOf_123 : decode cX12_gainOf 123 = .ok (.iload_n 1, 1) := by decide +kernel
theorem dX12_gainOf_124 : decode cX12_gainOf 124 = .ok (.if_icmp .eq 27, 3) := by decide +kernel
theorem dX12_gainOf_127 : decode cX12_gainOf 127 = .ok (.goto 9, 3) := by decide +kernel
theorem dX12_gainOf_130 : decode cX12_gainOf 130 = .ok (.iload 7, 2) := by decide +kernel
theorem dX12_gainOf_132 : decode cX12_gainOf 132 = .ok (.iload_n 1, 1) := by decide +kernel
theorem dX12_gainOf_133 : decode cX12_gainOf 133 = .ok (.if_icmp .ne 18, 3) := by decide +kernel
theorem dX12_gainOf_136 : decode cX12_gainOf 136 = .ok (.iload 4, 2) := by decide +kernel
theorem dX12_gainOf_138 : decode cX12_gainOf 138 = .ok (.aload_n 0, 1) := by decide +kernel
theorem dX12_gainOf_139 : decode cX12_gainOf 139 = .ok (.getfield 35, 3) := by decide +kernel
theorem dX12_gainOf_142 : decode cX12_gainOf 142 = .ok (.bipush 44, 2) := by decide +kernel
theorem dX12_gainOf_144 : decode cX12_gainOf 144 = .ok (.iload 5, 2) := by decide +kernel
theorem dX12_gainOf_146 : decode cX12_gainOf 146 = .ok (.iadd, 1) := by decide +kernel
theorem dX12_gainOf_147 : decode cX12_gainOf 147 = .ok (.iaload, 1) := by decide +kernel
theorem dX12_gainOf_148 : decode cX12_gainOf 148 = .ok (.iadd, 1) := by decide +kernel
theorem dX12_gainOf_149 : decode cX12_gainOf 149 = .ok (.istore 4, 2) := by decide +kernel
theorem dX12_gainOf_151 : decode cX12_gainOf 151 = .ok (.iinc 6 1, 3) := by decide +kernel
theorem dX12_gainOf_154 : decode cX12_gainOf 154 = .ok (.goto (-117), 3) := by decide +kernel
theorem dX12_gainOf_157 : decode cX12_gainOf 157 = .ok (.iinc 5 1, 3) := by decide +kernel
theorem dX12_gainOf_160 : decode cX12_gainOf 160 = .ok (.goto (-154), 3) := by decide +kernel
theorem dX12_gainOf_163 : decode cX12_gainOf 163 = .ok (.iload 4, 2) := by decide +kernel
theorem dX12_gainOf_165 : decode cX12_gainOf 165 = .ok (.ireturn, 1) := by decide +kernel
def L_X12_gainOf (w : Nat) : Nat → Nat → z_Mem → Int32 → Int32 → Int32 → Int32 → Int32 → Int32 → Option (Int32 × z_Mem)
  | 0, _, _, _, _, _, _, _, _ => none
  | c + 1, hd, M, x1, x2, x3, x4, x5, x6 =>
    if hd = 0 then
      if (M.1 142 0) ≤ x5 then
      some (x4, M)
      else
      if ((20 : Int32) + x5) < 0 ∨ 1875 ≤ ((20 : Int32) + x5).toNatClampNeg then none else
      if (M.1 142 ((20 : Int32) + x5).toNatClampNeg) = x1 then
      L_X12_gainOf w c 1 M x1 x2 x3 x4 x5 (0 : Int32)
      else
      L_X12_gainOf w c 0 M x1 x2 x3 x4 (x5 + (1 : Int32)) 0
    else
    if hd = 1 then
      if (12 : Int32) ≤ x6 then
      L_X12_gainOf w c 0 M x1 x2 x3 x4 (x5 + (1 : Int32)) 0
      else
      if ((28 : Int32) + x5) < 0 ∨ 1875 ≤ ((28 : Int32) + x5).toNatClampNeg then none else
      if (M.1 142 ((28 : Int32) + x5).toNatClampNeg) = (2 : Int32) then
      if ((36 : Int32) + x5) < 0 ∨ 1875 ≤ ((36 : Int32) + x5).toNatClampNeg then none else
      (F_X12_lyingBy w M x2 (((x6 + (12 : Int32)) - (M.1 142 ((36 : Int32) + x5).toNatClampNeg)) - ((x6 + (12 : Int32)) - (M.1 142 ((36 : Int32) + x5).toNatClampNeg)) / (12 : Int32) * (12 : Int32)) x3).bind fun q20 =>
      if ((52 : Int32) + x5) < 0 ∨ 1875 ≤ ((52 : Int32) + x5).toNatClampNeg then none else
      (F_X12_has w q20.2 (q20.2.1 142 ((52 : Int32) + x5).toNatClampNeg) x6).bind fun q23 =>
      if q23.1 = true then
      if ((28 : Int32) + x5) < 0 ∨ 1875 ≤ ((28 : Int32) + x5).toNatClampNeg then none else
      if (q23.2.1 142 ((28 : Int32) + x5).toNatClampNeg) = (1 : Int32) then
      if q20.1 = x1 then
      L_X12_gainOf w c 1 q23.2 x1 x2 x3 x4 x5 (x6 + (1 : Int32))
      else
      if ((44 : Int32) + x5) < 0 ∨ 1875 ≤ ((44 : Int32) + x5).toNatClampNeg then none else
      L_X12_gainOf w c 1 q23.2 x1 x2 x3 (x4 + (q23.2.1 142 ((44 : Int32) + x5).toNatClampNeg)) x5 (x6 + (1 : Int32))
      else
      if q20.1 = x1 then
      if ((44 : Int32) + x5) < 0 ∨ 1875 ≤ ((44 : Int32) + x5).toNatClampNeg then none else
      L_X12_gainOf w c 1 q23.2 x1 x2 x3 (x4 + (q23.2.1 142 ((44 : Int32) + x5).toNatClampNeg)) x5 (x6 + (1 : Int32))
      else
      L_X12_gainOf w c 1 q23.2 x1 x2 x3 x4 x5 (x6 + (1 : Int32))
      else
      L_X12_gainOf w c 1 q23.2 x1 x2 x3 x4 x5 (x6 + (1 : Int32))
      else
      (F_X12_lyingBy w M x2 x6 x3).bind fun q7 =>
      if ((52 : Int32) + x5) < 0 ∨ 1875 ≤ ((52 : Int32) + x5).toNatClampNeg then none else
      (F_X12_has w q7.2 (q7.2.1 142 ((52 : Int32) + x5).toNatClampNeg) x6).bind fun q10 =>
      if q10.1 = true then
      if ((28 : Int32) + x5) < 0 ∨ 1875 ≤ ((28 : Int32) + x5).toNatClampNeg then none else
      if (q10.2.1 142 ((28 : Int32) + x5).toNatClampNeg) = (1 : Int32) then
      if q7.1 = x1 then
      L_X12_gainOf w c 1 q10.2 x1 x2 x3 x4 x5 (x6 + (1 : Int32))
      else
      if ((44 : Int32) + x5) < 0 ∨ 1875 ≤ ((44 : Int32) + x5).toNatClampNeg then none else
      L_X12_gainOf w c 1 q10.2 x1 x2 x3 (x4 + (q10.2.1 142 ((44 : Int32) + x5).toNatClampNeg)) x5 (x6 + (1 : Int32))
      else
      if q7.1 = x1 then
      if ((44 : Int32) + x5) < 0 ∨ 1875 ≤ ((44 : Int32) + x5).toNatClampNeg then none else
      L_X12_gainOf w c 1 q10.2 x1 x2 x3 (x4 + (q10.2.1 142 ((44 : Int32) + x5).toNatClampNeg)) x5 (x6 + (1 : Int32))
      else
      L_X12_gainOf w c 1 q10.2 x1 x2 x3 x4 x5 (x6 + (1 : Int32))
      else
      L_X12_gainOf w c 1 q10.2 x1 x2 x3 x4 x5 (x6 + (1 : Int32))
    else
    none
set_option maxHeartbeats 4000000 in
theorem AL_X12_gainOf {w : Nat} : ∀ (c : Nat), (∀ (M : z_Mem) (x1 : Int32) (x2 : Int32) (x3 : Int32) (x4 : Int32) (x5 : Int32) (x6 : Int32) (r : Int32) (M' : z_Mem) (Q : Option Value → z_Mem → Prop), L_X12_gainOf w c 0 M x1 x2 x3 x4 x5 x6 = some (r, M') → Q (some (.int r)) M' → z_G none 2 mX12_gainOf 6 [some (.ref 139), some (.int x1), some (.int x2), some (.int x3), some (.int x4), some (.int x5), none, none] [] M Q) ∧ (∀ (M : z_Mem) (x1 : Int32) (x2 : Int32) (x3 : Int32) (x4 : Int32) (x5 : Int32) (x6 : Int32) (r : Int32) (M' : z_Mem) (Q : Option Value → z_Mem → Prop), L_X12_gainOf w c 1 M x1 x2 x3 x4 x5 x6 = some (r, M') → Q (some (.int r)) M' → z_G none 2 mX12_gainOf 37 [some (.ref 139), some (.int x1), some (.int x2), some (.int x3), some (.int x4), some (.int x5), some (.int x6), none] [] M Q) := by
  intro c
  induction c with
  | zero => exact ⟨(fun M x1 x2 x3 x4 x5 x6 r M' Q h hq => by rw [L_X12_gainOf] at h; cases h), (fun M x1 x2 x3 x4 x5 x6 r M' Q h hq => by rw [L_X12_gainOf] at h; cases h)⟩
  | succ c ih =>
    refine ⟨fun M x1 x2 x3 x4 x5 x6 r M' Q h hq => ?_, fun M x1 x2 x3 x4 x5 x6 r M' Q h hq => ?_⟩
    · rw [L_X12_gainOf] at h
      replace h := z_ift rfl h
      refine g_iload dX12_gainOf_6 rfl ?_
      refine g_aload_n dX12_gainOf_8 rfl rfl ?_
      refine g_get (a := 137) (v := .ref 144) dX12_gainOf_9 f_12_35 sh_137 rfl rfl ?_
      refine g_iconst (v := (0 : Int32)) dX12_gainOf_12 (by decide) ?_
      refine g_ialN (a := 142) (j := 0) (v := M.1 142 0) dX12_gainOf_13 sh_142 rfl (by decide) rfl ?_
      refine g_ic_ge (t := 163) dX12_gainOf_14 (by decide) (fun c1 => ?_) (fun c1 => ?_)
      · replace h := z_ift c1 h
        refine g_iload dX12_gainOf_163 rfl ?_
        cases h
        exact g_iret dX12_gainOf_165 rfl rfl hq
      · replace h := z_iff c1 h
        refine g_aload_n dX12_gainOf_17 rfl rfl ?_
        refine g_get (a := 137) (v := .ref 144) dX12_gainOf_18 f_12_35 sh_137 rfl rfl ?_
        refine g_bipush (v := (20 : Int32)) dX12_gainOf_21 (by decide) ?_
        refine g_iload dX12_gainOf_23 rfl ?_
        refine g_iadd dX12_gainOf_25 ?_
        by_cases g2 : ((20 : Int32) + x5) < 0 ∨ 1875 ≤ ((20 : Int32) + x5).toNatClampNeg
        · rw [if_pos g2] at h; cases h
        replace h := z_iff g2 h
        refine g_iald (a := 142) dX12_gainOf_26 sh_142 g2 ?_
        refine g_iload_n dX12_gainOf_27 rfl rfl ?_
        refine g_ic_eq (t := 34) dX12_gainOf_28 (by decide) (fun c3 => ?_) (fun c3 => ?_)
        · replace h := z_ift c3 h
          refine g_iconst (v := (0 : Int32)) dX12_gainOf_34 (by decide) ?_
          refine g_istore (ls' := [some (.ref 139), some (.int x1), some (.int x2), some (.int x3), some (.int x4), some (.int x5), some (.int (0 : Int32)), none]) dX12_gainOf_35 (Nat.le_of_ble_eq_true rfl) rfl ?_
          exact g_sub (z_sub_s (z_sub_s (z_sub_s (z_sub_s (z_sub_s (z_sub_s (z_sub_s (z_sub_n z_sub_nil)))))))) (ih.2 _ _ _ _ _ _ _ _ _ _ h hq)
        · replace h := z_iff c3 h
          refine g_goto (t := 157) dX12_gainOf_31 (by decide) ?_
          refine g_iinc (v := x5 + (1 : Int32)) (ls' := [some (.ref 139), some (.int x1), some (.int x2), some (.int x3), some (.int x4), some (.int (x5 + (1 : Int32))), none, none]) dX12_gainOf_157 rfl rfl rfl ?_
          refine g_goto (t := 6) dX12_gainOf_160 (by decide) ?_
          exact g_sub (z_sub_s (z_sub_s (z_sub_s (z_sub_s (z_sub_s (z_sub_s (z_sub_n (z_sub_n z_sub_nil)))))))) (ih.1 _ _ _ _ _ _ _ _ _ _ h hq)
    · rw [L_X12_gainOf] at h
      replace h := z_iff (by decide) h
      replace h := z_ift rfl h
      refine g_iload dX12_gainOf_37 rfl ?_
      refine g_bipush (v := (12 : Int32)) dX12_gainOf_39 (by decide) ?_
      refine g_ic_ge (t := 157) dX12_gainOf_41 (by decide) (fun c4 => ?_) (fun c4 => ?_)
      · replace h := z_ift c4 h
        refine g_iinc (v := x5 + (1 : Int32)) (ls' := [some (.ref 139), some (.int x1), some (.int x2), some (.int x3), some (.int x4), some (.int (x5 + (1 : Int32))), some (.int x6), none]) dX12_gainOf_157 rfl rfl rfl ?_
        refine g_goto (t := 6) dX12_gainOf_160 (by decide) ?_
        exact g_sub (z_sub_s (z_sub_s (z_sub_s (z_sub_s (z_sub_s (z_sub_s (z_sub_n (z_sub_n z_sub_nil)))))))) (ih.1 _ _ _ _ _ _ _ _ _ _ h hq)
      · replace h := z_iff c4 h
        refine g_iload_n dX12_gainOf_44 rfl rfl ?_
        refine g_aload_n dX12_gainOf_45 rfl rfl ?_
        refine g_get (a := 137) (v := .ref 144) dX12_gainOf_46 f_12_35 sh_137 rfl rfl ?_
        refine g_bipush (v := (28 : Int32)) dX12_gainOf_49 (by decide) ?_
        refine g_iload dX12_gainOf_51 rfl ?_
        refine g_iadd dX12_gainOf_53 ?_
        by_cases g5 : ((28 : Int32) + x5) < 0 ∨ 1875 ≤ ((28 : Int32) + x5).toNatClampNeg
        · rw [if_pos g5] at h; cases h
        replace h := z_iff g5 h
        refine g_iald (a := 142) dX12_gainOf_54 sh_142 g5 ?_
        refine g_iconst (v := (2 : Int32)) dX12_gainOf_55 (by decide) ?_
        refine g_ic_ne (t := 81) dX12_gainOf_56 (by decide) (fun c6 => ?_) (fun c6 => ?_)
        · replace h := z_iff c6 h
          refine g_iload dX12_gainOf_81 rfl ?_
          refine g_iload_n dX12_gainOf_83 rfl rfl ?_
          obtain ⟨q7, e8, h⟩ := z_bd h
          refine g_callS (as := [.int x2, .int x6, .int x3]) (rest := []) (c := mX12_lyingBy) (k1 := 1) dX12_gainOf_84 rfl rfl rfl rfl rfl (Nat.le_of_ble_eq_true rfl) (Nat.le_of_ble_eq_true rfl) (by decide) ?_
          refine A_X12_lyingBy e8 ?_
          show z_G none 2 mX12_gainOf 87 [some (.ref 139), some (.int x1), some (.int x2), some (.int x3), some (.int x4), some (.int x5), some (.int x6), none] [.int q7.1] q7.2 Q
          refine g_istore (ls' := [some (.ref 139), some (.int x1), some (.int x2), some (.int x3), some (.int x4), some (.int x5), some (.int x6), some (.int q7.1)]) dX12_gainOf_87 (Nat.le_of_ble_eq_true rfl) rfl ?_
          refine g_aload_n dX12_gainOf_89 rfl rfl ?_
          refine g_get (a := 137) (v := .ref 144) dX12_gainOf_90 f_12_35 sh_137 rfl rfl ?_
          refine g_bipush (v := (52 : Int32)) dX12_gainOf_93 (by decide) ?_
          refine g_iload dX12_gainOf_95 rfl ?_
          refine g_iadd dX12_gainOf_97 ?_
          by_cases g9 : ((52 : Int32) + x5) < 0 ∨ 1875 ≤ ((52 : Int32) + x5).toNatClampNeg
          · rw [if_pos g9] at h; cases h
          replace h := z_iff g9 h
          refine g_iald (a := 142) dX12_gainOf_98 sh_142 g9 ?_
          refine g_iload dX12_gainOf_99 rfl ?_
          obtain ⟨q10, e11, h⟩ := z_bd h
          refine g_callS (as := [.int (q7.2.1 142 ((52 : Int32) + x5).toNatClampNeg), .int x6]) (rest := []) (c := mX12_has) (k1 := 0) dX12_gainOf_101 rfl rfl rfl rfl rfl (Nat.le_of_ble_eq_true rfl) (Nat.le_of_ble_eq_true rfl) (by decide) ?_
          refine A_X12_has e11 ?_
          show z_G none 2 mX12_gainOf 104 [some (.ref 139), some (.int x1), some (.int x2), some (.int x3), some (.int x4), some (.int x5), some (.int x6), some (.int q7.1)] [.int (z_tb q10.1)] q10.2 Q
          refine g_if_eq (t := 151) dX12_gainOf_104 (by decide) (fun c12 => ?_) (fun c12 => ?_)
          · replace h := z_iff (z_tb0.mp c12) h
            refine g_iinc (v := x6 + (1 : Int32)) (ls' := [some (.ref 139), some (.int x1), some (.int x2), some (.int x3), some (.int x4), some (.int x5), some (.int (x6 + (1 : Int32))), some (.int q7.1)]) dX12_gainOf_151 rfl rfl rfl ?_
            refine g_goto (t := 37) dX12_gainOf_154 (by decide) ?_
            exact g_sub (z_sub_s (z_sub_s (z_sub_s (z_sub_s (z_sub_s (z_sub_s (z_sub_s (z_sub_n z_sub_nil)))))))) (ih.2 _ _ _ _ _ _ _ _ _ _ h hq)
          · replace h := z_ift (z_tbn.mp c12) h
            refine g_aload_n dX12_gainOf_107 rfl rfl ?_
            refine g_get (a := 137) (v := .ref 144) dX12_gainOf_108 f_12_35 sh_137 rfl rfl ?_
            refine g_bipush (v := (28 : Int32)) dX12_gainOf_111 (by decide) ?_
            refine g_iload dX12_gainOf_113 rfl ?_
            refine g_iadd dX12_gainOf_115 ?_
            by_cases g13 : ((28 : Int32) + x5) < 0 ∨ 1875 ≤ ((28 : Int32) + x5).toNatClampNeg
            · rw [if_pos g13] at h; cases h
            replace h := z_iff g13 h
            refine g_iald (a := 142) dX12_gainOf_116 sh_142 g13 ?_
            refine g_iconst (v := (1 : Int32)) dX12_gainOf_117 (by decide) ?_
            refine g_ic_ne (t := 130) dX12_gainOf_118 (by decide) (fun c14 => ?_) (fun c14 => ?_)
            · replace h := z_iff c14 h
              refine g_iload dX12_gainOf_130 rfl ?_
              refine g_iload_n dX12_gainOf_132 rfl rfl ?_
              refine g_ic_ne (t := 151) dX12_gainOf_133 (by decide) (fun c15 => ?_) (fun c15 => ?_)
              · replace h := z_iff c15 h
                refine g_iinc (v := x6 + (1 : Int32)) (ls' := [some (.ref 139), some (.int x1), some (.int x2), some (.int x3), some (.int x4), some (.int x5), some (.int (x6 + (1 : Int32))), some (.int q7.1)]) dX12_gainOf_151 rfl rfl rfl ?_
                refine g_goto (t := 37) dX12_gainOf_154 (by decide) ?_
                exact g_sub (z_sub_s (z_sub_s (z_sub_s (z_sub_s (z_sub_s (z_sub_s (z_sub_s (z_sub_n z_sub_nil)))))))) (ih.2 _ _ _ _ _ _ _ _ _ _ h hq)
              · replace h := z_ift c15 h
                refine g_iload dX12_gainOf_136 rfl ?_
                refine g_aload_n dX12_gainOf_138 rfl rfl ?_
                refine g_get (a := 137) (v := .ref 144) dX12_gainOf_139 f_12_35 sh_137 rfl rfl ?_
                refine g_bipush (v := (44 : Int32)) dX12_gainOf_142 (by decide) ?_
                refine g_iload dX12_gainOf_144 rfl ?_
                refine g_iadd dX12_gainOf_146 ?_
                by_cases g16 : ((44 : Int32) + x5) < 0 ∨ 1875 ≤ ((44 : Int32) + x5).toNatClampNeg
                · rw [if_pos g16] at h; cases h
                replace h := z_iff g16 h
                refine g_iald (a := 142) dX12_gainOf_147 sh_142 g16 ?_
                refine g_iadd dX12_gainOf_148 ?_
                refine g_istore (ls' := [some (.ref 139), some (.int x1), some (.int x2), some (.int x3), some (.int (x4 + (q10.2.1 142 ((44 : Int32) + x5).toNatClampNeg))), some (.int x5), some (.int x6), some (.int q7.1)]) dX12_gainOf_149 (Nat.le_of_ble_eq_true rfl) rfl ?_
                refine g_iinc (v := x6 + (1 : Int32)) (ls' := [some (.ref 139), some (.int x1), some (.int x2), some (.int x3), some (.int (x4 + (q10.2.1 142 ((44 : Int32) + x5).toNatClampNeg))), some (.int x5), some (.int (x6 + (1 : Int32))), some (.int q7.1)]) dX12_gainOf_151 rfl rfl rfl ?_
                refine g_goto (t := 37) dX12_gainOf_154 (by decide) ?_
                exact g_sub (z_sub_s (z_sub_s (z_sub_s (z_sub_s (z_sub_s (z_sub_s (z_sub_s (z_sub_n z_sub_nil)))))))) (ih.2 _ _ _ _ _ _ _ _ _ _ h hq)
            · replace h := z_ift c14 h
              refine g_iload dX12_gainOf_121 rfl ?_
              refine g_iload_n dX12_gainOf_123 rfl rfl ?_
              refine g_ic_eq (t := 151) dX12_gainOf_124 (by decide) (fun c17 => ?_) (fun c17 => ?_)
              · replace h := z_ift c17 h
                refine g_iinc (v := x6 + (1 : Int32)) (ls' := [some (.ref 139), some (.int x1), some (.int x2), some (.int x3), some (.int x4), some (.int x5), some (.int (x6 + (1 : Int32))), some (.int q7.1)]) dX12_gainOf_151 rfl rfl rfl ?_
                refine g_goto (t := 37) dX12_gainOf_154 (by decide) ?_
                exact g_sub (z_sub_s (z_sub_s (z_sub_s (z_sub_s (z_sub_s (z_sub_s (z_sub_s (z_sub_n z_sub_nil)))))))) (ih.2 _ _ _ _ _ _ _ _ _ _ h hq)
              · replace h := z_iff c17 h
                refine g_goto (t := 136) dX12_gainOf_127 (by decide) ?_
                refine g_iload dX12_gainOf_136 rfl ?_
                refine g_aload_n dX12_gainOf_138 rfl rfl ?_
                refine g_get (a := 137) (v := .ref 144) dX12_gainOf_139 f_12_35 sh_137 rfl rfl ?_
                refine g_bipush (v := (44 : Int32)) dX12_gainOf_142 (by decide) ?_
                refine g_iload dX12_gainOf_144 rfl ?_
                refine g_iadd dX12_gainOf_146 ?_
                by_cases g18 : ((44 : Int32) + x5) < 0 ∨ 1875 ≤ ((44 : Int32) + x5).toNatClampNeg
                · rw [if_pos g18] at h; cases h
                replace h := z_iff g18 h
                refine g_iald (a := 142) dX12_gainOf_147 sh_142 g18 ?_
                refine g_iadd dX12_gainOf_148 ?_
                refine g_istore (ls' := [some (.ref 139), some (.int x1), some (.int x2), some (.int x3), some (.int (x4 + (q10.2.1 142 ((44 : Int32) + x5).toNatClampNeg))), some (.int x5), some (.int x6), some (.int q7.1)]) dX12_gainOf_149 (Nat.le_of_ble_eq_true rfl) rfl ?_
                refine g_iinc (v := x6 + (1 : Int32)) (ls' := [some (.ref 139), some (.int x1), some (.int x2), some (.int x3), some (.int (x4 + (q10.2.1 142 ((44 : Int32) + x5).toNatClampNeg))), some (.int x5), some (.int (x6 + (1 : Int32))), some (.int q7.1)]) dX12_gainOf_151 rfl rfl rfl ?_
                refine g_goto (t := 37) dX12_gainOf_154 (by decide) ?_
                exact g_sub (z_sub_s (z_sub_s (z_sub_s (z_sub_s (z_sub_s (z_sub_s (z_sub_s (z_sub_n z_sub_nil)))))))) (ih.2 _ _ _ _ _ _ _ _ _ _ h hq)
        · replace h := z_ift c6 h
          refine g_iload dX12_gainOf_59 rfl ?_
          refine g_bipush (v := (12 : Int32)) dX12_gainOf_61 (by decide) ?_
          refine g_iadd dX12_gainOf_63 ?_
          refine g_aload_n dX12_gainOf_64 rfl rfl ?_
          refine g_get (a := 137) (v := .ref 144) dX12_gainOf_65 f_12_35 sh_137 rfl rfl ?_
          refine g_bipush (v := (36 : Int32)) dX12_gainOf_68 (by decide) ?_
          refine g_iload dX12_gainOf_70 rfl ?_
          refine g_iadd dX12_gainOf_72 ?_
          by_cases g19 : ((36 : Int32) + x5) < 0 ∨ 1875 ≤ ((36 : Int32) + x5).toNatClampNeg
          · rw [if_pos g19] at h; cases h
          replace h := z_iff g19 h
          refine g_iald (a := 142) dX12_gainOf_73 sh_142 g19 ?_
          refine g_isub dX12_gainOf_74 ?_
          refine g_bipush (v := (12 : Int32)) dX12_gainOf_75 (by decide) ?_
          refine g_irem dX12_gainOf_77 (by decide) ?_
          refine g_goto (t := 83) dX12_gainOf_78 (by decide) ?_
          refine g_iload_n dX12_gainOf_83 rfl rfl ?_
          obtain ⟨q20, e21, h⟩ := z_bd h
          refine g_callS (as := [.int x2, .int (((x6 + (12 : Int32)) - (M.1 142 ((36 : Int32) + x5).toNatClampNeg)) - ((x6 + (12 : Int32)) - (M.1 142 ((36 : Int32) + x5).toNatClampNeg)) / (12 : Int32) * (12 : Int32)), .int x3]) (rest := []) (c := mX12_lyingBy) (k1 := 1) dX12_gainOf_84 rfl rfl rfl rfl rfl (Nat.le_of_ble_eq_true rfl) (Nat.le_of_ble_eq_true rfl) (by decide) ?_
          refine A_X12_lyingBy e21 ?_
          show z_G none 2 mX12_gainOf 87 [some (.ref 139), some (.int x1), some (.int x2), some (.int x3), some (.int x4), some (.int x5), some (.int x6), none] [.int q20.1] q20.2 Q
          refine g_istore (ls' := [some (.ref 139), some (.int x1), some (.int x2), some (.int x3), some (.int x4), some (.int x5), some (.int x6), some (.int q20.1)]) dX12_gainOf_87 (Nat.le_of_ble_eq_true rfl) rfl ?_
          refine g_aload_n dX12_gainOf_89 rfl rfl ?_
          refine g_get (a := 137) (v := .ref 144) dX12_gainOf_90 f_12_35 sh_137 rfl rfl ?_
          refine g_bipush (v := (52 : Int32)) dX12_gainOf_93 (by decide) ?_
          refine g_iload dX12_gainOf_95 rfl ?_
          refine g_iadd dX12_gainOf_97 ?_
          by_cases g22 : ((52 : Int32) + x5) < 0 ∨ 1875 ≤ ((52 : Int32) + x5).toNatClampNeg
          · rw [if_pos g22] at h; cases h
          replace h := z_iff g22 h
          refine g_iald (a := 142) dX12_gainOf_98 sh_142 g22 ?_
          refine g_iload dX12_gainOf_99 rfl ?_
          obtain ⟨q23, e24, h⟩ := z_bd h
          refine g_callS (as := [.int (q20.2.1 142 ((52 : Int32) + x5).toNatClampNeg), .int x6]) (rest := []) (c := mX12_has) (k1 := 0) dX12_gainOf_101 rfl rfl rfl rfl rfl (Nat.le_of_ble_eq_true rfl) (Nat.le_of_ble_eq_true rfl) (by decide) ?_
          refine A_X12_has e24 ?_
          show z_G none 2 mX12_gainOf 104 [some (.ref 139), some (.int x1), some (.int x2), some (.int x3), some (.int x4), some (.int x5), some (.int x6), some (.int q20.1)] [.int (z_tb q23.1)] q23.2 Q
          refine g_if_eq (t := 151) dX12_gainOf_104 (by decide) (fun c25 => ?_) (fun c25 => ?_)
          · replace h := z_iff (z_tb0.mp c25) h
            refine g_iinc (v := x6 + (1 : Int32)) (ls' := [some (.ref 139), some (.int x1), some (.int x2), some (.int x3), some (.int x4), some (.int x5), some (.int (x6 + (1 : Int32))), some (.int q20.1)]) dX12_gainOf_151 rfl rfl rfl ?_
            refine g_goto (t := 37) dX12_gainOf_154 (by decide) ?_
            exact g_sub (z_sub_s (z_sub_s (z_sub_s (z_sub_s (z_sub_s (z_sub_s (z_sub_s (z_sub_n z_sub_nil)))))))) (ih.2 _ _ _ _ _ _ _ _ _ _ h hq)
          · replace h := z_ift (z_tbn.mp c25) h
            refine g_aload_n dX12_gainOf_107 rfl rfl ?_
            refine g_get (a := 137) (v := .ref 144) dX12_gainOf_108 f_12_35 sh_137 rfl rfl ?_
            refine g_bipush (v := (28 : Int32)) dX12_gainOf_111 (by decide) ?_
            refine g_iload dX12_gainOf_113 rfl ?_
            refine g_iadd dX12_gainOf_115 ?_
            by_cases g26 : ((28 : Int32) + x5) < 0 ∨ 1875 ≤ ((28 : Int32) + x5).toNatClampNeg
            · rw [if_pos g26] at h; cases h
            replace h := z_iff g26 h
            refine g_iald (a := 142) dX12_gainOf_116 sh_142 g26 ?_
            refine g_iconst (v := (1 : Int32)) dX12_gainOf_117 (by decide) ?_
            refine g_ic_ne (t := 130) dX12_gainOf_118 (by decide) (fun c27 => ?_) (fun c27 => ?_)
            · replace h := z_iff c27 h
              refine g_iload dX12_gainOf_130 rfl ?_
              refine g_iload_n dX12_gainOf_132 rfl rfl ?_
              refine g_ic_ne (t := 151) dX12_gainOf_133 (by decide) (fun c28 => ?_) (fun c28 => ?_)
              · replace h := z_iff c28 h
                refine g_iinc (v := x6 + (1 : Int32)) (ls' := [some (.ref 139), some (.int x1), some (.int x2), some (.int x3), some (.int x4), some (.int x5), some (.int (x6 + (1 : Int32))), some (.int q20.1)]) dX12_gainOf_151 rfl rfl rfl ?_
                refine g_goto (t := 37) dX12_gainOf_154 (by decide) ?_
                exact g_sub (z_sub_s (z_sub_s (z_sub_s (z_sub_s (z_sub_s (z_sub_s (z_sub_s (z_sub_n z_sub_nil)))))))) (ih.2 _ _ _ _ _ _ _ _ _ _ h hq)
              · replace h := z_ift c28 h
                refine g_iload dX12_gainOf_136 rfl ?_
                refine g_aload_n dX12_gainOf_138 rfl rfl ?_
                refine g_get (a := 137) (v := .ref 144) dX12_gainOf_139 f_12_35 sh_137 rfl rfl ?_
                refine g_bipush (v := (44 : Int32)) dX12_gainOf_142 (by decide) ?_
                refine g_iload dX12_gainOf_144 rfl ?_
                refine g_iadd dX12_gainOf_146 ?_
                by_cases g29 : ((44 : Int32) + x5) < 0 ∨ 1875 ≤ ((44 : Int32) + x5).toNatClampNeg
                · rw [if_pos g29] at h; cases h
                replace h := z_iff g29 h
                refine g_iald (a := 142) dX12_gainOf_147 sh_142 g29 ?_
                refine g_iadd dX12_gainOf_148 ?_
                refine g_istore (ls' := [some (.ref 139), some (.int x1), some (.int x2), some (.int x3), some (.int (x4 + (q23.2.1 142 ((44 : Int32) + x5).toNatClampNeg))), some (.int x5), some (.int x6), some (.int q20.1)]) dX12_gainOf_149 (Nat.le_of_ble_eq_true rfl) rfl ?_
                refine g_iinc (v := x6 + (1 : Int32)) (ls' := [some (.ref 139), some (.int x1), some (.int x2), some (.int x3), some (.int (x4 + (q23.2.1 142 ((44 : Int32) + x5).toNatClampNeg))), some (.int x5), some (.int (x6 + (1 : Int32))), some (.int q20.1)]) dX12_gainOf_151 rfl rfl rfl ?_
                refine g_goto (t := 37) dX12_gainOf_154 (by decide) ?_
                exact g_sub (z_sub_s (z_sub_s (z_sub_s (z_sub_s (z_sub_s (z_sub_s (z_sub_s (z_sub_n z_sub_nil)))))))) (ih.2 _ _ _ _ _ _ _ _ _ _ h hq)
            · replace h := z_ift c27 h
              refine g_iload dX12_gainOf_121 rfl ?_
              refine g_iload_n dX12_gainOf_123 rfl rfl ?_
              refine g_ic_eq (t := 151) dX12_gainOf_124 (by decide) (fun c30 => ?_) (fun c30 => ?_)
              · replace h := z_ift c30 h
                refine g_iinc (v := x6 + (1 : Int32)) (ls' := [some (.ref 139), some (.int x1), some (.int x2), some (.int x3), some (.int x4), some (.int x5), some (.int (x6 + (1 : Int32))), some (.int q20.1)]) dX12_gainOf_151 rfl rfl rfl ?_
                refine g_goto (t := 37) dX12_gainOf_154 (by decide) ?_
                exact g_sub (z_sub_s (z_sub_s (z_sub_s (z_sub_s (z_sub_s (z_sub_s (z_sub_s (z_sub_n z_sub_nil)))))))) (ih.2 _ _ _ _ _ _ _ _ _ _ h hq)
              · replace h := z_iff c30 h
                refine g_goto (t := 136) dX12_gainOf_127 (by decide) ?_
                refine g_iload dX12_gainOf_136 rfl ?_
                refine g_aload_n dX12_gainOf_138 rfl rfl ?_
                refine g_get (a := 137) (v := .ref 144) dX12_gainOf_139 f_12_35 sh_137 rfl rfl ?_
                refine g_bipush (v := (44 : Int32)) dX12_gainOf_142 (by decide) ?_
                refine g_iload dX12_gainOf_144 rfl ?_
                refine g_iadd dX12_gainOf_146 ?_
                by_cases g31 : ((44 : Int32) + x5) < 0 ∨ 1875 ≤ ((44 : Int32) + x5).toNatClampNeg
                · rw [if_pos g31] at h; cases h
                replace h := z_iff g31 h
                refine g_iald (a := 142) dX12_gainOf_147 sh_142 g31 ?_
                refine g_iadd dX12_gainOf_148 ?_
                refine g_istore (ls' := [some (.ref 139), some (.int x1), some (.int x2), some (.int x3), some (.int (x4 + (q23.2.1 142 ((44 : Int32) + x5).toNatClampNeg))), some (.int x5), some (.int x6), some (.int q20.1)]) dX12_gainOf_149 (Nat.le_of_ble_eq_true rfl) rfl ?_
                refine g_iinc (v := x6 + (1 : Int32)) (ls' := [some (.ref 139), some (.int x1), some (.int x2), some (.int x3), some (.int (x4 + (q23.2.1 142 ((44 : Int32) + x5).toNatClampNeg))), some (.int x5), some (.int (x6 + (1 : Int32))), some (.int q20.1)]) dX12_gainOf_151 rfl rfl rfl ?_
                refine g_goto (t := 37) dX12_gainOf_154 (by decide) ?_
                exact g_sub (z_sub_s (z_sub_s (z_sub_s (z_sub_s (z_sub_s (z_sub_s (z_sub_s (z_sub_n z_sub_nil)))))))) (ih.2 _ _ _ _ _ _ _ _ _ _ h hq)
def F_X12_gainOf (w : Nat) (M : z_Mem) (a1 : Int32) (a2 : Int32) (a3 : Int32) : Option (Int32 × z_Mem) :=
  L_X12_gainOf w w 0 M a1 a2 a3 (0 : Int32) (0 : Int32) 0
set_option maxHeartbeats 4000000 in
theorem A_X12_gainOf {w : Nat} {M : z_Mem} {a1 : Int32} {a2 : Int32} {a3 : Int32} {r : Int32} {M' : z_Mem} {Q : Option Value → z_Mem → Prop} (h : F_X12_gainOf w M a1 a2 a3 = some (r, M')) (hq : Q (some (.int r)) M') : z_Cl 2 mX12_gainOf [.ref 139, .int a1, .int a2, .int a3] M Q := by
  refine g_in (ls := [some (.ref 139), some (.int a1), some (.int a2), some (.int a3), none, none, none, none]) rfl ?_
  unfold F_X12_gainOf at h
  refine g_iconst (v := (0 : Int32)) dX12_gainOf_0 (by decide) ?_
  refine g_istore (ls' := [some (.ref 139), some (.int a1), some (.int a2), some (.int a3), some (.int (0 : Int32)), none, none, none]) dX12_gainOf_1 (Nat.le_of_ble_eq_true rfl) rfl ?_
  refine g_iconst (v := (0 : Int32)) dX12_gainOf_3 (by decide) ?_
  refine g_istore (ls' := [some (.ref 139), some (.int a1), some (.int a2), some (.int a3), some (.int (0 : Int32)), some (.int (0 : Int32)), none, none]) dX12_gainOf_4 (Nat.le_of_ble_eq_true rfl) rfl ?_
  exact g_sub (z_sub_s (z_sub_s (z_sub_s (z_sub_s (z_sub_s (z_sub_s (z_sub_n (z_sub_n z_sub_nil)))))))) ((AL_X12_gainOf (w := w) w).1 _ _ _ _ _ _ _ _ _ _ h hq)
