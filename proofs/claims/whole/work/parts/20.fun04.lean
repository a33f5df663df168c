/-! ===== the methods as functions, 4 ===== -/
theorem dX10_readText_0 : decode cX10_readText 0 = .ok (.aload_n 0, 1) := by decide +kernel
theorem dX10_readText_1 : decode cX10_readText 1 = .ok (.getfield 19, 3) := by decide +kernel
theorem dX10_readText_4 : decode cX10_readText 4 = .ok (.invokevirtual 23, 3) := by decide +kernel
theorem dX10_readText_7 : decode cX10_readText 7 = .ok (.aload_n 0, 1) := by decide +kernel
theorem dX10_readText_8 : decode cX10_readText 8 = .ok (.iconst 0, 1) := by decide +kernel
theorem dX10_readText_9 : decode cX10_readText 9 = .ok (.putfield 28, 3) := by decide +kernel
theorem dX10_readText_12 : decode cX10_readText 12 = .ok (.aload_n 0, 1) := by decide +kernel
theorem dX10_readText_13 : decode cX10_readText 13 = .ok (.getfield 15, 3) := by decide +kernel
theorem dX10_readText_16 : decode cX10_readText 16 = .ok (.iload_n 1, 1) := by decide +kernel
theorem dX10_readText_17 : decode cX10_readText 17 = .ok (.invokevirtual 32, 3) := by decide +kernel
theorem dX10_readText_20 : decode cX10_readText 20 = .ok (.iconst 0, 1) := by decide +kernel
theorem dX10_readText_21 : decode cX10_readText 21 = .ok (.istore_n 2, 1) := by decide +kernel
theorem dX10_readText_22 : decode cX10_readText 22 = .ok (.iload_n 2, 1) := by decide +kernel
theorem dX10_readText_23 : decode cX10_readText 23 = .ok (.iload_n 1, 1) := by decide +kernel
theorem dX10_readText_24 : decode cX10_readText 24 = .ok (.if_icmp .gt 51, 3) := by decide +kernel
theorem dX10_readText_27 : decode cX10_readText 27 = .ok (.aload_n 0, 1) := by decide +kernel
theorem dX10_readText_28 : decode cX10_readText 28 = .ok (.getfield 15, 3) := by decide +kernel
theorem dX10_readText_31 : decode cX10_readText 31 = .ok (.getfield 37, 3) := by decide +kernel
theorem dX10_readText_34 : decode cX10_readText 34 = .ok (.bipush 38, 2) := by decide +kernel
theorem dX10_readText_36 : decode cX10_readText 36 = .ok (.if_icmp .eq 39, 3) := by decide +kernel
theorem dX10_readText_39 : decode cX10_readText 39 = .ok (.aload_n 0, 1) := by decide +kernel
theorem dX10_readText_40 : decode cX10_readText 40 = .ok (.getfield 15, 3) := by decide +kernel
theorem dX10_readText_43 : decode cX10_readText 43 = .ok (.getfield 37, 3) := by decide +kernel
theorem dX10_readText_46 : decode cX10_readText 46 = .ok (.bipush 28, 2) := by decide +kernel
theorem dX10_readText_48 : decode cX10_readText 48 = .ok (.if_icmp .ne 10, 3) := by decide +kernel
theorem dX10_readText_51 : decode cX10_readText 51 = .ok (.aload_n 0, 1) := by decide +kernel
theorem dX10_readText_52 : decode cX10_readText 52 = .ok (.invokevirtual 40, 3) := by decide +kernel
theorem dX10_readText_55 : decode cX10_readText 55 = .ok (.goto 7, 3) := by decide +kernel
theorem dX10_readText_58 : decode cX10_readText 58 = .ok (.aload_n 0, 1) := by decide +kernel
theorem dX10_readText_59 : decode cX10_readText 59 = .ok (.invokevirtual 44, 3) := by decide +kernel
theorem dX10_readText_62 : decode cX10_readText 62 = .ok (.istore_n 3, 1) := by decide +kernel
theorem dX10_readText_63 : decode cX10_readText 63 = .ok (.iload_n 3, 1) := by decide +kernel
theorem dX10_readText_64 : decode cX10_readText 64 = .ok (.ifCond .ne 5, 3) := by decide +kernel
theorem dX10_readText_67 : decode cX10_readText 67 = .ok (.iconst 0, 1) := by decide +kernel
theorem dX10_readText_68 : decode cX10_readText 68 = .ok (.ireturn, 1) := by decide +kernel
theorem dX10_readText_69 : decode cX10_readText 69 = .ok (.iinc 2 1, 3) := by decide +kernel
theorem dX10_readText_72 : decode cX10_readText 72 = .ok (.goto (-50), 3) := by decide +kernel
theorem dX10_readText_75 : decode cX10_readText 75 = .ok (.aload_n 0, 1) := by decide +kernel
theorem dX10_readText_76 : decode cX10_readText 76 = .ok (.getfield 28, 3) := by decide +kernel
theorem dX10_readText_79 : decode cX10_readText 79 = .ok (.ifCond .le 12, 3) := by decide +kernel
theorem dX10_readText_82 : decode cX10_readText 82 = .ok (.aload_n 0, 1) := by decide +kernel
theorem dX10_readText_83 : decode cX10_readText 83 = .ok (.getfield 15, 3) := by decide +kernel
theorem dX10_readText_86 : decode cX10_readText 86 = .ok (.iconst 2, 1) := by decide +kernel
theorem dX10_readText_87 : decode cX10_readText 87 = .ok (.invokevirtual 47, 3) := by decide +kernel
theorem dX10_readText_90 : decode cX10_readText 90 = .ok (.ireturn, 1) := by decide +kernel
theorem dX10_readText_91 : decode cX10_readText 91 = .ok (.aload_n 0, 1) := by decide +kernel
theorem dX10_readText_92 : decode cX10_readText 92 = .ok (.getfield 19, 3) := by decide +kernel
theorem dX10_readText_95 : decode cX10_readText 95 = .ok (.iconst 1, 1) := by decide +kernel
theorem dX10_readText_96 : decode cX10_readText 96 = .ok (.putfield 51, 3) := by decide +kernel
theorem dX10_readText_99 : decode cX10_readText 99 = .ok (.iconst 1, 1) := by decide +kernel
theorem dX10_readText_100 : decode cX10_readText 100 = .ok (.ireturn, 1) := by decide +kernel
def L_X10_readText (w : Nat) : Nat → z_Mem → Int32 → Int32 → Option (Bool × z_Mem)
  | 0, _, _, _ => none
  | c + 1, M, x1, x2 =>
    if x1 < x2 then
    if (M.1 56 3) ≤ (0 : Int32) then
    some (true, (z_wI M 47 7 (1 : Int32)))
    else
    (F_X7_fail w M (2 : Int32)).bind fun q3 =>
    some (q3.1, q3.2)
    else
    if (M.1 5 3) = (38 : Int32) then
    if (M.1 56 3) ≤ (0 : Int32) then
    some (true, (z_wI M 47 7 (1 : Int32)))
    else
    (F_X7_fail w M (2 : Int32)).bind fun q7 =>
    some (q7.1, q7.2)
    else
    if (M.1 5 3) = (28 : Int32) then
    (F_X10_readEnd w M).bind fun q13 =>
    if q13.1 = true then
    L_X10_readText w c q13.2 x1 (x2 + (1 : Int32))
    else
    some (false, q13.2)
    else
    (F_X10_readStep w M).bind fun q10 =>
    if q10.1 = true then
    L_X10_readText w c q10.2 x1 (x2 + (1 : Int32))
    else
    some (false, q10.2)
set_option maxHeartbeats 4000000 in
theorem AL_X10_readText {w : Nat} : ∀ (c : Nat), (∀ (M : z_Mem) (x1 : Int32) (x2 : Int32) (r : Bool) (M' : z_Mem) (Q : Option Value → z_Mem → Prop), L_X10_readText w c M x1 x2 = some (r, M') → Q (some (.int (z_tb r))) M' → z_G none 6 mX10_readText 22 [some (.ref 58), some (.int x1), some (.int x2), none] [] M Q) := by
  intro c
  induction c with
  | zero => exact (fun M x1 x2 r M' Q h hq => by rw [L_X10_readText] at h; cases h)
  | succ c ih =>
    intro M x1 x2 r M' Q h hq
    rw [L_X10_readText] at h
    refine g_iload_n dX10_readText_22 rfl rfl ?_
    refine g_iload_n dX10_readText_23 rfl rfl ?_
    refine g_ic_gt (t := 75) dX10_readText_24 (by decide) (fun c1 => ?_) (fun c1 => ?_)
    · replace h := z_ift c1 h
      refine g_aload_n dX10_readText_75 rfl rfl ?_
      refine g_get (a := 56) (v := .int (M.1 56 3)) dX10_readText_76 f_10_28 sh_56 rfl rfl ?_
      refine g_if_le (t := 91) dX10_readText_79 (by decide) (fun c2 => ?_) (fun c2 => ?_)
      · replace h := z_ift c2 h
        refine g_aload_n dX10_readText_91 rfl rfl ?_
        refine g_get (a := 56) (v := .ref 49) dX10_readText_92 f_10_19 sh_56 rfl rfl ?_
        refine g_iconst (v := (1 : Int32)) dX10_readText_95 (by decide) ?_
        refine g_putZ (a := 47) dX10_readText_96 f_10_51 sh_47 rfl rfl rfl (by first | exact Or.inl rfl | exact Or.inr rfl | exact z_tb01) ?_
        refine g_iconst (v := (1 : Int32)) dX10_readText_99 (by decide) ?_
        cases h
        exact g_iret dX10_readText_100 rfl rfl hq
      · replace h := z_iff c2 h
        refine g_aload_n dX10_readText_82 rfl rfl ?_
        refine g_get (a := 56) (v := .ref 7) dX10_readText_83 f_10_15 sh_56 rfl rfl ?_
        refine g_iconst (v := (2 : Int32)) dX10_readText_86 (by decide) ?_
        obtain ⟨q3, e4, h⟩ := z_bd h
        refine g_callV (a := 5) (as := [.int (2 : Int32)]) (rest := []) (c := mX7_fail) (k1 := 0) dX10_readText_87 rfl rfl rfl sh_5 rfl rfl (Nat.le_of_ble_eq_true rfl) (Nat.le_of_ble_eq_true rfl) (by decide) ?_
        refine A_X7_fail e4 ?_
        show z_G none 6 mX10_readText 90 [some (.ref 58), some (.int x1), some (.int x2), none] [.int (z_tb q3.1)] q3.2 Q
        cases h
        exact g_iret dX10_readText_90 rfl nb_tb hq
    · replace h := z_iff c1 h
      refine g_aload_n dX10_readText_27 rfl rfl ?_
      refine g_get (a := 56) (v := .ref 7) dX10_readText_28 f_10_15 sh_56 rfl rfl ?_
      refine g_get (a := 5) (v := .int (M.1 5 3)) dX10_readText_31 f_10_37 sh_5 rfl rfl ?_
      refine g_bipush (v := (38 : Int32)) dX10_readText_34 (by decide) ?_
      refine g_ic_eq (t := 75) dX10_readText_36 (by decide) (fun c5 => ?_) (fun c5 => ?_)
      · replace h := z_ift c5 h
        refine g_aload_n dX10_readText_75 rfl rfl ?_
        refine g_get (a := 56) (v := .int (M.1 56 3)) dX10_readText_76 f_10_28 sh_56 rfl rfl ?_
        refine g_if_le (t := 91) dX10_readText_79 (by decide) (fun c6 => ?_) (fun c6 => ?_)
        · replace h := z_ift c6 h
          refine g_aload_n dX10_readText_91 rfl rfl ?_
          refine g_get (a := 56) (v := .ref 49) dX10_readText_92 f_10_19 sh_56 rfl rfl ?_
          refine g_iconst (v := (1 : Int32)) dX10_readText_95 (by decide) ?_
          refine g_putZ (a := 47) dX10_readText_96 f_10_51 sh_47 rfl rfl rfl (by first | exact Or.inl rfl | exact Or.inr rfl | exact z_tb01) ?_
          refine g_iconst (v := (1 : Int32)) dX10_readText_99 (by decide) ?_
          cases h
          exact g_iret dX10_readText_100 rfl rfl hq
        · replace h := z_iff c6 h
          refine g_aload_n dX10_readText_82 rfl rfl ?_
          refine g_get (a := 56) (v := .ref 7) dX10_readText_83 f_10_15 sh_56 rfl rfl ?_
          refine g_iconst (v := (2 : Int32)) dX10_readText_86 (by decide) ?_
          obtain ⟨q7, e8, h⟩ := z_bd h
          refine g_callV (a := 5) (as := [.int (2 : Int32)]) (rest := []) (c := mX7_fail) (k1 := 0) dX10_readText_87 rfl rfl rfl sh_5 rfl rfl (Nat.le_of_ble_eq_true rfl) (Nat.le_of_ble_eq_true rfl) (by decide) ?_
          refine A_X7_fail e8 ?_
          show z_G none 6 mX10_readText 90 [some (.ref 58), some (.int x1), some (.int x2), none] [.int (z_tb q7.1)] q7.2 Q
          cases h
          exact g_iret dX10_readText_90 rfl nb_tb hq
      · replace h := z_iff c5 h
        refine g_aload_n dX10_readText_39 rfl rfl ?_
        refine g_get (a := 56) (v := .ref 7) dX10_readText_40 f_10_15 sh_56 rfl rfl ?_
        refine g_get (a := 5) (v := .int (M.1 5 3)) dX10_readText_43 f_10_37 sh_5 rfl rfl ?_
        refine g_bipush (v := (28 : Int32)) dX10_readText_46 (by decide) ?_
        refine g_ic_ne (t := 58) dX10_readText_48 (by decide) (fun c9 => ?_) (fun c9 => ?_)
        · replace h := z_iff c9 h
          refine g_aload_n dX10_readText_58 rfl rfl ?_
          obtain ⟨q10, e11, h⟩ := z_bd h
          refine g_callV (a := 56) (as := []) (rest := []) (c := mX10_readStep) (k1 := 5) dX10_readText_59 rfl rfl rfl sh_56 rfl rfl (Nat.le_of_ble_eq_true rfl) (Nat.le_of_ble_eq_true rfl) (by decide) ?_
          refine A_X10_readStep e11 ?_
          show z_G none 6 mX10_readText 62 [some (.ref 58), some (.int x1), some (.int x2), none] [.int (z_tb q10.1)] q10.2 Q
          refine g_istore_n (ls' := [some (.ref 58), some (.int x1), some (.int x2), some (.int (z_tb q10.1))]) dX10_readText_62 rfl (Nat.le_of_ble_eq_true rfl) rfl ?_
          refine g_iload_n dX10_readText_63 rfl rfl ?_
          refine g_if_ne (t := 69) dX10_readText_64 (by decide) (fun c12 => ?_) (fun c12 => ?_)
          · replace h := z_ift (z_tbn.mp c12) h
            refine g_iinc (v := x2 + (1 : Int32)) (ls' := [some (.ref 58), some (.int x1), some (.int (x2 + (1 : Int32))), some (.int (z_tb q10.1))]) dX10_readText_69 rfl rfl rfl ?_
            refine g_goto (t := 22) dX10_readText_72 (by decide) ?_
            exact g_sub (z_sub_s (z_sub_s (z_sub_s (z_sub_n z_sub_nil)))) (ih _ _ _ _ _ _ h hq)
          · replace h := z_iff (z_tb0.mp c12) h
            refine g_iconst (v := (0 : Int32)) dX10_readText_67 (by decide) ?_
            cases h
            exact g_iret dX10_readText_68 rfl rfl hq
        · replace h := z_ift c9 h
          refine g_aload_n dX10_readText_51 rfl rfl ?_
          obtain ⟨q13, e14, h⟩ := z_bd h
          refine g_callV (a := 56) (as := []) (rest := []) (c := mX10_readEnd) (k1 := 4) dX10_readText_52 rfl rfl rfl sh_56 rfl rfl (Nat.le_of_ble_eq_true rfl) (Nat.le_of_ble_eq_true rfl) (by decide) ?_
          refine A_X10_readEnd e14 ?_
          show z_G none 6 mX10_readText 55 [some (.ref 58), some (.int x1), some (.int x2), none] [.int (z_tb q13.1)] q13.2 Q
          refine g_goto (t := 62) dX10_readText_55 (by decide) ?_
          refine g_istore_n (ls' := [some (.ref 58), some (.int x1), some (.int x2), some (.int (z_tb q13.1))]) dX10_readText_62 rfl (Nat.le_of_ble_eq_true rfl) rfl ?_
          refine g_iload_n dX10_readText_63 rfl rfl ?_
          refine g_if_ne (t := 69) dX10_readText_64 (by decide) (fun c15 => ?_) (fun c15 => ?_)
          · replace h := z_ift (z_tbn.mp c15) h
            refine g_iinc (v := x2 + (1 : Int32)) (ls' := [some (.ref 58), some (.int x1), some (.int (x2 + (1 : Int32))), some (.int (z_tb q13.1))]) dX10_readText_69 rfl rfl rfl ?_
            refine g_goto (t := 22) dX10_readText_72 (by decide) ?_
            exact g_sub (z_sub_s (z_sub_s (z_sub_s (z_sub_n z_sub_nil)))) (ih _ _ _ _ _ _ h hq)
          · replace h := z_iff (z_tb0.mp c15) h
            refine g_iconst (v := (0 : Int32)) dX10_readText_67 (by decide) ?_
            cases h
            exact g_iret dX10_readText_68 rfl rfl hq
def F_X10_readText (w : Nat) (M : z_Mem) (a1 : Int32) : Option (Bool × z_Mem) :=
  (F_X9_beginAnew w M 30).bind fun q16 =>
  (F_X7_open w (z_wI q16.2 56 3 (0 : Int32)) a1).bind fun q18 =>
  L_X10_readText w w q18.2 a1 (0 : Int32)
set_option maxHeartbeats 4000000 in
theorem A_X10_readText {w : Nat} {M : z_Mem} {a1 : Int32} {r : Bool} {M' : z_Mem} {Q : Option Value → z_Mem → Prop} (h : F_X10_readText w M a1 = some (r, M')) (hq : Q (some (.int (z_tb r))) M') : z_Cl 6 mX10_readText [.ref 58, .int a1] M Q := by
  refine g_in (ls := [some (.ref 58), some (.int a1), none, none]) rfl ?_
  unfold F_X10_readText at h
  refine g_aload_n dX10_readText_0 rfl rfl ?_
  refine g_get (a := 56) (v := .ref 49) dX10_readText_1 f_10_19 sh_56 rfl rfl ?_
  obtain ⟨q16, e17, h⟩ := z_bd h
  refine g_callV (a := 47) (as := []) (rest := []) (c := mX9_beginAnew) (k1 := 0) dX10_readText_4 rfl rfl rfl sh_47 rfl rfl (Nat.le_of_ble_eq_true rfl) (Nat.le_of_ble_eq_true rfl) (by decide) ?_
  refine A_X9_beginAnew z_par_30 e17 ?_
  show z_G none 6 mX10_readText 7 [some (.ref 58), some (.int a1), none, none] [] q16.2 Q
  refine g_aload_n dX10_readText_7 rfl rfl ?_
  refine g_iconst (v := (0 : Int32)) dX10_readText_8 (by decide) ?_
  refine g_putI (a := 56) dX10_readText_9 f_10_28 sh_56 rfl rfl rfl ?_
  refine g_aload_n dX10_readText_12 rfl rfl ?_
  refine g_get (a := 56) (v := .ref 7) dX10_readText_13 f_10_15 sh_56 rfl rfl ?_
  refine g_iload_n dX10_readText_16 rfl rfl ?_
  obtain ⟨q18, e19, h⟩ := z_bd h
  refine g_callV (a := 5) (as := [.int a1]) (rest := []) (c := mX7_open) (k1 := 3) dX10_readText_17 rfl rfl rfl sh_5 rfl rfl (Nat.le_of_ble_eq_true rfl) (Nat.le_of_ble_eq_true rfl) (by decide) ?_
  refine A_X7_open e19 ?_
  show z_G none 6 mX10_readText 20 [some (.ref 58), some (.int a1), none, none] [] q18.2 Q
  refine g_iconst (v := (0 : Int32)) dX10_readText_20 (by decide) ?_
  refine g_istore_n (ls' := [some (.ref 58), some (.int a1), some (.int (0 : Int32)), none]) dX10_readText_21 rfl (Nat.le_of_ble_eq_true rfl) rfl ?_
  exact g_sub (z_sub_s (z_sub_s (z_sub_s (z_sub_n z_sub_nil)))) ((AL_X10_readText (w := w) w) _ _ _ _ _ _ h hq)
theorem dX11_status_0 : decode cX11_status 0 = .ok (.aload_n 0, 1) := by decide +kernel
theorem dX11_status_1 : decode cX11_status 1 = .ok (.getfield 84, 3) := by decide +kernel
theorem dX11_status_4 : decode cX11_status 4 = .ok (.ireturn, 1) := by decide +kernel
def F_X11_status (w : Nat) (M : z_Mem) : Option (Int32 × z_Mem) :=
  some (M.1 0 11, M)
set_option maxHeartbeats 4000000 in
theorem A_X11_status {w : Nat} {M : z_Mem} {r : Int32} {M' : z_Mem} {Q : Option Value → z_Mem → Prop} (h : F_X11_status w M = some (r, M')) (hq : Q (some (.int r)) M') : z_Cl 0 mX11_status [.ref 2] M Q := by
  refine g_in (ls := [some (.ref 2)]) rfl ?_
  unfold F_X11_status at h
  refine g_aload_n dX11_status_0 rfl rfl ?_
  refine g_get (a := 0) (v := .int (M.1 0 11)) dX11_status_1 f_11_84 sh_0 rfl rfl ?_
  cases h
  exact g_iret dX11_status_4 rfl rfl hq
theorem dX11_top_0 : decode cX11_top 0 = .ok (.aload_n 0, 1) := by decide +kernel
theorem dX11_top_1 : decode cX11_top 1 = .ok (.getfield 87, 3) := by decide +kernel
theorem dX11_top_4 : decode cX11_top 4 = .ok (.lreturn, 1) := by decide +kernel
def F_X11_top (w : Nat) (M : z_Mem) : Option (Int64 × z_Mem) :=
  some (M.2 0 12, M)
set_option maxHeartbeats 4000000 in
theorem A_X11_top {w : Nat} {M : z_Mem} {r : Int64} {M' : z_Mem} {Q : Option Value → z_Mem → Prop} (h : F_X11_top w M = some (r, M')) (hq : Q (some (.long r)) M') : z_Cl 0 mX11_top [.ref 2] M Q := by
  refine g_in (ls := [some (.ref 2)]) rfl ?_
  unfold F_X11_top at h
  refine g_aload_n dX11_top_0 rfl rfl ?_
  refine g_get (a := 0) (v := .long (M.2 0 12)) dX11_top_1 f_11_87 sh_0 rfl rfl ?_
  cases h
  exact g_lret dX11_top_4 rfl hq
theorem dX11_bottom_0 : decode cX11_bottom 0 = .ok (.aload_n 0, 1) := by decide +kernel
theorem dX11_bottom_1 : decode cX11_bottom 1 = .ok (.getfield 76, 3) := by decide +kernel
theorem dX11_bottom_4 : decode cX11_bottom 4 = .ok (.lreturn, 1) := by decide +kernel
def F_X11_bottom (w : Nat) (M : z_Mem) : Option (Int64 × z_Mem) :=
  some (M.2 0 13, M)
set_option maxHeartbeats 4000000 in
theorem A_X11_bottom {w : Nat} {M : z_Mem} {r : Int64} {M' : z_Mem} {Q : Option Value → z_Mem → Prop} (h : F_X11_bottom w M = some (r, M')) (hq : Q (some (.long r)) M') : z_Cl 0 mX11_bottom [.ref 2] M Q := by
  refine g_in (ls := [some (.ref 2)]) rfl ?_
  unfold F_X11_bottom at h
  refine g_aload_n dX11_bottom_0 rfl rfl ?_
  refine g_get (a := 0) (v := .long (M.2 0 13)) dX11_bottom_1 f_11_76 sh_0 rfl rfl ?_
  cases h
  exact g_lret dX11_bottom_4 rfl hq
theorem dX11_deny_0 : decode cX11_deny 0 = .ok (.aload_n 0, 1) := by decide +kernel
theorem dX11_deny_1 : decode cX11_deny 1 = .ok (.iload_n 1, 1) := by decide +kernel
theorem dX11_deny_2 : decode cX11_deny 2 = .ok (.putfield 84, 3) := by decide +kernel
theorem dX11_deny_5 : decode cX11_deny 5 = .ok (.iconst 0, 1) := by decide +kernel
theorem dX11_deny_6 : decode cX11_deny 6 = .ok (.ireturn, 1) := by decide +kernel
def F_X11_deny (w : Nat) (M : z_Mem) (a1 : Int32) : Option (Bool × z_Mem) :=
  some (false, (z_wI M 0 11 a1))
set_option maxHeartbeats 4000000 in
theorem A_X11_deny {w : Nat} {M : z_Mem} {a1 : Int32} {r : Bool} {M' : z_Mem} {Q : Option Value → z_Mem → Prop} (h : F_X11_deny w M a1 = some (r, M')) (hq : Q (some (.int (z_tb r))) M') : z_Cl 0 mX11_deny [.ref 2, .int a1] M Q := by
  refine g_in (ls := [some (.ref 2), some (.int a1)]) rfl ?_
  unfold F_X11_deny at h
  refine g_aload_n dX11_deny_0 rfl rfl ?_
  refine g_iload_n dX11_deny_1 rfl rfl ?_
  refine g_putI (a := 0) dX11_deny_2 f_11_84 sh_0 rfl rfl rfl ?_
  refine g_iconst (v := (0 : Int32)) dX11_deny_5 (by decide) ?_
  cases h
  exact g_iret dX11_deny_6 rfl rfl hq
theorem dX11_allow_0 : decode cX11_allow 0 = .ok (.aload_n 0, 1) := by decide +kernel
theorem dX11_allow_1 : decode cX11_allow 1 = .ok (.iconst 0, 1) := by decide +kernel
theorem dX11_allow_2 : decode cX11_allow 2 = .ok (.putfield 84, 3) := by decide +kernel
theorem dX11_allow_5 : decode cX11_allow 5 = .ok (.iconst 1, 1) := by decide +kernel
theorem dX11_allow_6 : decode cX11_allow 6 = .ok (.ireturn, 1) := by decide +kernel
def F_X11_allow (w : Nat) (M : z_Mem) : Option (Bool × z_Mem) :=
  some (true, (z_wI M 0 11 (0 : Int32)))
set_option maxHeartbeats 4000000 in
theorem A_X11_allow {w : Nat} {M : z_Mem} {r : Bool} {M' : z_Mem} {Q : Option Value → z_Mem → Prop} (h : F_X11_allow w M = some (r, M')) (hq : Q (some (.int (z_tb r))) M') : z_Cl 0 mX11_allow [.ref 2] M Q := by
  refine g_in (ls := [some (.ref 2)]) rfl ?_
  unfold F_X11_allow at h
  refine g_aload_n dX11_allow_0 rfl rfl ?_
  refine g_iconst (v := (0 : Int32)) dX11_allow_1 (by decide) ?_
  refine g_putI (a := 0) dX11_allow_2 f_11_84 sh_0 rfl rfl rfl ?_
  refine g_iconst (v := (1 : Int32)) dX11_allow_5 (by decide) ?_
  cases h
  exact g_iret dX11_allow_6 rfl rfl hq
theorem dX11_tray_0 : decode cX11_tray 0 = .ok (.iload_n 1, 1) := by decide +kernel
theorem dX11_tray_1 : decode cX11_tray 1 = .ok (.invokestatic 90, 3) := by decide +kernel
theorem dX11_tray_4 : decode cX11_tray 4 = .ok (.ifCond .eq 12, 3) := by decide +kernel
theorem dX11_tray_7 : decode cX11_tray 7 = .ok (.iload_n 2, 1) := by decide +kernel
theorem dX11_tray_8 : decode cX11_tray 8 = .ok (.ifCond .lt 8, 3) := by decide +kernel
theorem dX11_tray_11 : decode cX11_tray 11 = .ok (.iload_n 2, 1) := by decide +kernel
theorem dX11_tray_12 : decode cX11_tray 12 = .ok (.iconst 3, 1) := by decide +kernel
theorem dX11_tray_13 : decode cX11_tray 13 = .ok (.if_icmp .le 9, 3) := by decide +kernel
theorem dX11_tray_16 : decode cX11_tray 16 = .ok (.aload_n 0, 1) := by decide +kernel
theorem dX11_tray_17 : decode cX11_tray 17 = .ok (.iconst 1, 1) := by decide +kernel
theorem dX11_tray_18 : decode cX11_tray 18 = .ok (.invokevirtual 94, 3) := by decide +kernel
theorem dX11_tray_21 : decode cX11_tray 21 = .ok (.ireturn, 1) := by decide +kernel
theorem dX11_tray_22 : decode cX11_tray 22 = .ok (.iload_n 3, 1) := by decide +kernel
theorem dX11_tray_23 : decode cX11_tray 23 = .ok (.bipush 60, 2) := by decide +kernel
theorem dX11_tray_25 : decode cX11_tray 25 = .ok (.if_icmp .le 9, 3) := by decide +kernel
theorem dX11_tray_28 : decode cX11_tray 28 = .ok (.aload_n 0, 1) := by decide +kernel
theorem dX11_tray_29 : decode cX11_tray 29 = .ok (.iconst 5, 1) := by decide +kernel
theorem dX11_tray_30 : decode cX11_tray 30 = .ok (.invokevirtual 94, 3) := by decide +kernel
theorem dX11_tray_33 : decode cX11_tray 33 = .ok (.ireturn, 1) := by decide +kernel
theorem dX11_tray_34 : decode cX11_tray 34 = .ok (.iload_n 3, 1) := by decide +kernel
theorem dX11_tray_35 : decode cX11_tray 35 = .ok (.ifCond .ge 10, 3) := by decide +kernel
theorem dX11_tray_38 : decode cX11_tray 38 = .ok (.aload_n 0, 1) := by decide +kernel
theorem dX11_tray_39 : decode cX11_tray 39 = .ok (.bipush 6, 2) := by decide +kernel
theorem dX11_tray_41 : decode cX11_tray 41 = .ok (.invokevirtual 94, 3) := by decide +kernel
theorem dX11_tray_44 : decode cX11_tray 44 = .ok (.ireturn, 1) := by decide +kernel
theorem dX11_tray_45 : decode cX11_tray 45 = .ok (.aload_n 0, 1) := by decide +kernel
theorem dX11_tray_46 : decode cX11_tray 46 = .ok (.getfield 10, 3) := by decide +kernel
theorem dX11_tray_49 : decode cX11_tray 49 = .ok (.iload_n 1, 1) := by decide +kernel
theorem dX11_tray_50 : decode cX11_tray 50 = .ok (.iload_n 2, 1) := by decide +kernel
theorem dX11_tray_51 : decode cX11_tray 51 = .ok (.iload_n 3, 1) := by decide +kernel
theorem dX11_tray_52 : decode cX11_tray 52 = .ok (.invokevirtual 97, 3) := by decide +kernel
theorem dX11_tray_55 : decode cX11_tray 55 = .ok (.aload_n 0, 1) := by decide +kernel
theorem dX11_tray_56 : decode cX11_tray 56 = .ok (.invokevirtual 101, 3) := by decide +kernel
theorem dX11_tray_59 : decode cX11_tray 59 = .ok (.ireturn, 1) := by decide +kernel
def F_X11_tray (w : Nat) (M : z_Mem) (a1 : Int32) (a2 : Int32) (a3 : Int32) : Option (Bool × z_Mem) :=
  (F_X8_isTray w M a1).bind fun q1 =>
  if q1.1 = true then
  if a2 < (0 : Int32) then
  (F_X11_deny w q1.2 (1 : Int32)).bind fun q7 =>
  some (q7.1, q7.2)
  else
  if a2 ≤ (3 : Int32) then
  if a3 ≤ (60 : Int32) then
  if (0 : Int32) ≤ a3 then
  (F_X8_lay w q1.2 a1 a2 a3).bind fun q12 =>
  (F_X11_allow w q12.2).bind fun q14 =>
  some (q14.1, q14.2)
  else
  (F_X11_deny w q1.2 (6 : Int32)).bind fun q16 =>
  some (q16.1, q16.2)
  else
  (F_X11_deny w q1.2 (5 : Int32)).bind fun q18 =>
  some (q18.1, q18.2)
  else
  (F_X11_deny w q1.2 (1 : Int32)).bind fun q20 =>
  some (q20.1, q20.2)
  else
  (F_X11_deny w q1.2 (1 : Int32)).bind fun q4 =>
  some (q4.1, q4.2)
set_option maxHeartbeats 4000000 in
theorem A_X11_tray {w : Nat} {M : z_Mem} {a1 : Int32} {a2 : Int32} {a3 : Int32} {r : Bool} {M' : z_Mem} {Q : Option Value → z_Mem → Prop} (h : F_X11_tray w M a1 a2 a3 = some (r, M')) (hq : Q (some (.int (z_tb r))) M') : z_Cl 1 mX11_tray [.ref 2, .int a1, .int a2, .int a3] M Q := by
  refine g_in (ls := [some (.ref 2), some (.int a1), some (.int a2), some (.int a3)]) rfl ?_
  unfold F_X11_tray at h
  refine g_iload_n dX11_tray_0 rfl rfl ?_
  obtain ⟨q1, e2, h⟩ := z_bd h
  refine g_callS (as := [.int a1]) (rest := []) (c := mX8_isTray) (k1 := 0) dX11_tray_1 rfl rfl rfl rfl rfl (Nat.le_of_ble_eq_true rfl) (Nat.le_of_ble_eq_true rfl) (by decide) ?_
  refine A_X8_isTray e2 ?_
  show z_G none 1 mX11_tray 4 [some (.ref 2), some (.int a1), some (.int a2), some (.int a3)] [.int (z_tb q1.1)] q1.2 Q
  refine g_if_eq (t := 16) dX11_tray_4 (by decide) (fun c3 => ?_) (fun c3 => ?_)
  · replace h := z_iff (z_tb0.mp c3) h
    refine g_aload_n dX11_tray_16 rfl rfl ?_
    refine g_iconst (v := (1 : Int32)) dX11_tray_17 (by decide) ?_
    obtain ⟨q4, e5, h⟩ := z_bd h
    refine g_callV (a := 0) (as := [.int (1 : Int32)]) (rest := []) (c := mX11_deny) (k1 := 0) dX11_tray_18 rfl rfl rfl sh_0 rfl rfl (Nat.le_of_ble_eq_true rfl) (Nat.le_of_ble_eq_true rfl) (by decide) ?_
    refine A_X11_deny e5 ?_
    show z_G none 1 mX11_tray 21 [some (.ref 2), some (.int a1), some (.int a2), some (.int a3)] [.int (z_tb q4.1)] q4.2 Q
    cases h
    exact g_iret dX11_tray_21 rfl nb_tb hq
  · replace h := z_ift (z_tbn.mp c3) h
    refine g_iload_n dX11_tray_7 rfl rfl ?_
    refine g_if_lt (t := 16) dX11_tray_8 (by decide) (fun c6 => ?_) (fun c6 => ?_)
    · replace h := z_ift c6 h
      refine g_aload_n dX11_tray_16 rfl rfl ?_
      refine g_iconst (v := (1 : Int32)) dX11_tray_17 (by decide) ?_
      obtain ⟨q7, e8, h⟩ := z_bd h
      refine g_callV (a := 0) (as := [.int (1 : Int32)]) (rest := []) (c := mX11_deny) (k1 := 0) dX11_tray_18 rfl rfl rfl sh_0 rfl rfl (Nat.le_of_ble_eq_true rfl) (Nat.le_of_ble_eq_true rfl) (by decide) ?_
      refine A_X11_deny e8 ?_
      show z_G none 1 mX11_tray 21 [some (.ref 2), some (.int a1), some (.int a2), some (.int a3)] [.int (z_tb q7.1)] q7.2 Q
      cases h
      exact g_iret dX11_tray_21 rfl nb_tb hq
    · replace h := z_iff c6 h
      refine g_iload_n dX11_tray_11 rfl rfl ?_
      refine g_iconst (v := (3 : Int32)) dX11_tray_12 (by decide) ?_
      refine g_ic_le (t := 22) dX11_tray_13 (by decide) (fun c9 => ?_) (fun c9 => ?_)
      · replace h := z_ift c9 h
        refine g_iload_n dX11_tray_22 rfl rfl ?_
        refine g_bipush (v := (60 : Int32)) dX11_tray_23 (by decide) ?_
        refine g_ic_le (t := 34) dX11_tray_25 (by decide) (fun c10 => ?_) (fun c10 => ?_)
        · replace h := z_ift c10 h
          refine g_iload_n dX11_tray_34 rfl rfl ?_
          refine g_if_ge (t := 45) dX11_tray_35 (by decide) (fun c11 => ?_) (fun c11 => ?_)
          · replace h := z_ift c11 h
            refine g_aload_n dX11_tray_45 rfl rfl ?_
            refine g_get (a := 0) (v := .ref 3) dX11_tray_46 f_11_10 sh_0 rfl rfl ?_
            refine g_iload_n dX11_tray_49 rfl rfl ?_
            refine g_iload_n dX11_tray_50 rfl rfl ?_
            refine g_iload_n dX11_tray_51 rfl rfl ?_
            obtain ⟨q12, e13, h⟩ := z_bd h
            refine g_callV (a := 1) (as := [.int a1, .int a2, .int a3]) (rest := []) (c := mX8_lay) (k1 := 0) dX11_tray_52 rfl rfl rfl sh_1 rfl rfl (Nat.le_of_ble_eq_true rfl) (Nat.le_of_ble_eq_true rfl) (by decide) ?_
            refine A_X8_lay e13 ?_
            show z_G none 1 mX11_tray 55 [some (.ref 2), some (.int a1), some (.int a2), some (.int a3)] [] q12.2 Q
            refine g_aload_n dX11_tray_55 rfl rfl ?_
            obtain ⟨q14, e15, h⟩ := z_bd h
            refine g_callV (a := 0) (as := []) (rest := []) (c := mX11_allow) (k1 := 0) dX11_tray_56 rfl rfl rfl sh_0 rfl rfl (Nat.le_of_ble_eq_true rfl) (Nat.le_of_ble_eq_true rfl) (by decide) ?_
            refine A_X11_allow e15 ?_
            show z_G none 1 mX11_tray 59 [some (.ref 2), some (.int a1), some (.int a2), some (.int a3)] [.int (z_tb q14.1)] q14.2 Q
            cases h
            exact g_iret dX11_tray_59 rfl nb_tb hq
          · replace h := z_iff c11 h
            refine g_aload_n dX11_tray_38 rfl rfl ?_
            refine g_bipush (v := (6 : Int32)) dX11_tray_39 (by decide) ?_
            obtain ⟨q16, e17, h⟩ := z_bd h
            refine g_callV (a := 0) (as := [.int (6 : Int32)]) (rest := []) (c := mX11_deny) (k1 := 0) dX11_tray_41 rfl rfl rfl sh_0 rfl rfl (Nat.le_of_ble_eq_true rfl) (Nat.le_of_ble_eq_true rfl) (by decide) ?_
            refine A_X11_deny e17 ?_
            show z_G none 1 mX11_tray 44 [some (.ref 2), some (.int a1), some (.int a2), some (.int a3)] [.int (z_tb q16.1)] q16.2 Q
            cases h
            exact g_iret dX11_tray_44 rfl nb_tb hq
        · replace h := z_iff c10 h
          refine g_aload_n dX11_tray_28 rfl rfl ?_
          refine g_iconst (v := (5 : Int32)) dX11_tray_29 (by decide) ?_
          obtain ⟨q18, e19, h⟩ := z_bd h
          refine g_callV (a := 0) (as := [.int (5 : Int32)]) (rest := []) (c := mX11_deny) (k1 := 0) dX11_tray_30 rfl rfl rfl sh_0 rfl rfl (Nat.le_of_ble_eq_true rfl) (Nat.le_of_ble_eq_true rfl) (by decide) ?_
          refine A_X11_deny e19 ?_
          show z_G none 1 mX11_tray 33 [some (.ref 2), some (.int a1), some (.int a2), some (.int a3)] [.int (z_tb q18.1)] q18.2 Q
          cases h
          exact g_iret dX11_tray_33 rfl nb_tb hq
      · replace h := z_iff c9 h
        refine g_aload_n dX11_tray_16 rfl rfl ?_
        refine g_iconst (v := (1 : Int32)) dX11_tray_17 (by decide) ?_
        obtain ⟨q20, e21, h⟩ := z_bd h
        refine g_callV (a := 0) (as := [.int (1 : Int32)]) (rest := []) (c := mX11_deny) (k1 := 0) dX11_tray_18 rfl rfl rfl sh_0 rfl rfl (Nat.le_of_ble_eq_true rfl) (Nat.le_of_ble_eq_true rfl) (by decide) ?_
        refine A_X11_deny e21 ?_
        show z_G none 1 mX11_tray 21 [some (.ref 2), some (.int a1), some (.int a2), some (.int a3)] [.int (z_tb q20.1)] q20.2 Q
        cases h
        exact g_iret dX11_tray_21 rfl nb_tb hq
theorem dX11_write_0 : decode cX11_write 0 = .ok (.aload_n 0, 1) := by decide +kernel
theorem dX11_write_1 : decode cX11_write 1 = .ok (.getfield 10, 3) := by decide +kernel
theorem dX11_write_4 : decode cX11_write 4 = .ok (.iload_n 1, 1) := by decide +kernel
theorem dX11_write_5 : decode cX11_write 5 = .ok (.iload_n 2, 1) := by decide +kernel
theorem dX11_write_6 : decode cX11_write 6 = .ok (.invokevirtual 105, 3) := by decide +kernel
theorem dX11_write_9 : decode cX11_write 9 = .ok (.istore 5, 2) := by decide +kernel
theorem dX11_write_11 : decode cX11_write 11 = .ok (.iload 5, 2) := by decide +kernel
theorem dX11_write_13 : decode cX11_write 13 = .ok (.ifCond .eq 10, 3) := by decide +kernel
theorem dX11_write_16 : decode cX11_write 16 = .ok (.aload_n 0, 1) := by decide +kernel
theorem dX11_write_17 : decode cX11_write 17 = .ok (.iload 5, 2) := by decide +kernel
theorem dX11_write_19 : decode cX11_write 19 = .ok (.invokevirtual 94, 3) := by decide +kernel
theorem dX11_write_22 : decode cX11_write 22 = .ok (.ireturn, 1) := by decide +kernel
theorem dX11_write_23 : decode cX11_write 23 = .ok (.aload_n 0, 1) := by decide +kernel
theorem dX11_write_24 : decode cX11_write 24 = .ok (.getfield 10, 3) := by decide +kernel
theorem dX11_write_27 : decode cX11_write 27 = .ok (.iload_n 1, 1) := by decide +kernel
theorem dX11_write_28 : decode cX11_write 28 = .ok (.iload_n 2, 1) := by decide +kernel
theorem dX11_write_29 : decode cX11_write 29 = .ok (.lload_n 3, 1) := by decide +kernel
theorem dX11_write_30 : decode cX11_write 30 = .ok (.invokevirtual 109, 3) := by decide +kernel
theorem dX11_write_33 : decode cX11_write 33 = .ok (.aload_n 0, 1) := by decide +kernel
theorem dX11_write_34 : decode cX11_write 34 = .ok (.invokevirtual 101, 3) := by decide +kernel
theorem dX11_write_37 : decode cX11_write 37 = .ok (.ireturn, 1) := by decide +kernel
def F_X11_write (w : Nat) (M : z_Mem) (a1 : Int32) (a2 : Int32) (a3 : Int64) : Option (Bool × z_Mem) :=
  (F_X8_whyNot w M a1 a2).bind fun q1 =>
  if q1.1 = (0 : Int32) then
  (F_X8_put w q1.2 a1 a2 a3).bind fun q4 =>
  (F_X11_allow w q4.2).bind fun q6 =>
  some (q6.1, q6.2)
  else
  (F_X11_deny w q1.2 q1.1).bind fun q8 =>
  some (q8.1, q8.2)
set_option maxHeartbeats 4000000 in
theorem A_X11_write {w : Nat} {M : z_Mem} {a1 : Int32} {a2 : Int32} {a3 : Int64} {r : Bool} {M' : z_Mem} {Q : Option Value → z_Mem → Prop} (h : F_X11_write w M a1 a2 a3 = some (r, M')) (hq : Q (some (.int (z_tb r))) M') : z_Cl 2 mX11_write [.ref 2, .int a1, .int a2, .long a3] M Q := by
  refine g_in (ls := [some (.ref 2), some (.int a1), some (.int a2), some (.long a3), none, none]) rfl ?_
  unfold F_X11_write at h
  refine g_aload_n dX11_write_0 rfl rfl ?_
  refine g_get (a := 0) (v := .ref 3) dX11_write_1 f_11_10 sh_0 rfl rfl ?_
  refine g_iload_n dX11_write_4 rfl rfl ?_
  refine g_iload_n dX11_write_5 rfl rfl ?_
  obtain ⟨q1, e2, h⟩ := z_bd h
  refine g_callV (a := 1) (as := [.int a1, .int a2]) (rest := []) (c := mX8_whyNot) (k1 := 1) dX11_write_6 rfl rfl rfl sh_1 rfl rfl (Nat.le_of_ble_eq_true rfl) (Nat.le_of_ble_eq_true rfl) (by decide) ?_
  refine A_X8_whyNot e2 ?_
  show z_G none 2 mX11_write 9 [some (.ref 2), some (.int a1), some (.int a2), some (.long a3), none, none] [.int q1.1] q1.2 Q
  refine g_istore (ls' := [some (.ref 2), some (.int a1), some (.int a2), some (.long a3), none, some (.int q1.1)]) dX11_write_9 (Nat.le_of_ble_eq_true rfl) rfl ?_
  refine g_iload dX11_write_11 rfl ?_
  refine g_if_eq (t := 23) dX11_write_13 (by decide) (fun c3 => ?_) (fun c3 => ?_)
  · replace h := z_ift c3 h
    refine g_aload_n dX11_write_23 rfl rfl ?_
    refine g_get (a := 0) (v := .ref 3) dX11_write_24 f_11_10 sh_0 rfl rfl ?_
    refine g_iload_n dX11_write_27 rfl rfl ?_
    refine g_iload_n dX11_write_28 rfl rfl ?_
    refine g_lload_n dX11_write_29 rfl rfl ?_
    obtain ⟨q4, e5, h⟩ := z_bd h
    refine g_callV (a := 1) (as := [.int a1, .int a2, .long a3]) (rest := []) (c := mX8_put) (k1 := 1) dX11_write_30 rfl rfl rfl sh_1 rfl rfl (Nat.le_of_ble_eq_true rfl) (Nat.le_of_ble_eq_true rfl) (by decide) ?_
    refine A_X8_put e5 ?_
    show z_G none 2 mX11_write 33 [some (.ref 2), some (.int a1), some (.int a2), some (.long a3), none, some (.int q1.1)] [] q4.2 Q
    refine g_aload_n dX11_write_33 rfl rfl ?_
    obtain ⟨q6, e7, h⟩ := z_bd h
    refine g_callV (a := 0) (as := []) (rest := []) (c := mX11_allow) (k1 := 0) dX11_write_34 rfl rfl rfl sh_0 rfl rfl (Nat.le_of_ble_eq_true rfl) (Nat.le_of_ble_eq_true rfl) (by decide) ?_
    refine A_X11_allow e7 ?_
    show z_G none 2 mX11_write 37 [some (.ref 2), some (.int a1), some (.int a2), some (.long a3), none, some (.int q1.1)] [.int (z_tb q6.1)] q6.2 Q
    cases h
    exact g_iret dX11_write_37 rfl nb_tb hq
  · replace h := z_iff c3 h
    refine g_aload_n dX11_write_16 rfl rfl ?_
    refine g_iload dX11_write_17 rfl ?_
    obtain ⟨q8, e9, h⟩ := z_bd h
    refine g_callV (a := 0) (as := [.int q1.1]) (rest := []) (c := mX11_deny) (k1 := 0) dX11_write_19 rfl rfl rfl sh_0 rfl rfl (Nat.le_of_ble_eq_true rfl) (Nat.le_of_ble_eq_true rfl) (by decide) ?_
    refine A_X11_deny e9 ?_
    show z_G none 2 mX11_write 22 [some (.ref 2), some (.int a1), some (.int a2), some (.long a3), none, some (.int q1.1)] [.int (z_tb q8.1)] q8.2 Q
    cases h
    exact g_iret dX11_write_22 rfl nb_tb hq
theorem dX11_refuse_0 : decode cX11_refuse 0 = .ok (.aload_n 0, 1) := by decide +kernel
theorem dX11_refuse_1 : decode cX11_refuse 1 = .ok (.iload_n 1, 1) := by decide +kernel
theorem dX11_refuse_2 : decode cX11_refuse 2 = .ok (.putfield 84, 3) := by decide +kernel
theorem dX11_refuse_5 : decode cX11_refuse 5 = .ok (.iconst (-1), 1) := by decide +kernel
theorem dX11_refuse_6 : decode cX11_refuse 6 = .ok (.ireturn, 1) := by decide +kernel
def F_X11_refuse (w : Nat) (M : z_Mem) (a1 : Int32) : Option (Int32 × z_Mem) :=
  some ((-1 : Int32), (z_wI M 0 11 a1))
set_option maxHeartbeats 4000000 in
theorem A_X11_refuse {w : Nat} {M : z_Mem} {a1 : Int32} {r : Int32} {M' : z_Mem} {Q : Option Value → z_Mem → Prop} (h : F_X11_refuse w M a1 = some (r, M')) (hq : Q (some (.int r)) M') : z_Cl 0 mX11_refuse [.ref 2, .int a1] M Q := by
  refine g_in (ls := [some (.ref 2), some (.int a1)]) rfl ?_
  unfold F_X11_refuse at h
  refine g_aload_n dX11_refuse_0 rfl rfl ?_
  refine g_iload_n dX11_refuse_1 rfl rfl ?_
  refine g_putI (a := 0) dX11_refuse_2 f_11_84 sh_0 rfl rfl rfl ?_
  refine g_iconst (v := (-1 : Int32)) dX11_refuse_5 (by decide) ?_
  cases h
  exact g_iret dX11_refuse_6 rfl rfl hq
theorem dX11_read_0 : decode cX11_read 0 = .ok (.aload_n 0, 1) := by decide +kernel
theorem dX11_read_1 : decode cX11_read 1 = .ok (.getfield 10, 3) := by decide +kernel
theorem dX11_read_4 : decode cX11_read 4 = .ok (.iload_n 1, 1) := by decide +kernel
theorem dX11_read_5 : decode cX11_read 5 = .ok (.iload_n 2, 1) := by decide +kernel
theorem dX11_read_6 : decode cX11_read 6 = .ok (.invokevirtual 105, 3) := by decide +kernel
theorem dX11_read_9 : decode cX11_read 9 = .ok (.istore_n 3, 1) := by decide +kernel
theorem dX11_read_10 : decode cX11_read 10 = .ok (.iload_n 3, 1) := by decide +kernel
theorem dX11_read_11 : decode cX11_read 11 = .ok (.ifCond .eq 10, 3) := by decide +kernel
theorem dX11_read_14 : decode cX11_read 14 = .ok (.aload_n 0, 1) := by decide +kernel
theorem dX11_read_15 : decode cX11_read 15 = .ok (.iload_n 3, 1) := by decide +kernel
theorem dX11_read_16 : decode cX11_read 16 = .ok (.invokevirtual 113, 3) := by decide +kernel
theorem dX11_read_19 : decode cX11_read 19 = .ok (.i2l, 1) := by decide +kernel
theorem dX11_read_20 : decode cX11_read 20 = .ok (.lreturn, 1) := by decide +kernel
theorem dX11_read_21 : decode cX11_read 21 = .ok (.aload_n 0, 1) := by decide +kernel
theorem dX11_read_22 : decode cX11_read 22 = .ok (.iconst 0, 1) := by decide +kernel
theorem dX11_read_23 : decode cX11_read 23 = .ok (.putfield 84, 3) := by decide +kernel
theorem dX11_read_26 : decode cX11_read 26 = .ok (.aload_n 0, 1) := by decide +kernel
theorem dX11_read_27 : decode cX11_read 27 = .ok (.getfield 10, 3) := by decide +kernel
theorem dX11_read_30 : decode cX11_read 30 = .ok (.iload_n 1, 1) := by decide +kernel
theorem dX11_read_31 : decode cX11_read 31 = .ok (.iload_n 2, 1) := by decide +kernel
theorem dX11_read_32 : decode cX11_read 32 = .ok (.invokevirtual 117, 3) := by decide +kernel
theorem dX11_read_35 : decode cX11_read 35 = .ok (.lreturn, 1) := by decide +kernel
def F_X11_read (w : Nat) (M : z_Mem) (a1 : Int32) (a2 : Int32) : Option (Int64 × z_Mem) :=
  (F_X8_whyNot w M a1 a2).bind fun q1 =>
  if q1.1 = (0 : Int32) then
  (F_X8_look w (z_wI q1.2 0 11 (0 : Int32)) a1 a2).bind fun q4 =>
  some (q4.1, q4.2)
  else
  (F_X11_refuse w q1.2 q1.1).bind fun q6 =>
  some (q6.1.toInt64, q6.2)
set_option maxHeartbeats 4000000 in
theorem A_X11_read {w : Nat} {M : z_Mem} {a1 : Int32} {a2 : Int32} {r : Int64} {M' : z_Mem} {Q : Option Value → z_Mem → Prop} (h : F_X11_read w M a1 a2 = some (r, M')) (hq : Q (some (.long r)) M') : z_Cl 2 mX11_read [.ref 2, .int a1, .int a2] M Q := by
  refine g_in (ls := [some (.ref 2), some (.int a1), some (.int a2), none]) rfl ?_
  unfold F_X11_read at h
  refine g_aload_n dX11_read_0 rfl rfl ?_
  refine g_get (a := 0) (v := .ref 3) dX11_read_1 f_11_10 sh_0 rfl rfl ?_
  refine g_iload_n dX11_read_4 rfl rfl ?_
  refine g_iload_n dX11_read_5 rfl rfl ?_
  obtain ⟨q1, e2, h⟩ := z_bd h
  refine g_callV (a := 1) (as := [.int a1, .int a2]) (rest := []) (c := mX8_whyNot) (k1 := 1) dX11_read_6 rfl rfl rfl sh_1 rfl rfl (Nat.le_of_ble_eq_true rfl) (Nat.le_of_ble_eq_true rfl) (by decide) ?_
  refine A_X8_whyNot e2 ?_
  show z_G none 2 mX11_read 9 [some (.ref 2), some (.int a1), some (.int a2), none] [.int q1.1] q1.2 Q
  refine g_istore_n (ls' := [some (.ref 2), some (.int a1), some (.int a2), some (.int q1.1)]) dX11_read_9 rfl (Nat.le_of_ble_eq_true rfl) rfl ?_
  refine g_iload_n dX11_read_10 rfl rfl ?_
  refine g_if_eq (t := 21) dX11_read_11 (by decide) (fun c3 => ?_) (fun c3 => ?_)
  · replace h := z_ift c3 h
    refine g_aload_n dX11_read_21 rfl rfl ?_
    refine g_iconst (v := (0 : Int32)) dX11_read_22 (by decide) ?_
    refine g_putI (a := 0) dX11_read_23 f_11_84 sh_0 rfl rfl rfl ?_
    refine g_aload_n dX11_read_26 rfl rfl ?_
    refine g_get (a := 0) (v := .ref 3) dX11_read_27 f_11_10 sh_0 rfl rfl ?_
    refine g_iload_n dX11_read_30 rfl rfl ?_
    refine g_iload_n dX11_read_31 rfl rfl ?_
    obtain ⟨q4, e5, h⟩ := z_bd h
    refine g_callV (a := 1) (as := [.int a1, .int a2]) (rest := []) (c := mX8_look) (k1 := 0) dX11_read_32 rfl rfl rfl sh_1 rfl rfl (Nat.le_of_ble_eq_true rfl) (Nat.le_of_ble_eq_true rfl) (by decide) ?_
    refine A_X8_look e5 ?_
    show z_G none 2 mX11_read 35 [some (.ref 2), some (.int a1), some (.int a2), some (.int q1.1)] [.long q4.1] q4.2 Q
    cases h
    exact g_lret dX11_read_35 rfl hq
  · replace h := z_iff c3 h
    refine g_aload_n dX11_read_14 rfl rfl ?_
    refine g_iload_n dX11_read_15 rfl rfl ?_
    obtain ⟨q6, e7, h⟩ := z_bd h
    refine g_callV (a := 0) (as := [.int q1.1]) (rest := []) (c := mX11_refuse) (k1 := 0) dX11_read_16 rfl rfl rfl sh_0 rfl rfl (Nat.le_of_ble_eq_true rfl) (Nat.le_of_ble_eq_true rfl) (by decide) ?_
    refine A_X11_refuse e7 ?_
    show z_G none 2 mX11_read 19 [some (.ref 2), some (.int a1), some (.int a2), some (.int q1.1)] [.int q6.1] q6.2 Q
    refine g_i2l dX11_read_19 ?_
    cases h
    exact g_lret dX11_read_20 rfl hq
theorem dX11_pour_0 : decode cX11_pour 0 = .ok (.iload_n 1, 1) := by decide +kernel
theorem dX11_pour_1 : decode cX11_pour 1 = .ok (.invokestatic 90, 3) := by decide +kernel
theorem dX11_pour_4 : decode cX11_pour 4 = .ok (.ifCond .eq 10, 3) := by decide +kernel
theorem dX11_pour_7 : decode cX11_pour 7 = .ok (.iload_n 3, 1) := by decide +kernel
theorem dX11_pour_8 : decode cX11_pour 8 = .ok (.invokestatic 90, 3) := by decide +kernel
theorem dX11_pour_11 : decode cX11_pour 11 = .ok (.ifCond .ne 9, 3) := by decide +kernel
theorem dX11_pour_14 : decode cX11_pour 14 = .ok (.aload_n 0, 1) := by decide +kernel
theorem dX11_pour_15 : decode cX11_pour 15 = .ok (.iconst 1, 1) := by decide +kernel
theorem dX11_pour_16 : decode cX11_pour 16 = .ok (.invokevirtual 94, 3) := by decide +kernel
theorem dX11_pour_19 : decode cX11_pour 19 = .ok (.ireturn, 1) := by decide +kernel
theorem dX11_pour_20 : decode cX11_pour 20 = .ok (.aload_n 0, 1) := by decide +kernel
theorem dX11_pour_21 : decode cX11_pour 21 = .ok (.getfield 10, 3) := by decide +kernel
theorem dX11_pour_24 : decode cX11_pour 24 = .ok (.iload_n 1, 1) := by decide +kernel
theorem dX11_pour_25 : decode cX11_pour 25 = .ok (.invokevirtual 121, 3) := by decide +kernel
theorem dX11_pour_28 : decode cX11_pour 28 = .ok (.ifCond .ne 14, 3) := by decide +kernel
theorem dX11_pour_31 : decode cX11_pour 31 = .ok (.aload_n 0, 1) := by decide +kernel
theorem dX11_pour_32 : decode cX11_pour 32 = .ok (.getfield 10, 3) := by decide +kernel
theorem dX11_pour_35 : decode cX11_pour 35 = .ok (.iload_n 3, 1) := by decide +kernel
theorem dX11_pour_36 : decode cX11_pour 36 = .ok (.invokevirtual 121, 3) := by decide +kernel
theorem dX11_pour_39 : decode cX11_pour 39 = .ok (.ifCond .eq 9, 3) := by decide +kernel
theorem dX11_pour_42 : decode cX11_pour 42 = .ok (.aload_n 0, 1) := by decide +kernel
theorem dX11_pour_43 : decode cX11_pour 43 = .ok (.iconst 3, 1) := by decide +kernel
theorem dX11_pour_44 : decode cX11_pour 44 = .ok (.invokevirtual 94, 3) := by decide +kernel
theorem dX11_pour_47 : decode cX11_pour 47 = .ok (.ireturn, 1) := by decide +kernel
theorem dX11_pour_48 : decode cX11_pour 48 = .ok (.aload_n 0, 1) := by decide +kernel
theorem dX11_pour_49 : decode cX11_pour 49 = .ok (.getfield 10, 3) := by decide +kernel
theorem dX11_pour_52 : decode cX11_pour 52 = .ok (.getfield 124, 3) := by decide +kernel
theorem dX11_pour_55 : decode cX11_pour 55 = .ok (.iload_n 1, 1) := by decide +kernel
theorem dX11_pour_56 : decode cX11_pour 56 = .ok (.iaload, 1) := by decide +kernel
theorem dX11_pour_57 : decode cX11_pour 57 = .ok (.aload_n 0, 1) := by decide +kernel
theorem dX11_pour_58 : decode cX11_pour 58 = .ok (.getfield 10, 3) := by decide +kernel
theorem dX11_pour_61 : decode cX11_pour 61 = .ok (.getfield 124, 3) := by decide +kernel
theorem dX11_pour_64 : decode cX11_pour 64 = .ok (.iload_n 3, 1) := by decide +kernel
theorem dX11_pour_65 : decode cX11_pour 65 = .ok (.iaload, 1) := by decide +kernel
theorem dX11_pour_66 : decode cX11_pour 66 = .ok (.if_icmp .eq 10, 3) := by decide +kernel
theorem dX11_pour_69 : decode cX11_pour 69 = .ok (.aload_n 0, 1) := by decide +kernel
theorem dX11_pour_70 : decode cX11_pour 70 = .ok (.bipush 11, 2) := by decide +kernel
theorem dX11_pour_72 : decode cX11_pour 72 = .ok (.invokevirtual 94, 3) := by decide +kernel
theorem dX11_pour_75 : decode cX11_pour 75 = .ok (.ireturn, 1) := by decide +kernel
theorem dX11_pour_76 : decode cX11_pour 76 = .ok (.iload 5, 2) := by decide +kernel
theorem dX11_pour_78 : decode cX11_pour 78 = .ok (.ifCond .ge 10, 3) := by decide +kernel
theorem dX11_pour_81 : decode cX11_pour 81 = .ok (.aload_n 0, 1) := by decide +kernel
theorem dX11_pour_82 : decode cX11_pour 82 = .ok (.bipush 6, 2) := by decide +kernel
theorem dX11_pour_84 : decode cX11_pour 84 = .ok (.invokevirtual 94, 3) := by decide +kernel
theorem dX11_pour_87 : decode cX11_pour 87 = .ok (.ireturn, 1) := by decide +kernel
theorem dX11_pour_88 : decode cX11_pour 88 = .ok (.aload_n 0, 1) := by decide +kernel
theorem dX11_pour_89 : decode cX11_pour 89 = .ok (.getfield 10, 3) := by decide +kernel
theorem dX11_pour_92 : decode cX11_pour 92 = .ok (.iload_n 1, 1) := by decide +kernel
theorem dX11_pour_93 : decode cX11_pour 93 = .ok (.iload_n 2, 1) := by decide +kernel
theorem dX11_pour_94 : decode cX11_pour 94 = .ok (.iload 5, 2) := by decide +kernel
theorem dX11_pour_96 : decode cX11_pour 96 = .ok (.invokevirtual 128, 3) := by decide +kernel
theorem dX11_pour_99 : decode cX11_pour 99 = .ok (.ifCond .eq 18, 3) := by decide +kernel
theorem dX11_pour_102 : decode cX11_pour 102 = .ok (.aload_n 0, 1) := by decide +kernel
theorem dX11_pour_103 : decode cX11_pour 103 = .ok (.getfield 10, 3) := by decide +kernel
theorem dX11_pour_106 : decode cX11_pour 106 = .ok (.iload_n 3, 1) := by decide +kernel
theorem dX11_pour_107 : decode cX11_pour 107 = .ok (.iload 4, 2) := by decide +kernel
theorem dX11_pour_109 : decode cX11_pour 109 = .ok (.iload 5, 2) := by decide +kernel
theorem dX11_pour_111 : decode cX11_pour 111 = .ok (.invokevirtual 128, 3) := by decide +kernel
theorem dX11_pour_114 : decode cX11_pour 114 = .ok (.ifCond .ne 9, 3) := by decide +kernel
theorem dX11_pour_117 : decode cX11_pour 117 = .ok (.aload_n 0, 1) := by decide +kernel
theorem dX11_pour_118 : decode cX11_pour 118 = .ok (.iconst 4, 1) := by decide +kernel
theorem dX11_pour_119 : decode cX11_pour 119 = .ok (.invokevirtual 94, 3) := by decide +kernel
theorem dX11_pour_122 : decode cX11_pour 122 = .ok (.ireturn, 1) := by decide +kernel
theorem dX11_pour_123 : decode cX11_pour 123 = .ok (.aload_n 0, 1) := by decide +kernel
theorem dX11_pour_124 : decode cX11_pour 124 = .ok (.getfield 10, 3) := by decide +kernel
theorem dX11_pour_127 : decode cX11_pour 127 = .ok (.iload_n 1, 1) := by decide +kernel
theorem dX11_pour_128 : decode cX11_pour 128 = .ok (.iload_n 2, 1) := by decide +kernel
theorem dX11_pour_129 : decode cX11_pour 129 = .ok (.iload_n 3, 1) := by decide +kernel
theorem dX11_pour_130 : decode cX11_pour 130 = .ok (.iload 4, 2) := by decide +kernel
theorem dX11_pour_132 : decode cX11_pour 132 = .ok (.iload 5, 2) := by decide +kernel
theorem dX11_pour_134 : decode cX11_pour 134 = .ok (.invokevirtual 132, 3) := by decide +kernel
theorem dX11_pour_137 : decode cX11_pour 137 = .ok (.aload_n 0, 1) := by decide +kernel
theorem dX11_pour_138 : decode cX11_pour 138 = .ok (.invokevirtual 101, 3) := by decide +kernel
theorem dX11_pour_141 : decode cX11_pour 141 = .ok (.ireturn, 1) := by decide +kernel
def F_X11_pour (w : Nat) (M : z_Mem) (a1 : Int32) (a2 : Int32) (a3 : Int32) (a4 : Int32) (a5 : Int32) : Option (Bool × z_Mem) :=
  (F_X8_isTray w M a1).bind fun q1 =>
  if q1.1 = true then
  (F_X8_isTray w q1.2 a3).bind fun q6 =>
  if q6.1 = true then
  (F_X8_isMissing w q6.2 a1).bind fun q9 =>
  if q9.1 = true then
  (F_X11_deny w q9.2 (3 : Int32)).bind fun q12 =>
  some (q12.1, q12.2)
  else
  (F_X8_isMissing w q9.2 a3).bind fun q14 =>
  if q14.1 = true then
  (F_X11_deny w q14.2 (3 : Int32)).bind fun q39 =>
  some (q39.1, q39.2)
  else
  if a1 < 0 ∨ 4 ≤ a1.toNatClampNeg then none else
  if a3 < 0 ∨ 4 ≤ a3.toNatClampNeg then none else
  if (q14.2.1 4 a1.toNatClampNeg) = (q14.2.1 4 a3.toNatClampNeg) then
  if (0 : Int32) ≤ a5 then
  (F_X8_has w q14.2 a1 a2 a5).bind fun q21 =>
  if q21.1 = true then
  (F_X8_has w q21.2 a3 a4 a5).bind fun q26 =>
  if q26.1 = true then
  (F_X8_move w q26.2 a1 a2 a3 a4 a5).bind fun q29 =>
  (F_X11_allow w q29.2).bind fun q31 =>
  some (q31.1, q31.2)
  else
  (F_X11_deny w q26.2 (4 : Int32)).bind fun q33 =>
  some (q33.1, q33.2)
  else
  (F_X11_deny w q21.2 (4 : Int32)).bind fun q24 =>
  some (q24.1, q24.2)
  else
  (F_X11_deny w q14.2 (6 : Int32)).bind fun q35 =>
  some (q35.1, q35.2)
  else
  (F_X11_deny w q14.2 (11 : Int32)).bind fun q37 =>
  some (q37.1, q37.2)
  else
  (F_X11_deny w q6.2 (1 : Int32)).bind fun q41 =>
  some (q41.1, q41.2)
  else
  (F_X11_deny w q1.2 (1 : Int32)).bind fun q4 =>
  some (q4.1, q4.2)
set_option maxHeartbeats 4000000 in
theorem A_X11_pour {w : Nat} {M : z_Mem} {a1 : Int32} {a2 : Int32} {a3 : Int32} {a4 : Int32} {a5 : Int32} {r : Bool} {M' : z_Mem} {Q : Option Value → z_Mem → Prop} (h : F_X11_pour w M a1 a2 a3 a4 a5 = some (r, M')) (hq : Q (some (.int (z_tb r))) M') : z_Cl 1 mX11_pour [.ref 2, .int a1, .int a2, .int a3, .int a4, .int a5] M Q := by
  refine g_in (ls := [some (.ref 2), some (.int a1), some (.int a2), some (.int a3), some (.int a4), some (.int a5)]) rfl ?_
  unfold F_X11_pour at h
  refine g_iload_n dX11_pour_0 rfl rfl ?_
  obtain ⟨q1, e2, h⟩ := z_bd h
  refine g_callS (as := [.int a1]) (rest := []) (c := mX8_isTray) (k1 := 0) dX11_pour_1 rfl rfl rfl rfl rfl (Nat.le_of_ble_eq_true rfl) (Nat.le_of_ble_eq_true rfl) (by decide) ?_
  refine A_X8_isTray e2 ?_
  show z_G none 1 mX11_pour 4 [some (.ref 2), some (.int a1), some (.int a2), some (.int a3), some (.int a4), some (.int a5)] [.int (z_tb q1.1)] q1.2 Q
  refine g_if_eq (t := 14) dX11_pour_4 (by decide) (fun c3 => ?_) (fun c3 => ?_)
  · replace h := z_iff (z_tb0.mp c3) h
    refine g_aload_n dX11_pour_14 rfl rfl ?_
    refine g_iconst (v := (1 : Int32)) dX11_pour_15 (by decide) ?_
    obtain ⟨q4, e5, h⟩ := z_bd h
    refine g_callV (a := 0) (as := [.int (1 : Int32)]) (rest := []) (c := mX11_deny) (k1 := 0) dX11_pour_16 rfl rfl rfl sh_0 rfl rfl (Nat.le_of_ble_eq_true rfl) (Nat.le_of_ble_eq_true rfl) (by decide) ?_
    refine A_X11_deny e5 ?_
    show z_G none 1 mX11_pour 19 [some (.ref 2), some (.int a1), some (.int a2), some (.int a3), some (.int a4), some (.int a5)] [.int (z_tb q4.1)] q4.2 Q
    cases h
    exact g_iret dX11_pour_19 rfl nb_tb hq
  · replace h := z_ift (z_tbn.mp c3) h
    refine g_iload_n dX11_pour_7 rfl rfl ?_
    obtain ⟨q6, e7, h⟩ := z_bd h
    refine g_callS (as := [.int a3]) (rest := []) (c := mX8_isTray) (k1 := 0) dX11_pour_8 rfl rfl rfl rfl rfl (Nat.le_of_ble_eq_true rfl) (Nat.le_of_ble_eq_true rfl) (by decide) ?_
    refine A_X8_isTray e7 ?_
    show z_G none 1 mX11_pour 11 [some (.ref 2), some (.int a1), some (.int a2), some (.int a3), some (.int a4), some (.int a5)] [.int (z_tb q6.1)] q6.2 Q
    refine g_if_ne (t := 20) dX11_pour_11 (by decide) (fun c8 => ?_) (fun c8 => ?_)
    · replace h := z_ift (z_tbn.mp c8) h
      refine g_aload_n dX11_pour_20 rfl rfl ?_
      refine g_get (a := 0) (v := .ref 3) dX11_pour_21 f_11_10 sh_0 rfl rfl ?_
      refine g_iload_n dX11_pour_24 rfl rfl ?_
      obtain ⟨q9, e10, h⟩ := z_bd h
      refine g_callV (a := 1) (as := [.int a1]) (rest := []) (c := mX8_isMissing) (k1 := 0) dX11_pour_25 rfl rfl rfl sh_1 rfl rfl (Nat.le_of_ble_eq_true rfl) (Nat.le_of_ble_eq_true rfl) (by decide) ?_
      refine A_X8_isMissing e10 ?_
      show z_G none 1 mX11_pour 28 [some (.ref 2), some (.int a1), some (.int a2), some (.int a3), some (.int a4), some (.int a5)] [.int (z_tb q9.1)] q9.2 Q
      refine g_if_ne (t := 42) dX11_pour_28 (by decide) (fun c11 => ?_) (fun c11 => ?_)
      · replace h := z_ift (z_tbn.mp c11) h
        refine g_aload_n dX11_pour_42 rfl rfl ?_
        refine g_iconst (v := (3 : Int32)) dX11_pour_43 (by decide) ?_
        obtain ⟨q12, e13, h⟩ := z_bd h
        refine g_callV (a := 0) (as := [.int (3 : Int32)]) (rest := []) (c := mX11_deny) (k1 := 0) dX11_pour_44 rfl rfl rfl sh_0 rfl rfl (Nat.le_of_ble_eq_true rfl) (Nat.le_of_ble_eq_true rfl) (by decide) ?_
        refine A_X11_deny e13 ?_
        show z_G none 1 mX11_pour 47 [some (.ref 2), some (.int a1), some (.int a2), some (.int a3), some (.int a4), some (.int a5)] [.int (z_tb q12.1)] q12.2 Q
        cases h
        exact g_iret dX11_pour_47 rfl nb_tb hq
      · replace h := z_iff (z_tb0.mp c11) h
        refine g_aload_n dX11_pour_31 rfl rfl ?_
        refine g_get (a := 0) (v := .ref 3) dX11_pour_32 f_11_10 sh_0 rfl rfl ?_
        refine g_iload_n dX11_pour_35 rfl rfl ?_
        obtain ⟨q14, e15, h⟩ := z_bd h
        refine g_callV (a := 1) (as := [.int a3]) (rest := []) (c := mX8_isMissing) (k1 := 0) dX11_pour_36 rfl rfl rfl sh_1 rfl rfl (Nat.le_of_ble_eq_true rfl) (Nat.le_of_ble_eq_true rfl) (by decide) ?_
        refine A_X8_isMissing e15 ?_
        show z_G none 1 mX11_pour 39 [some (.ref 2), some (.int a1), some (.int a2), some (.int a3), some (.int a4), some (.int a5)] [.int (z_tb q14.1)] q14.2 Q
        refine g_if_eq (t := 48) dX11_pour_39 (by decide) (fun c16 => ?_) (fun c16 => ?_)
        · replace h := z_iff (z_tb0.mp c16) h
          refine g_aload_n dX11_pour_48 rfl rfl ?_
          refine g_get (a := 0) (v := .ref 3) dX11_pour_49 f_11_10 sh_0 rfl rfl ?_
          refine g_get (a := 1) (v := .ref 6) dX11_pour_52 f_11_124 sh_1 rfl rfl ?_
          refine g_iload_n dX11_pour_55 rfl rfl ?_
          by_cases g17 : a1 < 0 ∨ 4 ≤ a1.toNatClampNeg
          · rw [if_pos g17] at h; cases h
          replace h := z_iff g17 h
          refine g_iald (a := 4) dX11_pour_56 sh_4 g17 ?_
          refine g_aload_n dX11_pour_57 rfl rfl ?_
          refine g_get (a := 0) (v := .ref 3) dX11_pour_58 f_11_10 sh_0 rfl rfl ?_
          refine g_get (a := 1) (v := .ref 6) dX11_pour_61 f_11_124 sh_1 rfl rfl ?_
          refine g_iload_n dX11_pour_64 rfl rfl ?_
          by_cases g18 : a3 < 0 ∨ 4 ≤ a3.toNatClampNeg
          · rw [if_pos g18] at h; cases h
          replace h := z_iff g18 h
          refine g_iald (a := 4) dX11_pour_65 sh_4 g18 ?_
          refine g_ic_eq (t := 76) dX11_pour_66 (by decide) (fun c19 => ?_) (fun c19 => ?_)
          · replace h := z_ift c19 h
            refine g_iload dX11_pour_76 rfl ?_
            refine g_if_ge (t := 88) dX11_pour_78 (by decide) (fun c20 => ?_) (fun c20 => ?_)
            · replace h := z_ift c20 h
              refine g_aload_n dX11_pour_88 rfl rfl ?_
              refine g_get (a := 0) (v := .ref 3) dX11_pour_89 f_11_10 sh_0 rfl rfl ?_
              refine g_iload_n dX11_pour_92 rfl rfl ?_
              refine g_iload_n dX11_pour_93 rfl rfl ?_
              refine g_iload dX11_pour_94 rfl ?_
              obtain ⟨q21, e22, h⟩ := z_bd h
              refine g_callV (a := 1) (as := [.int a1, .int a2, .int a5]) (rest := []) (c := mX8_has) (k1 := 0) dX11_pour_96 rfl rfl rfl sh_1 rfl rfl (Nat.le_of_ble_eq_true rfl) (Nat.le_of_ble_eq_true rfl) (by decide) ?_
              refine A_X8_has e22 ?_
              show z_G none 1 mX11_pour 99 [some (.ref 2), some (.int a1), some (.int a2), some (.int a3), some (.int a4), some (.int a5)] [.int (z_tb q21.1)] q21.2 Q
              refine g_if_eq (t := 117) dX11_pour_99 (by decide) (fun c23 => ?_) (fun c23 => ?_)
              · replace h := z_iff (z_tb0.mp c23) h
                refine g_aload_n dX11_pour_117 rfl rfl ?_
                refine g_iconst (v := (4 : Int32)) dX11_pour_118 (by decide) ?_
                obtain ⟨q24, e25, h⟩ := z_bd h
                refine g_callV (a := 0) (as := [.int (4 : Int32)]) (rest := []) (c := mX11_deny) (k1 := 0) dX11_pour_119 rfl rfl rfl sh_0 rfl rfl (Nat.le_of_ble_eq_true rfl) (Nat.le_of_ble_eq_true rfl) (by decide) ?_
                refine A_X11_deny e25 ?_
                show z_G none 1 mX11_pour 122 [some (.ref 2), some (.int a1), some (.int a2), some (.int a3), some (.int a4), some (.int a5)] [.int (z_tb q24.1)] q24.2 Q
                cases h
                exact g_iret dX11_pour_122 rfl nb_tb hq
              · replace h := z_ift (z_tbn.mp c23) h
                refine g_aload_n dX11_pour_102 rfl rfl ?_
                refine g_get (a := 0) (v := .ref 3) dX11_pour_103 f_11_10 sh_0 rfl rfl ?_
                refine g_iload_n dX11_pour_106 rfl rfl ?_
                refine g_iload dX11_pour_107 rfl ?_
                refine g_iload dX11_pour_109 rfl ?_
                obtain ⟨q26, e27, h⟩ := z_bd h
                refine g_callV (a := 1) (as := [.int a3, .int a4, .int a5]) (rest := []) (c := mX8_has) (k1 := 0) dX11_pour_111 rfl rfl rfl sh_1 rfl rfl (Nat.le_of_ble_eq_true rfl) (Nat.le_of_ble_eq_true rfl) (by decide) ?_
                refine A_X8_has e27 ?_
                show z_G none 1 mX11_pour 114 [some (.ref 2), some (.int a1), some (.int a2), some (.int a3), some (.int a4), some (.int a5)] [.int (z_tb q26.1)] q26.2 Q
                refine g_if_ne (t := 123) dX11_pour_114 (by decide) (fun c28 => ?_) (fun c28 => ?_)
                · replace h := z_ift (z_tbn.mp c28) h
                  refine g_aload_n dX11_pour_123 rfl rfl ?_
                  refine g_get (a := 0) (v := .ref 3) dX11_pour_124 f_11_10 sh_0 rfl rfl ?_
                  refine g_iload_n dX11_pour_127 rfl rfl ?_
                  refine g_iload_n dX11_pour_128 rfl rfl ?_
                  refine g_iload_n dX11_pour_129 rfl rfl ?_
                  refine g_iload dX11_pour_130 rfl ?_
                  refine g_iload dX11_pour_132 rfl ?_
                  obtain ⟨q29, e30, h⟩ := z_bd h
                  refine g_callV (a := 1) (as := [.int a1, .int a2, .int a3, .int a4, .int a5]) (rest := []) (c := mX8_move) (k1 := 0) dX11_pour_134 rfl rfl rfl sh_1 rfl rfl (Nat.le_of_ble_eq_true rfl) (Nat.le_of_ble_eq_true rfl) (by decide) ?_
                  refine A_X8_move e30 ?_
                  show z_G none 1 mX11_pour 137 [some (.ref 2), some (.int a1), some (.int a2), some (.int a3), some (.int a4), some (.int a5)] [] q29.2 Q
                  refine g_aload_n dX11_pour_137 rfl rfl ?_
                  obtain ⟨q31, e32, h⟩ := z_bd h
                  refine g_callV (a := 0) (as := []) (rest := []) (c := mX11_allow) (k1 := 0) dX11_pour_138 rfl rfl rfl sh_0 rfl rfl (Nat.le_of_ble_eq_true rfl) (Nat.le_of_ble_eq_true rfl) (by decide) ?_
                  refine A_X11_allow e32 ?_
                  show z_G none 1 mX11_pour 141 [some (.ref 2), some (.int a1), some (.int a2), some (.int a3), some (.int a4), some (.int a5)] [.int (z_tb q31.1)] q31.2 Q
                  cases h
                  exact g_iret dX11_pour_141 rfl nb_tb hq
                · replace h := z_iff (z_tb0.mp c28) h
                  refine g_aload_n dX11_pour_117 rfl rfl ?_
                  refine g_iconst (v := (4 : Int32)) dX11_pour_118 (by decide) ?_
                  obtain ⟨q33, e34, h⟩ := z_bd h
                  refine g_callV (a := 0) (as := [.int (4 : Int32)]) (rest := []) (c := mX11_deny) (k1 := 0) dX11_pour_119 rfl rfl rfl sh_0 rfl rfl (Nat.le_of_ble_eq_true rfl) (Nat.le_of_ble_eq_true rfl) (by decide) ?_
                  refine A_X11_deny e34 ?_
                  show z_G none 1 mX11_pour 122 [some (.ref 2), some (.int a1), some (.int a2), some (.int a3), some (.int a4), some (.int a5)] [.int (z_tb q33.1)] q33.2 Q
                  cases h
                  exact g_iret dX11_pour_122 rfl nb_tb hq
            · replace h := z_iff c20 h
              refine g_aload_n dX11_pour_81 rfl rfl ?_
              refine g_bipush (v := (6 : Int32)) dX11_pour_82 (by decide) ?_
              obtain ⟨q35, e36, h⟩ := z_bd h
              refine g_callV (a := 0) (as := [.int (6 : Int32)]) (rest := []) (c := mX11_deny) (k1 := 0) dX11_pour_84 rfl rfl rfl sh_0 rfl rfl (Nat.le_of_ble_eq_true rfl) (Nat.le_of_ble_eq_true rfl) (by decide) ?_
              refine A_X11_deny e36 ?_
              show z_G none 1 mX11_pour 87 [some (.ref 2), some (.int a1), some (.int a2), some (.int a3), some (.int a4), some (.int a5)] [.int (z_tb q35.1)] q35.2 Q
              cases h
              exact g_iret dX11_pour_87 rfl nb_tb hq
          · replace h := z_iff c19 h
            refine g_aload_n dX11_pour_69 rfl rfl ?_
            refine g_bipush (v := (11 : Int32)) dX11_pour_70 (by decide) ?_
            obtain ⟨q37, e38, h⟩ := z_bd h
            refine g_callV (a := 0) (as := [.int (11 : Int32)]) (rest := []) (c := mX11_deny) (k1 := 0) dX11_pour_72 rfl rfl rfl sh_0 rfl rfl (Nat.le_of_ble_eq_true rfl) (Nat.le_of_ble_eq_true rfl) (by decide) ?_
            refine A_X11_deny e38 ?_
            show z_G none 1 mX11_pour 75 [some (.ref 2), some (.int a1), some (.int a2), some (.int a3), some (.int a4), some (.int a5)] [.int (z_tb q37.1)] q37.2 Q
            cases h
            exact g_iret dX11_pour_75 rfl nb_tb hq
        · replace h := z_ift (z_tbn.mp c16) h
          refine g_aload_n dX11_pour_42 rfl rfl ?_
          refine g_iconst (v := (3 : Int32)) dX11_pour_43 (by decide) ?_
          obtain ⟨q39, e40, h⟩ := z_bd h
          refine g_callV (a := 0) (as := [.int (3 : Int32)]) (rest := []) (c := mX11_deny) (k1 := 0) dX11_pour_44 rfl rfl rfl sh_0 rfl rfl (Nat.le_of_ble_eq_true rfl) (Nat.le_of_ble_eq_true rfl) (by decide) ?_
          refine A_X11_deny e40 ?_
          show z_G none 1 mX11_pour 47 [some (.ref 2), some (.int a1), some (.int a2), some (.int a3), some (.int a4), some (.int a5)] [.int (z_tb q39.1)] q39.2 Q
          cases h
          exact g_iret dX11_pour_47 rfl nb_tb hq
    · replace h := z_iff (z_tb0.mp c8) h
      refine g_aload_n dX11_pour_14 rfl rfl ?_
      refine g_iconst (v := (1 : Int32)) dX11_pour_15 (by decide) ?_
      obtain ⟨q41, e42, h⟩ := z_bd h
      refine g_callV (a := 0) (as := [.int (1 : Int32)]) (rest := []) (c := mX11_deny) (k1 := 0) dX11_pour_16 rfl rfl rfl sh_0 rfl rfl (Nat.le_of_ble_eq_true rfl) (Nat.le_of_ble_eq_true rfl) (by decide) ?_
      refine A_X11_deny e42 ?_
      show z_G none 1 mX11_pour 19 [some (.ref 2), some (.int a1), some (.int a2), some (.int a3), some (.int a4), some (.int a5)] [.int (z_tb q41.1)] q41.2 Q
      cases h
      exact g_iret dX11_pour_19 rfl nb_tb hq
theorem dX11_feed_0 : decode cX11_feed 0 = .ok (.aload_n 0, 1) := by decide +kernel
theorem dX11_feed_1 : decode cX11_feed 1 = .ok (.getfield 19, 3) := by decide +kernel
theorem dX11_feed_4 : decode cX11_feed 4 = .ok (.invokevirtual 136, 3) := by decide +kernel
theorem dX11_feed_7 : decode cX11_feed 7 = .ok (.ifCond .ne 5, 3) := by decide +kernel
theorem dX11_feed_10 : decode cX11_feed 10 = .ok (.iconst (-1), 1) := by decide +kernel
theorem dX11_feed_11 : decode cX11_feed 11 = .ok (.ireturn, 1) := by decide +kernel
theorem dX11_feed_12 : decode cX11_feed 12 = .ok (.aload_n 0, 1) := by decide +kernel
theorem dX11_feed_13 : decode cX11_feed 13 = .ok (.getfield 19, 3) := by decide +kernel
theorem dX11_feed_16 : decode cX11_feed 16 = .ok (.iload_n 1, 1) := by decide +kernel
theorem dX11_feed_17 : decode cX11_feed 17 = .ok (.invokevirtual 139, 3) := by decide +kernel
theorem dX11_feed_20 : decode cX11_feed 20 = .ok (.aload_n 0, 1) := by decide +kernel
theorem dX11_feed_21 : decode cX11_feed 21 = .ok (.getfield 19, 3) := by decide +kernel
theorem dX11_feed_24 : decode cX11_feed 24 = .ok (.iload_n 2, 1) := by decide +kernel
theorem dX11_feed_25 : decode cX11_feed 25 = .ok (.invokevirtual 139, 3) := by decide +kernel
theorem dX11_feed_28 : decode cX11_feed 28 = .ok (.aload_n 0, 1) := by decide +kernel
theorem dX11_feed_29 : decode cX11_feed 29 = .ok (.getfield 19, 3) := by decide +kernel
theorem dX11_feed_32 : decode cX11_feed 32 = .ok (.iload_n 3, 1) := by decide +kernel
theorem dX11_feed_33 : decode cX11_feed 33 = .ok (.invokevirtual 139, 3) := by decide +kernel
theorem dX11_feed_36 : decode cX11_feed 36 = .ok (.aload_n 0, 1) := by decide +kernel
theorem dX11_feed_37 : decode cX11_feed 37 = .ok (.getfield 19, 3) := by decide +kernel
theorem dX11_feed_40 : decode cX11_feed 40 = .ok (.iload 4, 2) := by decide +kernel
theorem dX11_feed_42 : decode cX11_feed 42 = .ok (.invokevirtual 139, 3) := by decide +kernel
theorem dX11_feed_45 : decode cX11_feed 45 = .ok (.aload_n 0, 1) := by decide +kernel
theorem dX11_feed_46 : decode cX11_feed 46 = .ok (.getfield 19, 3) := by decide +kernel
theorem dX11_feed_49 : decode cX11_feed 49 = .ok (.iload 5, 2) := by decide +kernel
theorem dX11_feed_51 : decode cX11_feed 51 = .ok (.invokevirtual 139, 3) := by decide +kernel
theorem dX11_feed_54 : decode cX11_feed 54 = .ok (.aload_n 0, 1) := by decide +kernel
theorem dX11_feed_55 : decode cX11_feed 55 = .ok (.getfield 19, 3) := by decide +kernel
theorem dX11_feed_58 : decode cX11_feed 58 = .ok (.getfield 142, 3) := by decide +kernel
theorem dX11_feed_61 : decode cX11_feed 61 = .ok (.ireturn, 1) := by decide +kernel
def F_X11_feed (w : Nat) (M : z_Mem) (a1 : Int32) (a2 : Int32) (a3 : Int32) (a4 : Int32) (a5 : Int32) : Option (Int32 × z_Mem) :=
  (F_X7_hasRoom w M).bind fun q1 =>
  if q1.1 = true then
  (F_X7_put w q1.2 a1).bind fun q4 =>
  (F_X7_put w q4.2 a2).bind fun q6 =>
  (F_X7_put w q6.2 a3).bind fun q8 =>
  (F_X7_put w q8.2 a4).bind fun q10 =>
  (F_X7_put w q10.2 a5).bind fun q12 =>
  some (q12.2.1 5 1, q12.2)
  else
  some ((-1 : Int32), q1.2)
set_option maxHeartbeats 4000000 in
theorem A_X11_feed {w : Nat} {M : z_Mem} {a1 : Int32} {a2 : Int32} {a3 : Int32} {a4 : Int32} {a5 : Int32} {r : Int32} {M' : z_Mem} {Q : Option Value → z_Mem → Prop} (h : F_X11_feed w M a1 a2 a3 a4 a5 = some (r, M')) (hq : Q (some (.int r)) M') : z_Cl 1 mX11_feed [.ref 2, .int a1, .int a2, .int a3, .int a4, .int a5] M Q := by
  refine g_in (ls := [some (.ref 2), some (.int a1), some (.int a2), some (.int a3), some (.int a4), some (.int a5)]) rfl ?_
  unfold F_X11_feed at h
  refine g_aload_n dX11_feed_0 rfl rfl ?_
  refine g_get (a := 0) (v := .ref 7) dX11_feed_1 f_11_19 sh_0 rfl rfl ?_
  obtain ⟨q1, e2, h⟩ := z_bd h
  refine g_callV (a := 5) (as := []) (rest := []) (c := mX7_hasRoom) (k1 := 0) dX11_feed_4 rfl rfl rfl sh_5 rfl rfl (Nat.le_of_ble_eq_true rfl) (Nat.le_of_ble_eq_true rfl) (by decide) ?_
  refine A_X7_hasRoom e2 ?_
  show z_G none 1 mX11_feed 7 [some (.ref 2), some (.int a1), some (.int a2), some (.int a3), some (.int a4), some (.int a5)] [.int (z_tb q1.1)] q1.2 Q
  refine g_if_ne (t := 12) dX11_feed_7 (by decide) (fun c3 => ?_) (fun c3 => ?_)
  · replace h := z_ift (z_tbn.mp c3) h
    refine g_aload_n dX11_feed_12 rfl rfl ?_
    refine g_get (a := 0) (v := .ref 7) dX11_feed_13 f_11_19 sh_0 rfl rfl ?_
    refine g_iload_n dX11_feed_16 rfl rfl ?_
    obtain ⟨q4, e5, h⟩ := z_bd h
    refine g_callV (a := 5) (as := [.int a1]) (rest := []) (c := mX7_put) (k1 := 0) dX11_feed_17 rfl rfl rfl sh_5 rfl rfl (Nat.le_of_ble_eq_true rfl) (Nat.le_of_ble_eq_true rfl) (by decide) ?_
    refine A_X7_put e5 ?_
    show z_G none 1 mX11_feed 20 [some (.ref 2), some (.int a1), some (.int a2), some (.int a3), some (.int a4), some (.int a5)] [] q4.2 Q
    refine g_aload_n dX11_feed_20 rfl rfl ?_
    refine g_get (a := 0) (v := .ref 7) dX11_feed_21 f_11_19 sh_0 rfl rfl ?_
    refine g_iload_n dX11_feed_24 rfl rfl ?_
    obtain ⟨q6, e7, h⟩ := z_bd h
    refine g_callV (a := 5) (as := [.int a2]) (rest := []) (c := mX7_put) (k1 := 0) dX11_feed_25 rfl rfl rfl sh_5 rfl rfl (Nat.le_of_ble_eq_true rfl) (Nat.le_of_ble_eq_true rfl) (by decide) ?_
    refine A_X7_put e7 ?_
    show z_G none 1 mX11_feed 28 [some (.ref 2), some (.int a1), some (.int a2), some (.int a3), some (.int a4), some (.int a5)] [] q6.2 Q
    refine g_aload_n dX11_feed_28 rfl rfl ?_
    refine g_get (a := 0) (v := .ref 7) dX11_feed_29 f_11_19 sh_0 rfl rfl ?_
    refine g_iload_n dX11_feed_32 rfl rfl ?_
    obtain ⟨q8, e9, h⟩ := z_bd h
    refine g_callV (a := 5) (as := [.int a3]) (rest := []) (c := mX7_put) (k1 := 0) dX11_feed_33 rfl rfl rfl sh_5 rfl rfl (Nat.le_of_ble_eq_true rfl) (Nat.le_of_ble_eq_true rfl) (by decide) ?_
    refine A_X7_put e9 ?_
    show z_G none 1 mX11_feed 36 [some (.ref 2), some (.int a1), some (.int a2), some (.int a3), some (.int a4), some (.int a5)] [] q8.2 Q
    refine g_aload_n dX11_feed_36 rfl rfl ?_
    refine g_get (a := 0) (v := .ref 7) dX11_feed_37 f_11_19 sh_0 rfl rfl ?_
    refine g_iload dX11_feed_40 rfl ?_
    obtain ⟨q10, e11, h⟩ := z_bd h
    refine g_callV (a := 5) (as := [.int a4]) (rest := []) (c := mX7_put) (k1 := 0) dX11_feed_42 rfl rfl rfl sh_5 rfl rfl (Nat.le_of_ble_eq_true rfl) (Nat.le_of_ble_eq_true rfl) (by decide) ?_
    refine A_X7_put e11 ?_
    show z_G none 1 mX11_feed 45 [some (.ref 2), some (.int a1), some (.int a2), some (.int a3), some (.int a4), some (.int a5)] [] q10.2 Q
    refine g_aload_n dX11_feed_45 rfl rfl ?_
    refine g_get (a := 0) (v := .ref 7) dX11_feed_46 f_11_19 sh_0 rfl rfl ?_
    refine g_iload dX11_feed_49 rfl ?_
    obtain ⟨q12, e13, h⟩ := z_bd h
    refine g_callV (a := 5) (as := [.int a5]) (rest := []) (c := mX7_put) (k1 := 0) dX11_feed_51 rfl rfl rfl sh_5 rfl rfl (Nat.le_of_ble_eq_true rfl) (Nat.le_of_ble_eq_true rfl) (by decide) ?_
    refine A_X7_put e13 ?_
    show z_G none 1 mX11_feed 54 [some (.ref 2), some (.int a1), some (.int a2), some (.int a3), some (.int a4), some (.int a5)] [] q12.2 Q
    refine g_aload_n dX11_feed_54 rfl rfl ?_
    refine g_get (a := 0) (v := .ref 7) dX11_feed_55 f_11_19 sh_0 rfl rfl ?_
    refine g_get (a := 5) (v := .int (q12.2.1 5 1)) dX11_feed_58 f_11_142 sh_5 rfl rfl ?_
    cases h
    exact g_iret dX11_feed_61 rfl rfl hq
  · replace h := z_iff (z_tb0.mp c3) h
    refine g_iconst (v := (-1 : Int32)) dX11_feed_10 (by decide) ?_
    cases h
    exact g_iret dX11_feed_11 rfl rfl hq
theorem dX11_keepFault_0 : decode cX11_keepFault 0 = .ok (.aload_n 0, 1) := by decide +kernel
theorem dX11_keepFault_1 : decode cX11_keepFault 1 = .ok (.iconst 1, 1) := by decide +kernel
theorem dX11_keepFault_2 : decode cX11_keepFault 2 = .ok (.putfield 176, 3) := by decide +kernel
theorem dX11_keepFault_5 : decode cX11_keepFault 5 = .ok (.aload_n 0, 1) := by decide +kernel
theorem dX11_keepFault_6 : decode cX11_keepFault 6 = .ok (.aload_n 0, 1) := by decide +kernel
theorem dX11_keepFault_7 : decode cX11_keepFault 7 = .ok (.getfield 19, 3) := by decide +kernel
theorem dX11_keepFault_10 : decode cX11_keepFault 10 = .ok (.getfield 398, 3) := by decide +kernel
theorem dX11_keepFault_13 : decode cX11_keepFault 13 = .ok (.putfield 180, 3) := by decide +kernel
theorem dX11_keepFault_16 : decode cX11_keepFault 16 = .ok (.aload_n 0, 1) := by decide +kernel
theorem dX11_keepFault_17 : decode cX11_keepFault 17 = .ok (.aload_n 0, 1) := by decide +kernel
theorem dX11_keepFault_18 : decode cX11_keepFault 18 = .ok (.getfield 19, 3) := by decide +kernel
theorem dX11_keepFault_21 : decode cX11_keepFault 21 = .ok (.getfield 401, 3) := by decide +kernel
theorem dX11_keepFault_24 : decode cX11_keepFault 24 = .ok (.putfield 80, 3) := by decide +kernel
theorem dX11_keepFault_27 : decode cX11_keepFault 27 = .ok (.aload_n 0, 1) := by decide +kernel
theorem dX11_keepFault_28 : decode cX11_keepFault 28 = .ok (.getfield 19, 3) := by decide +kernel
theorem dX11_keepFault_31 : decode cX11_keepFault 31 = .ok (.iconst 0, 1) := by decide +kernel
theorem dX11_keepFault_32 : decode cX11_keepFault 32 = .ok (.putfield 142, 3) := by decide +kernel
theorem dX11_keepFault_35 : decode cX11_keepFault 35 = .ok (.return_, 1) := by decide +kernel
def F_X11_keepFault (w : Nat) (M : z_Mem) : Option (Unit × z_Mem) :=
  some ((), (z_wI (z_wI (z_wI (z_wI M 0 16 (1 : Int32)) 0 14 (M.1 5 7)) 0 15 (M.1 5 8)) 5 1 (0 : Int32)))
set_option maxHeartbeats 4000000 in
theorem A_X11_keepFault {w : Nat} {M : z_Mem} {r : Unit} {M' : z_Mem} {Q : Option Value → z_Mem → Prop} (h : F_X11_keepFault w M = some (r, M')) (hq : Q none M') : z_Cl 0 mX11_keepFault [.ref 2] M Q := by
  refine g_in (ls := [some (.ref 2)]) rfl ?_
  unfold F_X11_keepFault at h
  refine g_aload_n dX11_keepFault_0 rfl rfl ?_
  refine g_iconst (v := (1 : Int32)) dX11_keepFault_1 (by decide) ?_
  refine g_putZ (a := 0) dX11_keepFault_2 f_11_176 sh_0 rfl rfl rfl (by first | exact Or.inl rfl | exact Or.inr rfl | exact z_tb01) ?_
  refine g_aload_n dX11_keepFault_5 rfl rfl ?_
  refine g_aload_n dX11_keepFault_6 rfl rfl ?_
  refine g_get (a := 0) (v := .ref 7) dX11_keepFault_7 f_11_19 sh_0 rfl rfl ?_
  refine g_get (a := 5) (v := .int (M.1 5 7)) dX11_keepFault_10 f_11_398 sh_5 rfl (by simp [z_fv, z_wI, z_wL, z_wLs, upd, vp_updL]) ?_
  refine g_putI (a := 0) dX11_keepFault_13 f_11_180 sh_0 rfl rfl rfl ?_
  refine g_aload_n dX11_keepFault_16 rfl rfl ?_
  refine g_aload_n dX11_keepFault_17 rfl rfl ?_
  refine g_get (a := 0) (v := .ref 7) dX11_keepFault_18 f_11_19 sh_0 rfl rfl ?_
  refine g_get (a := 5) (v := .int (M.1 5 8)) dX11_keepFault_21 f_11_401 sh_5 rfl (by simp [z_fv, z_wI, z_wL, z_wLs, upd, vp_updL]) ?_
  refine g_putI (a := 0) dX11_keepFault_24 f_11_80 sh_0 rfl rfl rfl ?_
  refine g_aload_n dX11_keepFault_27 rfl rfl ?_
  refine g_get (a := 0) (v := .ref 7) dX11_keepFault_28 f_11_19 sh_0 rfl rfl ?_
  refine g_iconst (v := (0 : Int32)) dX11_keepFault_31 (by decide) ?_
  refine g_putI (a := 5) dX11_keepFault_32 f_11_142 sh_5 rfl rfl rfl ?_
  cases h
  exact g_vret dX11_keepFault_35 rfl hq
theorem dX11_answer_0 : decode cX11_answer 0 = .ok (.aload_n 0, 1) := by decide +kernel
theorem dX11_answer_1 : decode cX11_answer 1 = .ok (.iconst 0, 1) := by decide +kernel
theorem dX11_answer_2 : decode cX11_answer 2 = .ok (.putfield 84, 3) := by decide +kernel
theorem dX11_answer_5 : decode cX11_answer 5 = .ok (.iload_n 1, 1) := by decide +kernel
theorem dX11_answer_6 : decode cX11_answer 6 = .ok (.ireturn, 1) := by decide +kernel
def F_X11_answer (w : Nat) (M : z_Mem) (a1 : Int32) : Option (Int32 × z_Mem) :=
  some (a1, (z_wI M 0 11 (0 : Int32)))
set_option maxHeartbeats 4000000 in
theorem A_X11_answer {w : Nat} {M : z_Mem} {a1 : Int32} {r : Int32} {M' : z_Mem} {Q : Option Value → z_Mem → Prop} (h : F_X11_answer w M a1 = some (r, M')) (hq : Q (some (.int r)) M') : z_Cl 0 mX11_answer [.ref 2, .int a1] M Q := by
  refine g_in (ls := [some (.ref 2), some (.int a1)]) rfl ?_
  unfold F_X11_answer at h
  refine g_aload_n dX11_answer_0 rfl rfl ?_
  refine g_iconst (v := (0 : Int32)) dX11_answer_1 (by decide) ?_
  refine g_putI (a := 0) dX11_answer_2 f_11_84 sh_0 rfl rfl rfl ?_
  refine g_iload_n dX11_answer_5 rfl rfl ?_
  cases h
  exact g_iret dX11_answer_6 rfl rfl hq
theorem dX11_parish_0 : decode cX11_parish 0 = .ok (.iload_n 1, 1) := by decide +kernel
theorem dX11_parish_1 : decode cX11_parish 1 = .ok (.ifCond .lt 14, 3) := by decide +kernel
theorem dX11_parish_4 : decode cX11_parish 4 = .ok (.iload_n 1, 1) := by decide +kernel
theorem dX11_parish_5 : decode cX11_parish 5 = .ok (.aload_n 0, 1) := by decide +kernel
theorem dX11_parish_6 : decode cX11_parish 6 = .ok (.getfield 19, 3) := by decide +kernel
theorem dX11_parish_9 : decode cX11_parish 9 = .ok (.getfield 142, 3) := by decide +kernel
theorem dX11_parish_12 : decode cX11_parish 12 = .ok (.if_icmp .le 9, 3) := by decide +kernel
theorem dX11_parish_15 : decode cX11_parish 15 = .ok (.aload_n 0, 1) := by decide +kernel
theorem dX11_parish_16 : decode cX11_parish 16 = .ok (.iconst 5, 1) := by decide +kernel
theorem dX11_parish_17 : decode cX11_parish 17 = .ok (.invokevirtual 113, 3) := by decide +kernel
theorem dX11_parish_20 : decode cX11_parish 20 = .ok (.ireturn, 1) := by decide +kernel
theorem dX11_parish_21 : decode cX11_parish 21 = .ok (.aload_n 0, 1) := by decide +kernel
theorem dX11_parish_22 : decode cX11_parish 22 = .ok (.getfield 38, 3) := by decide +kernel
theorem dX11_parish_25 : decode cX11_parish 25 = .ok (.iload_n 1, 1) := by decide +kernel
theorem dX11_parish_26 : decode cX11_parish 26 = .ok (.invokevirtual 145, 3) := by decide +kernel
theorem dX11_parish_29 : decode cX11_parish 29 = .ok (.istore_n 2, 1) := by decide +kernel
theorem dX11_parish_30 : decode cX11_parish 30 = .ok (.aload_n 0, 1) := by decide +kernel
theorem dX11_parish_31 : decode cX11_parish 31 = .ok (.invokevirtual 148, 3) := by decide +kernel
theorem dX11_parish_34 : decode cX11_parish 34 = .ok (.iload_n 2, 1) := by decide +kernel
theorem dX11_parish_35 : decode cX11_parish 35 = .ok (.ifCond .ne 10, 3) := by decide +kernel
theorem dX11_parish_38 : decode cX11_parish 38 = .ok (.aload_n 0, 1) := by decide +kernel
theorem dX11_parish_39 : decode cX11_parish 39 = .ok (.bipush 10, 2) := by decide +kernel
theorem dX11_parish_41 : decode cX11_parish 41 = .ok (.invokevirtual 113, 3) := by decide +kernel
theorem dX11_parish_44 : decode cX11_parish 44 = .ok (.ireturn, 1) := by decide +kernel
theorem dX11_parish_45 : decode cX11_parish 45 = .ok (.aload_n 0, 1) := by decide +kernel
theorem dX11_parish_46 : decode cX11_parish 46 = .ok (.getfield 26, 3) := by decide +kernel
theorem dX11_parish_49 : decode cX11_parish 49 = .ok (.aload_n 0, 1) := by decide +kernel
theorem dX11_parish_50 : decode cX11_parish 50 = .ok (.getfield 30, 3) := by decide +kernel
theorem dX11_parish_53 : decode cX11_parish 53 = .ok (.invokevirtual 151, 3) := by decide +kernel
theorem dX11_parish_56 : decode cX11_parish 56 = .ok (.aload_n 0, 1) := by decide +kernel
theorem dX11_parish_57 : decode cX11_parish 57 = .ok (.aload_n 0, 1) := by decide +kernel
theorem dX11_parish_58 : decode cX11_parish 58 = .ok (.getfield 26, 3) := by decide +kernel
theorem dX11_parish_61 : decode cX11_parish 61 = .ok (.getfield 155, 3) := by decide +kernel
theorem dX11_parish_64 : decode cX11_parish 64 = .ok (.getfield 159, 3) := by decide +kernel
theorem dX11_parish_67 : decode cX11_parish 67 = .ok (.invokevirtual 164, 3) := by decide +kernel
theorem dX11_parish_70 : decode cX11_parish 70 = .ok (.ireturn, 1) := by decide +kernel
def F_X11_parish (w : Nat) (M : z_Mem) (a1 : Int32) : Option (Int32 × z_Mem) :=
  if a1 < (0 : Int32) then
  (F_X11_refuse w M (5 : Int32)).bind fun q2 =>
  some (q2.1, q2.2)
  else
  if a1 ≤ (M.1 5 1) then
  (F_X4_readText w M a1).bind fun q5 =>
  (F_X11_keepFault w q5.2).bind fun q7 =>
  if q5.1 = true then
  (F_X3_copyFrom w q7.2 7 30).bind fun q10 =>
  (F_X11_answer w q10.2 (q10.2.1 9 5)).bind fun q12 =>
  some (q12.1, q12.2)
  else
  (F_X11_refuse w q7.2 (10 : Int32)).bind fun q14 =>
  some (q14.1, q14.2)
  else
  (F_X11_refuse w M (5 : Int32)).bind fun q16 =>
  some (q16.1, q16.2)
set_option maxHeartbeats 4000000 in
theorem A_X11_parish {w : Nat} {M : z_Mem} {a1 : Int32} {r : Int32} {M' : z_Mem} {Q : Option Value → z_Mem → Prop} (h : F_X11_parish w M a1 = some (r, M')) (hq : Q (some (.int r)) M') : z_Cl 7 mX11_parish [.ref 2, .int a1] M Q := by
  refine g_in (ls := [some (.ref 2), some (.int a1), none]) rfl ?_
  unfold F_X11_parish at h
  refine g_iload_n dX11_parish_0 rfl rfl ?_
  refine g_if_lt (t := 15) dX11_parish_1 (by decide) (fun c1 => ?_) (fun c1 => ?_)
  · replace h := z_ift c1 h
    refine g_aload_n dX11_parish_15 rfl rfl ?_
    refine g_iconst (v := (5 : Int32)) dX11_parish_16 (by decide) ?_
    obtain ⟨q2, e3, h⟩ := z_bd h
    refine g_callV (a := 0) (as := [.int (5 : Int32)]) (rest := []) (c := mX11_refuse) (k1 := 0) dX11_parish_17 rfl rfl rfl sh_0 rfl rfl (Nat.le_of_ble_eq_true rfl) (Nat.le_of_ble_eq_true rfl) (by decide) ?_
    refine A_X11_refuse e3 ?_
    show z_G none 7 mX11_parish 20 [some (.ref 2), some (.int a1), none] [.int q2.1] q2.2 Q
    cases h
    exact g_iret dX11_parish_20 rfl rfl hq
  · replace h := z_iff c1 h
    refine g_iload_n dX11_parish_4 rfl rfl ?_
    refine g_aload_n dX11_parish_5 rfl rfl ?_
    refine g_get (a := 0) (v := .ref 7) dX11_parish_6 f_11_19 sh_0 rfl rfl ?_
    refine g_get (a := 5) (v := .int (M.1 5 1)) dX11_parish_9 f_11_142 sh_5 rfl rfl ?_
    refine g_ic_le (t := 21) dX11_parish_12 (by decide) (fun c4 => ?_) (fun c4 => ?_)
    · replace h := z_ift c4 h
      refine g_aload_n dX11_parish_21 rfl rfl ?_
      refine g_get (a := 0) (v := .ref 55) dX11_parish_22 f_11_38 sh_0 rfl rfl ?_
      refine g_iload_n dX11_parish_25 rfl rfl ?_
      obtain ⟨q5, e6, h⟩ := z_bd h
      refine g_callV (a := 53) (as := [.int a1]) (rest := []) (c := mX4_readText) (k1 := 6) dX11_parish_26 rfl rfl rfl sh_53 rfl rfl (Nat.le_of_ble_eq_true rfl) (Nat.le_of_ble_eq_true rfl) (by decide) ?_
      refine A_X4_readText e6 ?_
      show z_G none 7 mX11_parish 29 [some (.ref 2), some (.int a1), none] [.int (z_tb q5.1)] q5.2 Q
      refine g_istore_n (ls' := [some (.ref 2), some (.int a1), some (.int (z_tb q5.1))]) dX11_parish_29 rfl (Nat.le_of_ble_eq_true rfl) rfl ?_
      refine g_aload_n dX11_parish_30 rfl rfl ?_
      obtain ⟨q7, e8, h⟩ := z_bd h
      refine g_callV (a := 0) (as := []) (rest := []) (c := mX11_keepFault) (k1 := 0) dX11_parish_31 rfl rfl rfl sh_0 rfl rfl (Nat.le_of_ble_eq_true rfl) (Nat.le_of_ble_eq_true rfl) (by decide) ?_
      refine A_X11_keepFault e8 ?_
      show z_G none 7 mX11_parish 34 [some (.ref 2), some (.int a1), some (.int (z_tb q5.1))] [] q7.2 Q
      refine g_iload_n dX11_parish_34 rfl rfl ?_
      refine g_if_ne (t := 45) dX11_parish_35 (by decide) (fun c9 => ?_) (fun c9 => ?_)
      · replace h := z_ift (z_tbn.mp c9) h
        refine g_aload_n dX11_parish_45 rfl rfl ?_
        refine g_get (a := 0) (v := .ref 9) dX11_parish_46 f_11_26 sh_0 rfl rfl ?_
        refine g_aload_n dX11_parish_49 rfl rfl ?_
        refine g_get (a := 0) (v := .ref 32) dX11_parish_50 f_11_30 sh_0 rfl rfl ?_
        obtain ⟨q10, e11, h⟩ := z_bd h
        refine g_callV (a := 7) (as := [.ref 32]) (rest := []) (c := mX3_copyFrom) (k1 := 2) dX11_parish_53 rfl rfl rfl sh_7 rfl rfl (Nat.le_of_ble_eq_true rfl) (Nat.le_of_ble_eq_true rfl) (by decide) ?_
        refine A_X3_copyFrom z_par_7 z_par_30 e11 ?_
        show z_G none 7 mX11_parish 56 [some (.ref 2), some (.int a1), some (.int (z_tb q5.1))] [] q10.2 Q
        refine g_aload_n dX11_parish_56 rfl rfl ?_
        refine g_aload_n dX11_parish_57 rfl rfl ?_
        refine g_get (a := 0) (v := .ref 9) dX11_parish_58 f_11_26 sh_0 rfl rfl ?_
        refine g_get (a := 7) (v := .ref 11) dX11_parish_61 f_11_155 sh_7 rfl rfl ?_
        refine g_get (a := 9) (v := .int (q10.2.1 9 5)) dX11_parish_64 f_11_159 sh_9 rfl rfl ?_
        obtain ⟨q12, e13, h⟩ := z_bd h
        refine g_callV (a := 0) (as := [.int (q10.2.1 9 5)]) (rest := []) (c := mX11_answer) (k1 := 0) dX11_parish_67 rfl rfl rfl sh_0 rfl rfl (Nat.le_of_ble_eq_true rfl) (Nat.le_of_ble_eq_true rfl) (by decide) ?_
        refine A_X11_answer e13 ?_
        show z_G none 7 mX11_parish 70 [some (.ref 2), some (.int a1), some (.int (z_tb q5.1))] [.int q12.1] q12.2 Q
        cases h
        exact g_iret dX11_parish_70 rfl rfl hq
      · replace h := z_iff (z_tb0.mp c9) h
        refine g_aload_n dX11_parish_38 rfl rfl ?_
        refine g_bipush (v := (10 : Int32)) dX11_parish_39 (by decide) ?_
        obtain ⟨q14, e15, h⟩ := z_bd h
        refine g_callV (a := 0) (as := [.int (10 : Int32)]) (rest := []) (c := mX11_refuse) (k1 := 0) dX11_parish_41 rfl rfl rfl sh_0 rfl rfl (Nat.le_of_ble_eq_true rfl) (Nat.le_of_ble_eq_true rfl) (by decide) ?_
        refine A_X11_refuse e15 ?_
        show z_G none 7 mX11_parish 44 [some (.ref 2), some (.int a1), some (.int (z_tb q5.1))] [.int q14.1] q14.2 Q
        cases h
        exact g_iret dX11_parish_44 rfl rfl hq
    · replace h := z_iff c4 h
      refine g_aload_n dX11_parish_15 rfl rfl ?_
      refine g_iconst (v := (5 : Int32)) dX11_parish_16 (by decide) ?_
      obtain ⟨q16, e17, h⟩ := z_bd h
      refine g_callV (a := 0) (as := [.int (5 : Int32)]) (rest := []) (c := mX11_refuse) (k1 := 0) dX11_parish_17 rfl rfl rfl sh_0 rfl rfl (Nat.le_of_ble_eq_true rfl) (Nat.le_of_ble_eq_true rfl) (by decide) ?_
      refine A_X11_refuse e17 ?_
      show z_G none 7 mX11_parish 20 [some (.ref 2), some (.int a1), none] [.int q16.1] q16.2 Q
      cases h
      exact g_iret dX11_parish_20 rfl rfl hq
theorem dX11_years_0 : decode cX11_years 0 = .ok (.iload_n 1, 1) := by decide +kernel
theorem dX11_years_1 : decode cX11_years 1 = .ok (.ifCond .lt 21, 3) := by decide +kernel
theorem dX11_years_4 : decode cX11_years 4 = .ok (.iload_n 1, 1) := by decide +kernel
theorem dX11_years_5 : decode cX11_years 5 = .ok (.aload_n 0, 1) := by decide +kernel
theorem dX11_years_6 : decode cX11_years 6 = .ok (.getfield 19, 3) := by decide +kernel
theorem dX11_years_9 : decode cX11_years 9 = .ok (.getfield 142, 3) := by decide +kernel
theorem dX11_years_12 : decode cX11_years 12 = .ok (.if_icmp .gt 10, 3) := by decide +kernel
theorem dX11_years_15 : decode cX11_years 15 = .ok (.iload_n 1, 1) := by decide +kernel
theorem dX11_years_16 : decode cX11_years 16 = .ok (.sipush 300, 3) := by decide +kernel
theorem dX11_years_19 : decode cX11_years 19 = .ok (.if_icmp .le 9, 3) := by decide +kernel
theorem dX11_years_22 : decode cX11_years 22 = .ok (.aload_n 0, 1) := by decide +kernel
theorem dX11_years_23 : decode cX11_years 23 = .ok (.iconst 5, 1) := by decide +kernel
theorem dX11_years_24 : decode cX11_years 24 = .ok (.invokevirtual 113, 3) := by decide +kernel
theorem dX11_years_27 : decode cX11_years 27 = .ok (.ireturn, 1) := by decide +kernel
theorem dX11_years_28 : decode cX11_years 28 = .ok (.aload_n 0, 1) := by decide +kernel
theorem dX11_years_29 : decode cX11_years 29 = .ok (.getfield 51, 3) := by decide +kernel
theorem dX11_years_32 : decode cX11_years 32 = .ok (.iload_n 1, 1) := by decide +kernel
theorem dX11_years_33 : decode cX11_years 33 = .ok (.invokevirtual 169, 3) := by decide +kernel
theorem dX11_years_36 : decode cX11_years 36 = .ok (.istore_n 2, 1) := by decide +kernel
theorem dX11_years_37 : decode cX11_years 37 = .ok (.aload_n 0, 1) := by decide +kernel
theorem dX11_years_38 : decode cX11_years 38 = .ok (.invokevirtual 148, 3) := by decide +kernel
theorem dX11_years_41 : decode cX11_years 41 = .ok (.iload_n 2, 1) := by decide +kernel
theorem dX11_years_42 : decode cX11_years 42 = .ok (.ifCond .ne 10, 3) := by decide +kernel
theorem dX11_years_45 : decode cX11_years 45 = .ok (.aload_n 0, 1) := by decide +kernel
theorem dX11_years_46 : decode cX11_years 46 = .ok (.bipush 10, 2) := by decide +kernel
theorem dX11_years_48 : decode cX11_years 48 = .ok (.invokevirtual 113, 3) := by decide +kernel
theorem dX11_years_51 : decode cX11_years 51 = .ok (.ireturn, 1) := by decide +kernel
theorem dX11_years_52 : decode cX11_years 52 = .ok (.aload_n 0, 1) := by decide +kernel
theorem dX11_years_53 : decode cX11_years 53 = .ok (.getfield 26, 3) := by decide +kernel
theorem dX11_years_56 : decode cX11_years 56 = .ok (.getfield 44, 3) := by decide +kernel
theorem dX11_years_59 : decode cX11_years 59 = .ok (.aload_n 0, 1) := by decide +kernel
theorem dX11_years_60 : decode cX11_years 60 = .ok (.getfield 30, 3) := by decide +kernel
theorem dX11_years_63 : decode cX11_years 63 = .ok (.getfield 44, 3) := by decide +kernel
theorem dX11_years_66 : decode cX11_years 66 = .ok (.invokevirtual 170, 3) := by decide +kernel
theorem dX11_years_69 : decode cX11_years 69 = .ok (.aload_n 0, 1) := by decide +kernel
theorem dX11_years_70 : decode cX11_years 70 = .ok (.aload_n 0, 1) := by decide +kernel
theorem dX11_years_71 : decode cX11_years 71 = .ok (.getfield 26, 3) := by decide +kernel
theorem dX11_years_74 : decode cX11_years 74 = .ok (.getfield 44, 3) := by decide +kernel
theorem dX11_years_77 : decode cX11_years 77 = .ok (.getfield 173, 3) := by decide +kernel
theorem dX11_years_80 : decode cX11_years 80 = .ok (.invokevirtual 164, 3) := by decide +kernel
theorem dX11_years_83 : decode cX11_years 83 = .ok (.ireturn, 1) := by decide +kernel
def F_X11_years (w : Nat) (M : z_Mem) (a1 : Int32) : Option (Int32 × z_Mem) :=
  if a1 < (0 : Int32) then
  (F_X11_refuse w M (5 : Int32)).bind fun q2 =>
  some (q2.1, q2.2)
  else
  if (M.1 5 1) < a1 then
  (F_X11_refuse w M (5 : Int32)).bind fun q5 =>
  some (q5.1, q5.2)
  else
  if a1 ≤ (300 : Int32) then
  (F_X10_readText w M a1).bind fun q8 =>
  (F_X11_keepFault w q8.2).bind fun q10 =>
  if q8.1 = true then
  (F_X9_copyFrom w q10.2 7 30).bind fun q13 =>
  (F_X11_answer w q13.2 (q13.2.1 24 6)).bind fun q15 =>
  some (q15.1, q15.2)
  else
  (F_X11_refuse w q10.2 (10 : Int32)).bind fun q17 =>
  some (q17.1, q17.2)
  else
  (F_X11_refuse w M (5 : Int32)).bind fun q19 =>
  some (q19.1, q19.2)
set_option maxHeartbeats 4000000 in
theorem A_X11_years {w : Nat} {M : z_Mem} {a1 : Int32} {r : Int32} {M' : z_Mem} {Q : Option Value → z_Mem → Prop} (h : F_X11_years w M a1 = some (r, M')) (hq : Q (some (.int r)) M') : z_Cl 7 mX11_years [.ref 2, .int a1] M Q := by
  refine g_in (ls := [some (.ref 2), some (.int a1), none]) rfl ?_
  unfold F_X11_years at h
  refine g_iload_n dX11_years_0 rfl rfl ?_
  refine g_if_lt (t := 22) dX11_years_1 (by decide) (fun c1 => ?_) (fun c1 => ?_)
  · replace h := z_ift c1 h
    refine g_aload_n dX11_years_22 rfl rfl ?_
    refine g_iconst (v := (5 : Int32)) dX11_years_23 (by decide) ?_
    obtain ⟨q2, e3, h⟩ := z_bd h
    refine g_callV (a := 0) (as := [.int (5 : Int32)]) (rest := []) (c := mX11_refuse) (k1 := 0) dX11_years_24 rfl rfl rfl sh_0 rfl rfl (Nat.le_of_ble_eq_true rfl) (Nat.le_of_ble_eq_true rfl) (by decide) ?_
    refine A_X11_refuse e3 ?_
    show z_G none 7 mX11_years 27 [some (.ref 2), some (.int a1), none] [.int q2.1] q2.2 Q
    cases h
    exact g_iret dX11_years_27 rfl rfl hq
  · replace h := z_iff c1 h
    refine g_iload_n dX11_years_4 rfl rfl ?_
    refine g_aload_n dX11_years_5 rfl rfl ?_
    refine g_get (a := 0) (v := .ref 7) dX11_years_6 f_11_19 sh_0 rfl rfl ?_
    refine g_get (a := 5) (v := .int (M.1 5 1)) dX11_years_9 f_11_142 sh_5 rfl rfl ?_
    refine g_ic_gt (t := 22) dX11_years_12 (by decide) (fun c4 => ?_) (fun c4 => ?_)
    · replace h := z_ift c4 h
      refine g_aload_n dX11_years_22 rfl rfl ?_
      refine g_iconst (v := (5 : Int32)) dX11_years_23 (by decide) ?_
      obtain ⟨q5, e6, h⟩ := z_bd h
      refine g_callV (a := 0) (as := [.int (5 : Int32)]) (rest := []) (c := mX11_refuse) (k1 := 0) dX11_years_24 rfl rfl rfl sh_0 rfl rfl (Nat.le_of_ble_eq_true rfl) (Nat.le_of_ble_eq_true rfl) (by decide) ?_
      refine A_X11_refuse e6 ?_
      show z_G none 7 mX11_years 27 [some (.ref 2), some (.int a1), none] [.int q5.1] q5.2 Q
      cases h
      exact g_iret dX11_years_27 rfl rfl hq
    · replace h := z_iff c4 h
      refine g_iload_n dX11_years_15 rfl rfl ?_
      refine g_sipush (v := (300 : Int32)) dX11_years_16 (by decide) ?_
      refine g_ic_le (t := 28) dX11_years_19 (by decide) (fun c7 => ?_) (fun c7 => ?_)
      · replace h := z_ift c7 h
        refine g_aload_n dX11_years_28 rfl rfl ?_
        refine g_get (a := 0) (v := .ref 58) dX11_years_29 f_11_51 sh_0 rfl rfl ?_
        refine g_iload_n dX11_years_32 rfl rfl ?_
        obtain ⟨q8, e9, h⟩ := z_bd h
        refine g_callV (a := 56) (as := [.int a1]) (rest := []) (c := mX10_readText) (k1 := 6) dX11_years_33 rfl rfl rfl sh_56 rfl rfl (Nat.le_of_ble_eq_true rfl) (Nat.le_of_ble_eq_true rfl) (by decide) ?_
        refine A_X10_readText e9 ?_
        show z_G none 7 mX11_years 36 [some (.ref 2), some (.int a1), none] [.int (z_tb q8.1)] q8.2 Q
        refine g_istore_n (ls' := [some (.ref 2), some (.int a1), some (.int (z_tb q8.1))]) dX11_years_36 rfl (Nat.le_of_ble_eq_true rfl) rfl ?_
        refine g_aload_n dX11_years_37 rfl rfl ?_
        obtain ⟨q10, e11, h⟩ := z_bd h
        refine g_callV (a := 0) (as := []) (rest := []) (c := mX11_keepFault) (k1 := 0) dX11_years_38 rfl rfl rfl sh_0 rfl rfl (Nat.le_of_ble_eq_true rfl) (Nat.le_of_ble_eq_true rfl) (by decide) ?_
        refine A_X11_keepFault e11 ?_
        show z_G none 7 mX11_years 41 [some (.ref 2), some (.int a1), some (.int (z_tb q8.1))] [] q10.2 Q
        refine g_iload_n dX11_years_41 rfl rfl ?_
        refine g_if_ne (t := 52) dX11_years_42 (by decide) (fun c12 => ?_) (fun c12 => ?_)
        · replace h := z_ift (z_tbn.mp c12) h
          refine g_aload_n dX11_years_52 rfl rfl ?_
          refine g_get (a := 0) (v := .ref 9) dX11_years_53 f_11_26 sh_0 rfl rfl ?_
          refine g_get (a := 7) (v := .ref 26) dX11_years_56 f_11_44 sh_7 rfl rfl ?_
          refine g_aload_n dX11_years_59 rfl rfl ?_
          refine g_get (a := 0) (v := .ref 32) dX11_years_60 f_11_30 sh_0 rfl rfl ?_
          refine g_get (a := 30) (v := .ref 49) dX11_years_63 f_11_44 sh_30 rfl rfl ?_
          obtain ⟨q13, e14, h⟩ := z_bd h
          refine g_callV (a := 24) (as := [.ref 49]) (rest := []) (c := mX9_copyFrom) (k1 := 0) dX11_years_66 rfl rfl rfl sh_24 rfl rfl (Nat.le_of_ble_eq_true rfl) (Nat.le_of_ble_eq_true rfl) (by decide) ?_
          refine A_X9_copyFrom z_par_7 z_par_30 e14 ?_
          show z_G none 7 mX11_years 69 [some (.ref 2), some (.int a1), some (.int (z_tb q8.1))] [] q13.2 Q
          refine g_aload_n dX11_years_69 rfl rfl ?_
          refine g_aload_n dX11_years_70 rfl rfl ?_
          refine g_get (a := 0) (v := .ref 9) dX11_years_71 f_11_26 sh_0 rfl rfl ?_
          refine g_get (a := 7) (v := .ref 26) dX11_years_74 f_11_44 sh_7 rfl rfl ?_
          refine g_get (a := 24) (v := .int (q13.2.1 24 6)) dX11_years_77 f_11_173 sh_24 rfl rfl ?_
          obtain ⟨q15, e16, h⟩ := z_bd h
          refine g_callV (a := 0) (as := [.int (q13.2.1 24 6)]) (rest := []) (c := mX11_answer) (k1 := 0) dX11_years_80 rfl rfl rfl sh_0 rfl rfl (Nat.le_of_ble_eq_true rfl) (Nat.le_of_ble_eq_true rfl) (by decide) ?_
          refine A_X11_answer e16 ?_
          show z_G none 7 mX11_years 83 [some (.ref 2), some (.int a1), some (.int (z_tb q8.1))] [.int q15.1] q15.2 Q
          cases h
          exact g_iret dX11_years_83 rfl rfl hq
        · replace h := z_iff (z_tb0.mp c12) h
          refine g_aload_n dX11_years_45 rfl rfl ?_
          refine g_bipush (v := (10 : Int32)) dX11_years_46 (by decide) ?_
          obtain ⟨q17, e18, h⟩ := z_bd h
          refine g_callV (a := 0) (as := [.int (10 : Int32)]) (rest := []) (c := mX11_refuse) (k1 := 0) dX11_years_48 rfl rfl rfl sh_0 rfl rfl (Nat.le_of_ble_eq_true rfl) (Nat.le_of_ble_eq_true rfl) (by decide) ?_
          refine A_X11_refuse e18 ?_
          show z_G none 7 mX11_years 51 [some (.ref 2), some (.int a1), some (.int (z_tb q8.1))] [.int q17.1] q17.2 Q
          cases h
          exact g_iret dX11_years_51 rfl rfl hq
      · replace h := z_iff c7 h
        refine g_aload_n dX11_years_22 rfl rfl ?_
        refine g_iconst (v := (5 : Int32)) dX11_years_23 (by decide) ?_
        obtain ⟨q19, e20, h⟩ := z_bd h
        refine g_callV (a := 0) (as := [.int (5 : Int32)]) (rest := []) (c := mX11_refuse) (k1 := 0) dX11_years_24 rfl rfl rfl sh_0 rfl rfl (Nat.le_of_ble_eq_true rfl) (Nat.le_of_ble_eq_true rfl) (by decide) ?_
        refine A_X11_refuse e20 ?_
        show z_G none 7 mX11_years 27 [some (.ref 2), some (.int a1), none] [.int q19.1] q19.2 Q
        cases h
        exact g_iret dX11_years_27 rfl rfl hq
theorem dX11_fault_0 : decode cX11_fault 0 = .ok (.aload_n 0, 1) := by decide +kernel
theorem dX11_fault_1 : decode cX11_fault 1 = .ok (.getfield 176, 3) := by decide +kernel
theorem dX11_fault_4 : decode cX11_fault 4 = .ok (.ifCond .ne 5, 3) := by decide +kernel
theorem dX11_fault_7 : decode cX11_fault 7 = .ok (.iconst (-1), 1) := by decide +kernel
theorem dX11_fault_8 : decode cX11_fault 8 = .ok (.ireturn, 1) := by decide +kernel
theorem dX11_fault_9 : decode cX11_fault 9 = .ok (.iload_n 1, 1) := by decide +kernel
theorem dX11_fault_10 : decode cX11_fault 10 = .ok (.ifCond .ne 8, 3) := by decide +kernel
theorem dX11_fault_13 : decode cX11_fault 13 = .ok (.aload_n 0, 1) := by decide +kernel
theorem dX11_fault_14 : decode cX11_fault 14 = .ok (.getfield 180, 3) := by decide +kernel
theorem dX11_fault_17 : decode cX11_fault 17 = .ok (.ireturn, 1) := by decide +kernel
theorem dX11_fault_18 : decode cX11_fault 18 = .ok (.iload_n 1, 1) := by decide +kernel
theorem dX11_fault_19 : decode cX11_fault 19 = .ok (.iconst 1, 1) := by decide +kernel
theorem dX11_fault_20 : decode cX11_fault 20 = .ok (.if_icmp .ne 10, 3) := by decide +kernel
theorem dX11_fault_23 : decode cX11_fault 23 = .ok (.aload_n 0, 1) := by decide +kernel
theorem dX11_fault_24 : decode cX11_fault 24 = .ok (.getfield 80, 3) := by decide +kernel
theorem dX11_fault_27 : decode cX11_fault 27 = .ok (.goto 4, 3) := by decide +kernel
theorem dX11_fault_30 : decode cX11_fault 30 = .ok (.iconst (-1), 1) := by decide +kernel
theorem dX11_fault_31 : decode cX11_fault 31 = .ok (.ireturn, 1) := by decide +kernel
def F_X11_fault (w : Nat) (M : z_Mem) (a1 : Int32) : Option (Int32 × z_Mem) :=
  if (z_bb (M.1 0 16)) = true then
  if a1 = (0 : Int32) then
  some (M.1 0 14, M)
  else
  if a1 = (1 : Int32) then
  some (M.1 0 15, M)
  else
  some ((-1 : Int32), M)
  else
  some ((-1 : Int32), M)
set_option maxHeartbeats 4000000 in
theorem A_X11_fault {w : Nat} {M : z_Mem} {a1 : Int32} {r : Int32} {M' : z_Mem} {Q : Option Value → z_Mem → Prop} (h : F_X11_fault w M a1 = some (r, M')) (hq : Q (some (.int r)) M') : z_Cl 0 mX11_fault [.ref 2, .int a1] M Q := by
  refine g_in (ls := [some (.ref 2), some (.int a1)]) rfl ?_
  unfold F_X11_fault at h
  refine g_aload_n dX11_fault_0 rfl rfl ?_
  refine g_get (a := 0) (v := .int (z_tb (z_bb (M.1 0 16)))) dX11_fault_1 f_11_176 sh_0 rfl z_fvZ ?_
  refine g_if_ne (t := 9) dX11_fault_4 (by decide) (fun c1 => ?_) (fun c1 => ?_)
  · replace h := z_ift (z_tbn.mp c1) h
    refine g_iload_n dX11_fault_9 rfl rfl ?_
    refine g_if_ne (t := 18) dX11_fault_10 (by decide) (fun c2 => ?_) (fun c2 => ?_)
    · replace h := z_iff c2 h
      refine g_iload_n dX11_fault_18 rfl rfl ?_
      refine g_iconst (v := (1 : Int32)) dX11_fault_19 (by decide) ?_
      refine g_ic_ne (t := 30) dX11_fault_20 (by decide) (fun c3 => ?_) (fun c3 => ?_)
      · replace h := z_iff c3 h
        refine g_iconst (v := (-1 : Int32)) dX11_fault_30 (by decide) ?_
        cases h
        exact g_iret dX11_fault_31 rfl rfl hq
      · replace h := z_ift c3 h
        refine g_aload_n dX11_fault_23 rfl rfl ?_
        refine g_get (a := 0) (v := .int (M.1 0 15)) dX11_fault_24 f_11_80 sh_0 rfl rfl ?_
        refine g_goto (t := 31) dX11_fault_27 (by decide) ?_
        cases h
        exact g_iret dX11_fault_31 rfl rfl hq
    · replace h := z_ift c2 h
      refine g_aload_n dX11_fault_13 rfl rfl ?_
      refine g_get (a := 0) (v := .int (M.1 0 14)) dX11_fault_14 f_11_180 sh_0 rfl rfl ?_
      cases h
      exact g_iret dX11_fault_17 rfl rfl hq
  · replace h := z_iff (z_tb0.mp c1) h
    refine g_iconst (v := (-1 : Int32)) dX11_fault_7 (by decide) ?_
    cases h
    exact g_iret dX11_fault_8 rfl rfl hq
theorem dX11_many_0 : decode cX11_many 0 = .ok (.iload_n 1, 1) := by decide +kernel
theorem dX11_many_1 : decode cX11_many 1 = .ok (.tableswitch 225 0 11 #[63, 78, 93, 108, 123, 138, 150, 162, 174, 186, 198, 213], 63) := by decide +kernel
theorem dX11_many_64 : decode cX11_many 64 = .ok (.aload_n 0, 1) := by decide +kernel
theorem dX11_many_65 : decode cX11_many 65 = .ok (.aload_n 0, 1) := by decide +kernel
theorem dX11_many_66 : decode cX11_many 66 = .ok (.getfield 26, 3) := by decide +kernel
theorem dX11_many_69 : decode cX11_many 69 = .ok (.getfield 155, 3) := by decide +kernel
theorem dX11_many_72 : decode cX11_many 72 = .ok (.getfield 159, 3) := by decide +kernel
theorem dX11_many_75 : decode cX11_many 75 = .ok (.invokevirtual 164, 3) := by decide +kernel
theorem dX11_many_78 : decode cX11_many 78 = .ok (.ireturn, 1) := by decide +kernel
theorem dX11_many_79 : decode cX11_many 79 = .ok (.aload_n 0, 1) := by decide +kernel
theorem dX11_many_80 : decode cX11_many 80 = .ok (.aload_n 0, 1) := by decide +kernel
theorem dX11_many_81 : decode cX11_many 81 = .ok (.getfield 26, 3) := by decide +kernel
theorem dX11_many_84 : decode cX11_many 84 = .ok (.getfield 183, 3) := by decide +kernel
theorem dX11_many_87 : decode cX11_many 87 = .ok (.getfield 187, 3) := by decide +kernel
theorem dX11_many_90 : decode cX11_many 90 = .ok (.invokevirtual 164, 3) := by decide +kernel
theorem dX11_many_93 : decode cX11_many 93 = .ok (.ireturn, 1) := by decide +kernel
theorem dX11_many_94 : decode cX11_many 94 = .ok (.aload_n 0, 1) := by decide +kernel
theorem dX11_many_95 : decode cX11_many 95 = .ok (.aload_n 0, 1) := by decide +kernel
theorem dX11_many_96 : decode cX11_many 96 = .ok (.getfield 26, 3) := by decide +kernel
theorem dX11_many_99 : decode cX11_many 99 = .ok (.getfield 190, 3) := by decide +kernel
theorem dX11_many_102 : decode cX11_many 102 = .ok (.getfield 194, 3) := by decide +kernel
theorem dX11_many_105 : decode cX11_many 105 = .ok (.invokevirtual 164, 3) := by decide +kernel
theorem dX11_many_108 : decode cX11_many 108 = .ok (.ireturn, 1) := by decide +kernel
theorem dX11_many_109 : decode cX11_many 109 = .ok (.aload_n 0, 1) := by decide +kernel
theorem dX11_many_110 : decode cX11_many 110 = .ok (.aload_n 0, 1) := by decide +kernel
theorem dX11_many_111 : decode cX11_many 111 = .ok (.getfield 26, 3) := by decide +kernel
theorem dX11_many_114 : decode cX11_many 114 = .ok (.getfield 190, 3) := by decide +kernel
theorem dX11_many_117 : decode cX11_many 117 = .ok (.getfield 199, 3) := by decide +kernel
theorem dX11_many_120 : decode cX11_many 120 = .ok (.invokevirtual 164, 3) := by decide +kernel
theorem dX11_many_123 : decode cX11_many 123 = .ok (.ireturn, 1) := by decide +kernel
theorem dX11_many_124 : decode cX11_many 124 = .ok (.aload_n 0, 1) := by decide +kernel
theorem dX11_many_125 : decode cX11_many 125 = .ok (.aload_n 0, 1) := by decide +kernel
theorem dX11_many_126 : decode cX11_many 126 = .ok (.getfield 26, 3) := by decide +kernel
theorem dX11_many_129 : decode cX11_many 129 = .ok (.getfield 190, 3) := by decide +kernel
theorem dX11_many_132 : decode cX11_many 132 = .ok (.getfield 202, 3) := by decide +kernel
theorem dX11_many_135 : decode cX11_many 135 = .ok (.invokevirtual 164, 3) := by decide +kernel
theorem dX11_many_138 : decode cX11_many 138 = .ok (.ireturn, 1) := by decide +kernel
theorem dX11_many_139 : decode cX11_many 139 = .ok (.aload_n 0, 1) := by decide +kernel
theorem dX11_many_140 : decode cX11_many 140 = .ok (.aload_n 0, 1) := by decide +kernel
theorem dX11_many_141 : decode cX11_many 141 = .ok (.getfield 26, 3) := by decide +kernel
theorem dX11_many_144 : decode cX11_many 144 = .ok (.getfield 205, 3) := by decide +kernel
theorem dX11_many_147 : decode cX11_many 147 = .ok (.invokevirtual 164, 3) := by decide +kernel
theorem dX11_many_150 : decode cX11_many 150 = .ok (.ireturn, 1) := by decide +kernel
theorem dX11_many_151 : decode cX11_many 151 = .ok (.aload_n 0, 1) := by decide +kernel
theorem dX11_many_152 : decode cX11_many 152 = .ok (.aload_n 0, 1) := by decide +kernel
theorem dX11_many_153 : decode cX11_many 153 = .ok (.getfield 26, 3) := by decide +kernel
theorem dX11_many_156 : decode cX11_many 156 = .ok (.getfield 208, 3) := by decide +kernel
theorem dX11_many_159 : decode cX11_many 159 = .ok (.invokevirtual 164, 3) := by decide +kernel
theorem dX11_many_162 : decode cX11_many 162 = .ok (.ireturn, 1) := by decide +kernel
theorem dX11_many_163 : decode cX11_many 163 = .ok (.aload_n 0, 1) := by decide +kernel
theorem dX11_many_164 : decode cX11_many 164 = .ok (.aload_n 0, 1) := by decide +kernel
theorem dX11_many_165 : decode cX11_many 165 = .ok (.getfield 26, 3) := by decide +kernel
theorem dX11_many_168 : decode cX11_many 168 = .ok (.getfield 211, 3) := by decide +kernel
theorem dX11_many_171 : decode cX11_many 171 = .ok (.invokevirtual 164, 3) := by decide +kernel
theorem dX11_many_174 : decode cX11_many 174 = .ok (.ireturn, 1) := by decide +kernel
theorem dX11_many_175 : decode cX11_many 175 = .ok (.aload_n 0, 1) := by decide +kernel
theorem dX11_many_176 : decode cX11_many 176 = .ok (.aload_n 0, 1) := by decide +kernel
theorem dX11_many_177 : decode cX11_many 177 = .ok (.getfield 26, 3) := by decide +kernel
theorem dX11_many_180 : decode cX11_many 180 = .ok (.getfield 214, 3) := by decide +kernel
theorem dX11_many_183 : decode cX11_many 183 = .ok (.invokevirtual 164, 3) := by decide +kernel
theorem dX11_many_186 : decode cX11_many 186 = .ok (.ireturn, 1) := by decide +kernel
theorem dX11_many_187 : decode cX11_many 187 = .ok (.aload_n 0, 1) := by decide +kernel
theorem dX11_many_188 : decode cX11_many 188 = .ok (.aload_n 0, 1) := by decide +kernel
theorem dX11_many_189 : decode cX11_many 189 = .ok (.getfield 26, 3) := by decide +kernel
theorem dX11_many_192 : decode cX11_many 192 = .ok (.getfield 217, 3) := by decide +kernel
theorem dX11_many_195 : decode cX11_many 195 = .ok (.invokevirtual 164, 3) := by decide +kernel
theorem dX11_many_198 : decode cX11_many 198 = .ok (.ireturn, 1) := by decide +kernel
theorem dX11_many_199 : decode cX11_many 199 = .ok (.aload_n 0, 1) := by decide +kernel
theorem dX11_many_200 : decode cX11_many 200 = .ok (.aload_n 0, 1) := by decide +kernel
theorem dX11_many_201 : decode cX11_many 201 = .ok (.getfield 26, 3) := by decide +kernel
theorem dX11_many_204 : decode cX11_many 204 = .ok (.getfield 183, 3) := by decide +kernel
theorem dX11_many_207 : decode cX11_many 207 = .ok (.getfield 220, 3) := by decide +kernel
theorem dX11_many_210 : decode cX11_many 210 = .ok (.invokevirtual 164, 3) := by decide +kernel
theorem dX11_many_213 : decode cX11_many 213 = .ok (.ireturn, 1) := by decide +kernel
theorem dX11_many_214 : decode cX11_many 214 = .ok (.aload_n 0, 1) := by decide +kernel
theorem dX11_many_215 : decode cX11_many 215 = .ok (.aload_n 0, 1) := by decide +kernel
theorem dX11_many_216 : decode cX11_many 216 = .ok (.getfield 26, 3) := by decide +kernel
theorem dX11_many_219 : decode cX11_many 219 = .ok (.getfield 223, 3) := by decide +kernel
theorem dX11_many_222 : decode cX11_many 222 = .ok (.invokevirtual 164, 3) := by decide +kernel
theorem dX11_many_225 : decode cX11_many 225 = .ok (.ireturn, 1) := by decide +kernel
theorem dX11_many_226 : decode cX11_many 226 = .ok (.aload_n 0, 1) := by decide +kernel
theorem dX11_many_227 : decode cX11_many 227 = .ok (.iconst 5, 1) := by decide +kernel
theorem dX11_many_228 : decode cX11_many 228 = .ok (.invokevirtual 113, 3) := by decide +kernel
theorem dX11_many_231 : decode cX11_many 231 = .ok (.ireturn, 1) := by decide +kernel
def F_X11_many (w : Nat) (M : z_Mem) (a1 : Int32) : Option (Int32 × z_Mem) :=
  if a1 = (0 : Int32) then
  (F_X11_answer w M (M.1 9 5)).bind fun q2 =>
  some (q2.1, q2.2)
  else
  if a1 = (1 : Int32) then
  (F_X11_answer w M (M.1 15 3)).bind fun q5 =>
  some (q5.1, q5.2)
  else
  if a1 = (2 : Int32) then
  (F_X11_answer w M (M.1 19 4)).bind fun q8 =>
  some (q8.1, q8.2)
  else
  if a1 = (3 : Int32) then
  (F_X11_answer w M (M.1 19 5)).bind fun q11 =>
  some (q11.1, q11.2)
  else
  if a1 = (4 : Int32) then
  (F_X11_answer w M (M.1 19 6)).bind fun q14 =>
  some (q14.1, q14.2)
  else
  if a1 = (5 : Int32) then
  (F_X11_answer w M (M.1 7 5)).bind fun q17 =>
  some (q17.1, q17.2)
  else
  if a1 = (6 : Int32) then
  (F_X11_answer w M (M.1 7 6)).bind fun q20 =>
  some (q20.1, q20.2)
  else
  if a1 = (7 : Int32) then
  (F_X11_answer w M (M.1 7 7)).bind fun q23 =>
  some (q23.1, q23.2)
  else
  if a1 = (8 : Int32) then
  (F_X11_answer w M (M.1 7 8)).bind fun q26 =>
  some (q26.1, q26.2)
  else
  if a1 = (9 : Int32) then
  (F_X11_answer w M (M.1 7 10)).bind fun q29 =>
  some (q29.1, q29.2)
  else
  if a1 = (10 : Int32) then
  (F_X11_answer w M (M.1 15 4)).bind fun q32 =>
  some (q32.1, q32.2)
  else
  if a1 = (11 : Int32) then
  (F_X11_answer w M (M.1 7 11)).bind fun q35 =>
  some (q35.1, q35.2)
  else
  (F_X11_refuse w M (5 : Int32)).bind fun q37 =>
  some (q37.1, q37.2)
set_option maxHeartbeats 4000000 in
theorem A_X11_many {w : Nat} {M : z_Mem} {a1 : Int32} {r : Int32} {M' : z_Mem} {Q : Option Value → z_Mem → Prop} (h : F_X11_many w M a1 = some (r, M')) (hq : Q (some (.int r)) M') : z_Cl 1 mX11_many [.ref 2, .int a1] M Q := by
  refine g_in (ls := [some (.ref 2), some (.int a1)]) rfl ?_
  unfold F_X11_many at h
  refine g_iload_n dX11_many_0 rfl rfl ?_
  by_cases s1 : a1 = (0 : Int32)
  · replace h := z_ift s1 h
    refine g_top (v := (0 : Int32)) s1 ?_
    refine g_tsIn (off := 63) (t := 64) dX11_many_1 (by decide) (by decide) (by decide) ?_
    refine g_aload_n dX11_many_64 rfl rfl ?_
    refine g_aload_n dX11_many_65 rfl rfl ?_
    refine g_get (a := 0) (v := .ref 9) dX11_many_66 f_11_26 sh_0 rfl rfl ?_
    refine g_get (a := 7) (v := .ref 11) dX11_many_69 f_11_155 sh_7 rfl rfl ?_
    refine g_get (a := 9) (v := .int (M.1 9 5)) dX11_many_72 f_11_159 sh_9 rfl rfl ?_
    obtain ⟨q2, e3, h⟩ := z_bd h
    refine g_callV (a := 0) (as := [.int (M.1 9 5)]) (rest := []) (c := mX11_answer) (k1 := 0) dX11_many_75 rfl rfl rfl sh_0 rfl rfl (Nat.le_of_ble_eq_true rfl) (Nat.le_of_ble_eq_true rfl) (by decide) ?_
    refine A_X11_answer e3 ?_
    show z_G none 1 mX11_many 78 [some (.ref 2), some (.int a1)] [.int q2.1] q2.2 Q
    cases h
    exact g_iret dX11_many_78 rfl rfl hq
  replace h := z_iff s1 h
  by_cases s4 : a1 = (1 : Int32)
  · replace h := z_ift s4 h
    refine g_top (v := (1 : Int32)) s4 ?_
    refine g_tsIn (off := 78) (t := 79) dX11_many_1 (by decide) (by decide) (by decide) ?_
    refine g_aload_n dX11_many_79 rfl rfl ?_
    refine g_aload_n dX11_many_80 rfl rfl ?_
    refine g_get (a := 0) (v := .ref 9) dX11_many_81 f_11_26 sh_0 rfl rfl ?_
    refine g_get (a := 7) (v := .ref 17) dX11_many_84 f_11_183 sh_7 rfl rfl ?_
    refine g_get (a := 15) (v := .int (M.1 15 3)) dX11_many_87 f_11_187 sh_15 rfl rfl ?_
    obtain ⟨q5, e6, h⟩ := z_bd h
    refine g_callV (a := 0) (as := [.int (M.1 15 3)]) (rest := []) (c := mX11_answer) (k1 := 0) dX11_many_90 rfl rfl rfl sh_0 rfl rfl (Nat.le_of_ble_eq_true rfl) (Nat.le_of_ble_eq_true rfl) (by decide) ?_
    refine A_X11_answer e6 ?_
    show z_G none 1 mX11_many 93 [some (.ref 2), some (.int a1)] [.int q5.1] q5.2 Q
    cases h
    exact g_iret dX11_many_93 rfl rfl hq
  replace h := z_iff s4 h
  by_cases s7 : a1 = (2 : Int32)
  · replace h := z_ift s7 h
    refine g_top (v := (2 : Int32)) s7 ?_
    refine g_tsIn (off := 93) (t := 94) dX11_many_1 (by decide) (by decide) (by decide) ?_
    refine g_aload_n dX11_many_94 rfl rfl ?_
    refine g_aload_n dX11_many_95 rfl rfl ?_
    refine g_get (a := 0) (v := .ref 9) dX11_many_96 f_11_26 sh_0 rfl rfl ?_
    refine g_get (a := 7) (v := .ref 21) dX11_many_99 f_11_190 sh_7 rfl rfl ?_
    refine g_get (a := 19) (v := .int (M.1 19 4)) dX11_many_102 f_11_194 sh_19 rfl rfl ?_
    obtain ⟨q8, e9, h⟩ := z_bd h
    refine g_callV (a := 0) (as := [.int (M.1 19 4)]) (rest := []) (c := mX11_answer) (k1 := 0) dX11_many_105 rfl rfl rfl sh_0 rfl rfl (Nat.le_of_ble_eq_true rfl) (Nat.le_of_ble_eq_true rfl) (by decide) ?_
    refine A_X11_answer e9 ?_
    show z_G none 1 mX11_many 108 [some (.ref 2), some (.int a1)] [.int q8.1] q8.2 Q
    cases h
    exact g_iret dX11_many_108 rfl rfl hq
  replace h := z_iff s7 h
  by_cases s10 : a1 = (3 : Int32)
  · replace h := z_ift s10 h
    refine g_top (v := (3 : Int32)) s10 ?_
    refine g_tsIn (off := 108) (t := 109) dX11_many_1 (by decide) (by decide) (by decide) ?_
    refine g_aload_n dX11_many_109 rfl rfl ?_
    refine g_aload_n dX11_many_110 rfl rfl ?_
    refine g_get (a := 0) (v := .ref 9) dX11_many_111 f_11_26 sh_0 rfl rfl ?_
    refine g_get (a := 7) (v := .ref 21) dX11_many_114 f_11_190 sh_7 rfl rfl ?_
    refine g_get (a := 19) (v := .int (M.1 19 5)) dX11_many_117 f_11_199 sh_19 rfl rfl ?_
    obtain ⟨q11, e12, h⟩ := z_bd h
    refine g_callV (a := 0) (as := [.int (M.1 19 5)]) (rest := []) (c := mX11_answer) (k1 := 0) dX11_many_120 rfl rfl rfl sh_0 rfl rfl (Nat.le_of_ble_eq_true rfl) (Nat.le_of_ble_eq_true rfl) (by decide) ?_
    refine A_X11_answer e12 ?_
    show z_G none 1 mX11_many 123 [some (.ref 2), some (.int a1)] [.int q11.1] q11.2 Q
    cases h
    exact g_iret dX11_many_123 rfl rfl hq
  replace h := z_iff s10 h
  by_cases s13 : a1 = (4 : Int32)
  · replace h := z_ift s13 h
    refine g_top (v := (4 : Int32)) s13 ?_
    refine g_tsIn (off := 123) (t := 124) dX11_many_1 (by decide) (by decide) (by decide) ?_
    refine g_aload_n dX11_many_124 rfl rfl ?_
    refine g_aload_n dX11_many_125 rfl rfl ?_
    refine g_get (a := 0) (v := .ref 9) dX11_many_126 f_11_26 sh_0 rfl rfl ?_
    refine g_get (a := 7) (v := .ref 21) dX11_many_129 f_11_190 sh_7 rfl rfl ?_
    refine g_get (a := 19) (v := .int (M.1 19 6)) dX11_many_132 f_11_202 sh_19 rfl rfl ?_
    obtain ⟨q14, e15, h⟩ := z_bd h
    refine g_callV (a := 0) (as := [.int (M.1 19 6)]) (rest := []) (c := mX11_answer) (k1 := 0) dX11_many_135 rfl rfl rfl sh_0 rfl rfl (Nat.le_of_ble_eq_true rfl) (Nat.le_of_ble_eq_true rfl) (by decide) ?_
    refine A_X11_answer e15 ?_
    show z_G none 1 mX11_many 138 [some (.ref 2), some (.int a1)] [.int q14.1] q14.2 Q
    cases h
    exact g_iret dX11_many_138 rfl rfl hq
  replace h := z_iff s13 h
  by_cases s16 : a1 = (5 : Int32)
  · replace h := z_ift s16 h
    refine g_top (v := (5 : Int32)) s16 ?_
    refine g_tsIn (off := 138) (t := 139) dX11_many_1 (by decide) (by decide) (by decide) ?_
    refine g_aload_n dX11_many_139 rfl rfl ?_
    refine g_aload_n dX11_many_140 rfl rfl ?_
    refine g_get (a := 0) (v := .ref 9) dX11_many_141 f_11_26 sh_0 rfl rfl ?_
    refine g_get (a := 7) (v := .int (M.1 7 5)) dX11_many_144 f_11_205 sh_7 rfl rfl ?_
    obtain ⟨q17, e18, h⟩ := z_bd h
    refine g_callV (a := 0) (as := [.int (M.1 7 5)]) (rest := []) (c := mX11_answer) (k1 := 0) dX11_many_147 rfl rfl rfl sh_0 rfl rfl (Nat.le_of_ble_eq_true rfl) (Nat.le_of_ble_eq_true rfl) (by decide) ?_
    refine A_X11_answer e18 ?_
    show z_G none 1 mX11_many 150 [some (.ref 2), some (.int a1)] [.int q17.1] q17.2 Q
    cases h
    exact g_iret dX11_many_150 rfl rfl hq
  replace h := z_iff s16 h
  by_cases s19 : a1 = (6 : Int32)
  · replace h := z_ift s19 h
    refine g_top (v := (6 : Int32)) s19 ?_
    refine g_tsIn (off := 150) (t := 151) dX11_many_1 (by decide) (by decide) (by decide) ?_
    refine g_aload_n dX11_many_151 rfl rfl ?_
    refine g_aload_n dX11_many_152 rfl rfl ?_
    refine g_get (a := 0) (v := .ref 9) dX11_many_153 f_11_26 sh_0 rfl rfl ?_
    refine g_get (a := 7) (v := .int (M.1 7 6)) dX11_many_156 f_11_208 sh_7 rfl rfl ?_
    obtain ⟨q20, e21, h⟩ := z_bd h
    refine g_callV (a := 0) (as := [.int (M.1 7 6)]) (rest := []) (c := mX11_answer) (k1 := 0) dX11_many_159 rfl rfl rfl sh_0 rfl rfl (Nat.le_of_ble_eq_true rfl) (Nat.le_of_ble_eq_true rfl) (by decide) ?_
    refine A_X11_answer e21 ?_
    show z_G none 1 mX11_many 162 [some (.ref 2), some (.int a1)] [.int q20.1] q20.2 Q
    cases h
    exact g_iret dX11_many_162 rfl rfl hq
  replace h := z_iff s19 h
  by_cases s22 : a1 = (7 : Int32)
  · replace h := z_ift s22 h
    refine g_top (v := (7 : Int32)) s22 ?_
    refine g_tsIn (off := 162) (t := 163) dX11_many_1 (by decide) (by decide) (by decide) ?_
    refine g_aload_n dX11_many_163 rfl rfl ?_
    refine g_aload_n dX11_many_164 rfl rfl ?_
    refine g_get (a := 0) (v := .ref 9) dX11_many_165 f_11_26 sh_0 rfl rfl ?_
    refine g_get (a := 7) (v := .int (M.1 7 7)) dX11_many_168 f_11_211 sh_7 rfl rfl ?_
    obtain ⟨q23, e24, h⟩ := z_bd h
    refine g_callV (a := 0) (as := [.int (M.1 7 7)]) (rest := []) (c := mX11_answer) (k1 := 0) dX11_many_171 rfl rfl rfl sh_0 rfl rfl (Nat.le_of_ble_eq_true rfl) (Nat.le_of_ble_eq_true rfl) (by decide) ?_
    refine A_X11_answer e24 ?_
    show z_G none 1 mX11_many 174 [some (.ref 2), some (.int a1)] [.int q23.1] q23.2 Q
    cases h
    exact g_iret dX11_many_174 rfl rfl hq
  replace h := z_iff s22 h
  by_cases s25 : a1 = (8 : Int32)
  · replace h := z_ift s25 h
    refine g_top (v := (8 : Int32)) s25 ?_
    refine g_tsIn (off := 174) (t := 175) dX11_many_1 (by decide) (by decide) (by decide) ?_
    refine g_aload_n dX11_many_175 rfl rfl ?_
    refine g_aload_n dX11_many_176 rfl rfl ?_
    refine g_get (a := 0) (v := .ref 9) dX11_many_177 f_11_26 sh_0 rfl rfl ?_
    refine g_get (a := 7) (v := .int (M.1 7 8)) dX11_many_180 f_11_214 sh_7 rfl rfl ?_
    obtain ⟨q26, e27, h⟩ := z_bd h
    refine g_callV (a := 0) (as := [.int (M.1 7 8)]) (rest := []) (c := mX11_answer) (k1 := 0) dX11_many_183 rfl rfl rfl sh_0 rfl rfl (Nat.le_of_ble_eq_true rfl) (Nat.le_of_ble_eq_true rfl) (by decide) ?_
    refine A_X11_answer e27 ?_
    show z_G none 1 mX11_many 186 [some (.ref 2), some (.int a1)] [.int q26.1] q26.2 Q
    cases h
    exact g_iret dX11_many_186 rfl rfl hq
  replace h := z_iff s25 h
  by_cases s28 : a1 = (9 : Int32)
  · replace h := z_ift s28 h
    refine g_top (v := (9 : Int32)) s28 ?_
    refine g_tsIn (off := 186) (t := 187) dX11_many_1 (by decide) (by decide) (by decide) ?_
    refine g_aload_n dX11_many_187 rfl rfl ?_
    refine g_aload_n dX11_many_188 rfl rfl ?_
    refine g_get (a := 0) (v := .ref 9) dX11_many_189 f_11_26 sh_0 rfl rfl ?_
    refine g_get (a := 7) (v := .int (M.1 7 10)) dX11_many_192 f_11_217 sh_7 rfl rfl ?_
    obtain ⟨q29, e30, h⟩ := z_bd h
    refine g_callV (a := 0) (as := [.int (M.1 7 10)]) (rest := []) (c := mX11_answer) (k1 := 0) dX11_many_195 rfl rfl rfl sh_0 rfl rfl (Nat.le_of_ble_eq_true rfl) (Nat.le_of_ble_eq_true rfl) (by decide) ?_
    refine A_X11_answer e30 ?_
    show z_G none 1 mX11_many 198 [some (.ref 2), some (.int a1)] [.int q29.1] q29.2 Q
    cases h
    exact g_iret dX11_many_198 rfl rfl hq
  replace h := z_iff s28 h
  by_cases s31 : a1 = (10 : Int32)
  · replace h := z_ift s31 h
    refine g_top (v := (10 : Int32)) s31 ?_
    refine g_tsIn (off := 198) (t := 199) dX11_many_1 (by decide) (by decide) (by decide) ?_
    refine g_aload_n dX11_many_199 rfl rfl ?_
    refine g_aload_n dX11_many_200 rfl rfl ?_
    refine g_get (a := 0) (v := .ref 9) dX11_many_201 f_11_26 sh_0 rfl rfl ?_
    refine g_get (a := 7) (v := .ref 17) dX11_many_204 f_11_183 sh_7 rfl rfl ?_
    refine g_get (a := 15) (v := .int (M.1 15 4)) dX11_many_207 f_11_220 sh_15 rfl rfl ?_
    obtain ⟨q32, e33, h⟩ := z_bd h
    refine g_callV (a := 0) (as := [.int (M.1 15 4)]) (rest := []) (c := mX11_answer) (k1 := 0) dX11_many_210 rfl rfl rfl sh_0 rfl rfl (Nat.le_of_ble_eq_true rfl) (Nat.le_of_ble_eq_true rfl) (by decide) ?_
    refine A_X11_answer e33 ?_
    show z_G none 1 mX11_many 213 [some (.ref 2), some (.int a1)] [.int q32.1] q32.2 Q
    cases h
    exact g_iret dX11_many_213 rfl rfl hq
  replace h := z_iff s31 h
  by_cases s34 : a1 = (11 : Int32)
  · replace h := z_ift s34 h
    refine g_top (v := (11 : Int32)) s34 ?_
    refine g_tsIn (off := 213) (t := 214) dX11_many_1 (by decide) (by decide) (by decide) ?_
    refine g_aload_n dX11_many_214 rfl rfl ?_
    refine g_aload_n dX11_many_215 rfl rfl ?_
    refine g_get (a := 0) (v := .ref 9) dX11_many_216 f_11_26 sh_0 rfl rfl ?_
    refine g_get (a := 7) (v := .int (M.1 7 11)) dX11_many_219 f_11_223 sh_7 rfl rfl ?_
    obtain ⟨q35, e36, h⟩ := z_bd h
    refine g_callV (a := 0) (as := [.int (M.1 7 11)]) (rest := []) (c := mX11_answer) (k1 := 0) dX11_many_222 rfl rfl rfl sh_0 rfl rfl (Nat.le_of_ble_eq_true rfl) (Nat.le_of_ble_eq_true rfl) (by decide) ?_
    refine A_X11_answer e36 ?_
    show z_G none 1 mX11_many 225 [some (.ref 2), some (.int a1)] [.int q35.1] q35.2 Q
    cases h
    exact g_iret dX11_many_225 rfl rfl hq
  replace h := z_iff s34 h
  refine g_tsOut (t := 226) dX11_many_1 (by have t0 := z_neL (n := 0) (by decide) s1; have t1 := z_neL (n := 1) (by decide) s4; have t2 := z_neL (n := 2) (by decide) s7; have t3 := z_neL (n := 3) (by decide) s10; have t4 := z_neL (n := 4) (by decide) s13; have t5 := z_neL (n := 5) (by decide) s16; have t6 := z_neL (n := 6) (by decide) s19; have t7 := z_neL (n := 7) (by decide) s22; have t8 := z_neL (n := 8) (by decide) s25; have t9 := z_neL (n := 9) (by decide) s28; have t10 := z_neL (n := 10) (by decide) s31; have t11 := z_neL (n := 11) (by decide) s34; omega) (by decide) ?_
  refine g_aload_n dX11_many_226 rfl rfl ?_
  refine g_iconst (v := (5 : Int32)) dX11_many_227 (by decide) ?_
  obtain ⟨q37, e38, h⟩ := z_bd h
  refine g_callV (a := 0) (as := [.int (5 : Int32)]) (rest := []) (c := mX11_refuse) (k1 := 0) dX11_many_228 rfl rfl rfl sh_0 rfl rfl (Nat.le_of_ble_eq_true rfl) (Nat.le_of_ble_eq_true rfl) (by decide) ?_
  refine A_X11_refuse e38 ?_
  show z_G none 1 mX11_many 231 [some (.ref 2), some (.int a1)] [.int q37.1] q37.2 Q
  cases h
  exact g_iret dX11_many_231 rfl rfl hq
theorem dX11_isSide_0 : decode cX11_isSide 0 = .ok (.iload_n 0, 1) := by decide +kernel
theorem dX11_isSide_1 : decode cX11_isSide 1 = .ok (.ifCond .eq 8, 3) := by decide +kernel
theorem dX11_isSide_4 : decode cX11_isSide 4 = .ok (.iload_n 0, 1) := by decide +kernel
theorem dX11_isSide_5 : decode cX11_isSide 5 = .ok (.iconst 1, 1) := by decide +kernel
theorem dX11_isSide_6 : decode cX11_isSide 6 = .ok (.if_icmp .ne 7, 3) := by decide +kernel
theorem dX11_isSide_9 : decode cX11_isSide 9 = .ok (.iconst 1, 1) := by decide +kernel
theorem dX11_isSide_10 : decode cX11_isSide 10 = .ok (.goto 4, 3) := by decide +kernel
theorem dX11_isSide_13 : decode cX11_isSide 13 = .ok (.iconst 0, 1) := by decide +kernel
theorem dX11_isSide_14 : decode cX11_isSide 14 = .ok (.ireturn, 1) := by decide +kernel
def F_X11_isSide (w : Nat) (M : z_Mem) (a0 : Int32) : Option (Bool × z_Mem) :=
  if a0 = (0 : Int32) then
  some (true, M)
  else
  if a0 = (1 : Int32) then
  some (true, M)
  else
  some (false, M)
set_option maxHeartbeats 4000000 in
theorem A_X11_isSide {w : Nat} {M : z_Mem} {a0 : Int32} {r : Bool} {M' : z_Mem} {Q : Option Value → z_Mem → Prop} (h : F_X11_isSide w M a0 = some (r, M')) (hq : Q (some (.int (z_tb r))) M') : z_Cl 0 mX11_isSide [.int a0] M Q := by
  refine g_in (ls := [some (.int a0)]) rfl ?_
  unfold F_X11_isSide at h
  refine g_iload_n dX11_isSide_0 rfl rfl ?_
  refine g_if_eq (t := 9) dX11_isSide_1 (by decide) (fun c1 => ?_) (fun c1 => ?_)
  · replace h := z_ift c1 h
    refine g_iconst (v := (1 : Int32)) dX11_isSide_9 (by decide) ?_
    refine g_goto (t := 14) dX11_isSide_10 (by decide) ?_
    cases h
    exact g_iret dX11_isSide_14 rfl rfl hq
  · replace h := z_iff c1 h
    refine g_iload_n dX11_isSide_4 rfl rfl ?_
    refine g_iconst (v := (1 : Int32)) dX11_isSide_5 (by decide) ?_
    refine g_ic_ne (t := 13) dX11_isSide_6 (by decide) (fun c2 => ?_) (fun c2 => ?_)
    · replace h := z_iff c2 h
      refine g_iconst (v := (0 : Int32)) dX11_isSide_13 (by decide) ?_
      cases h
      exact g_iret dX11_isSide_14 rfl rfl hq
    · replace h := z_ift c2 h
      refine g_iconst (v := (1 : Int32)) dX11_isSide_9 (by decide) ?_
      refine g_goto (t := 14) dX11_isSide_10 (by decide) ?_
      cases h
      exact g_iret dX11_isSide_14 rfl rfl hq
theorem dX11_chest_0 : decode cX11_chest 0 = .ok (.iload_n 1, 1) := by decide +kernel
theorem dX11_chest_1 : decode cX11_chest 1 = .ok (.invokestatic 226, 3) := by decide +kernel
theorem dX11_chest_4 : decode cX11_chest 4 = .ok (.ifCond .eq 19, 3) := by decide +kernel
theorem dX11_chest_7 : decode cX11_chest 7 = .ok (.aload_n 0, 1) := by decide +kernel
theorem dX11_chest_8 : decode cX11_chest 8 = .ok (.aload_n 0, 1) := by decide +kernel
theorem dX11_chest_9 : decode cX11_chest 9 = .ok (.getfield 26, 3) := by decide +kernel
theorem dX11_chest_12 : decode cX11_chest 12 = .ok (.getfield 229, 3) := by decide +kernel
theorem dX11_chest_15 : decode cX11_chest 15 = .ok (.iload_n 1, 1) := by decide +kernel
theorem dX11_chest_16 : decode cX11_chest 16 = .ok (.iaload, 1) := by decide +kernel
theorem dX11_chest_17 : decode cX11_chest 17 = .ok (.invokevirtual 164, 3) := by decide +kernel
theorem dX11_chest_20 : decode cX11_chest 20 = .ok (.goto 8, 3) := by decide +kernel
theorem dX11_chest_23 : decode cX11_chest 23 = .ok (.aload_n 0, 1) := by decide +kernel
theorem dX11_chest_24 : decode cX11_chest 24 = .ok (.iconst 2, 1) := by decide +kernel
theorem dX11_chest_25 : decode cX11_chest 25 = .ok (.invokevirtual 113, 3) := by decide +kernel
theorem dX11_chest_28 : decode cX11_chest 28 = .ok (.ireturn, 1) := by decide +kernel
def F_X11_chest (w : Nat) (M : z_Mem) (a1 : Int32) : Option (Int32 × z_Mem) :=
  (F_X11_isSide w M a1).bind fun q1 =>
  if q1.1 = true then
  if a1 < 0 ∨ 2 ≤ a1.toNatClampNeg then none else
  (F_X11_answer w q1.2 (q1.2.1 8 a1.toNatClampNeg)).bind fun q7 =>
  some (q7.1, q7.2)
  else
  (F_X11_refuse w q1.2 (2 : Int32)).bind fun q4 =>
  some (q4.1, q4.2)
set_option maxHeartbeats 4000000 in
theorem A_X11_chest {w : Nat} {M : z_Mem} {a1 : Int32} {r : Int32} {M' : z_Mem} {Q : Option Value → z_Mem → Prop} (h : F_X11_chest w M a1 = some (r, M')) (hq : Q (some (.int r)) M') : z_Cl 1 mX11_chest [.ref 2, .int a1] M Q := by
  refine g_in (ls := [some (.ref 2), some (.int a1)]) rfl ?_
  unfold F_X11_chest at h
  refine g_iload_n dX11_chest_0 rfl rfl ?_
  obtain ⟨q1, e2, h⟩ := z_bd h
  refine g_callS (as := [.int a1]) (rest := []) (c := mX11_isSide) (k1 := 0) dX11_chest_1 rfl rfl rfl rfl rfl (Nat.le_of_ble_eq_true rfl) (Nat.le_of_ble_eq_true rfl) (by decide) ?_
  refine A_X11_isSide e2 ?_
  show z_G none 1 mX11_chest 4 [some (.ref 2), some (.int a1)] [.int (z_tb q1.1)] q1.2 Q
  refine g_if_eq (t := 23) dX11_chest_4 (by decide) (fun c3 => ?_) (fun c3 => ?_)
  · replace h := z_iff (z_tb0.mp c3) h
    refine g_aload_n dX11_chest_23 rfl rfl ?_
    refine g_iconst (v := (2 : Int32)) dX11_chest_24 (by decide) ?_
    obtain ⟨q4, e5, h⟩ := z_bd h
    refine g_callV (a := 0) (as := [.int (2 : Int32)]) (rest := []) (c := mX11_refuse) (k1 := 0) dX11_chest_25 rfl rfl rfl sh_0 rfl rfl (Nat.le_of_ble_eq_true rfl) (Nat.le_of_ble_eq_true rfl) (by decide) ?_
    refine A_X11_refuse e5 ?_
    show z_G none 1 mX11_chest 28 [some (.ref 2), some (.int a1)] [.int q4.1] q4.2 Q
    cases h
    exact g_iret dX11_chest_28 rfl rfl hq
  · replace h := z_ift (z_tbn.mp c3) h
    refine g_aload_n dX11_chest_7 rfl rfl ?_
    refine g_aload_n dX11_chest_8 rfl rfl ?_
    refine g_get (a := 0) (v := .ref 9) dX11_chest_9 f_11_26 sh_0 rfl rfl ?_
    refine g_get (a := 7) (v := .ref 10) dX11_chest_12 f_11_229 sh_7 rfl rfl ?_
    refine g_iload_n dX11_chest_15 rfl rfl ?_
    by_cases g6 : a1 < 0 ∨ 2 ≤ a1.toNatClampNeg
    · rw [if_pos g6] at h; cases h
    replace h := z_iff g6 h
    refine g_iald (a := 8) dX11_chest_16 sh_8 g6 ?_
    obtain ⟨q7, e8, h⟩ := z_bd h
    refine g_callV (a := 0) (as := [.int (q1.2.1 8 a1.toNatClampNeg)]) (rest := []) (c := mX11_answer) (k1 := 0) dX11_chest_17 rfl rfl rfl sh_0 rfl rfl (Nat.le_of_ble_eq_true rfl) (Nat.le_of_ble_eq_true rfl) (by decide) ?_
    refine A_X11_answer e8 ?_
    show z_G none 1 mX11_chest 20 [some (.ref 2), some (.int a1)] [.int q7.1] q7.2 Q
    refine g_goto (t := 28) dX11_chest_20 (by decide) ?_
    cases h
    exact g_iret dX11_chest_28 rfl rfl hq
theorem dX11_right_0 : decode cX11_right 0 = .ok (.aload_n 0, 1) := by decide +kernel
theorem dX11_right_1 : decode cX11_right 1 = .ok (.getfield 26, 3) := by decide +kernel
theorem dX11_right_4 : decode cX11_right 4 = .ok (.getfield 155, 3) := by decide +kernel
theorem dX11_right_7 : decode cX11_right 7 = .ok (.astore_n 3, 1) := by decide +kernel
theorem dX11_right_8 : decode cX11_right 8 = .ok (.aload_n 3, 1) := by decide +kernel
theorem dX11_right_9 : decode cX11_right 9 = .ok (.iload_n 1, 1) := by decide +kernel
theorem dX11_right_10 : decode cX11_right 10 = .ok (.invokevirtual 232, 3) := by decide +kernel
theorem dX11_right_13 : decode cX11_right 13 = .ok (.ifCond .ne 9, 3) := by decide +kernel
theorem dX11_right_16 : decode cX11_right 16 = .ok (.aload_n 0, 1) := by decide +kernel
theorem dX11_right_17 : decode cX11_right 17 = .ok (.iconst 2, 1) := by decide +kernel
theorem dX11_right_18 : decode cX11_right 18 = .ok (.invokevirtual 113, 3) := by decide +kernel
theorem dX11_right_21 : decode cX11_right 21 = .ok (.ireturn, 1) := by decide +kernel
theorem dX11_right_22 : decode cX11_right 22 = .ok (.iload_n 2, 1) := by decide +kernel
theorem dX11_right_23 : decode cX11_right 23 = .ok (.tableswitch 107 0 4 #[33, 44, 55, 85, 96], 33) := by decide +kernel
theorem dX11_right_56 : decode cX11_right 56 = .ok (.aload_n 0, 1) := by decide +kernel
theorem dX11_right_57 : decode cX11_right 57 = .ok (.aload_n 3, 1) := by decide +kernel
theorem dX11_right_58 : decode cX11_right 58 = .ok (.getfield 235, 3) := by decide +kernel
theorem dX11_right_61 : decode cX11_right 61 = .ok (.iload_n 1, 1) := by decide +kernel
theorem dX11_right_62 : decode cX11_right 62 = .ok (.iaload, 1) := by decide +kernel
theorem dX11_right_63 : decode cX11_right 63 = .ok (.invokevirtual 164, 3) := by decide +kernel
theorem dX11_right_66 : decode cX11_right 66 = .ok (.ireturn, 1) := by decide +kernel
theorem dX11_right_67 : decode cX11_right 67 = .ok (.aload_n 0, 1) := by decide +kernel
theorem dX11_right_68 : decode cX11_right 68 = .ok (.aload_n 3, 1) := by decide +kernel
theorem dX11_right_69 : decode cX11_right 69 = .ok (.getfield 238, 3) := by decide +kernel
theorem dX11_right_72 : decode cX11_right 72 = .ok (.iload_n 1, 1) := by decide +kernel
theorem dX11_right_73 : decode cX11_right 73 = .ok (.iaload, 1) := by decide +kernel
theorem dX11_right_74 : decode cX11_right 74 = .ok (.invokevirtual 164, 3) := by decide +kernel
theorem dX11_right_77 : decode cX11_right 77 = .ok (.ireturn, 1) := by decide +kernel
theorem dX11_right_78 : decode cX11_right 78 = .ok (.aload_n 3, 1) := by decide +kernel
theorem dX11_right_79 : decode cX11_right 79 = .ok (.getfield 238, 3) := by decide +kernel
theorem dX11_right_82 : decode cX11_right 82 = .ok (.iload_n 1, 1) := by decide +kernel
theorem dX11_right_83 : decode cX11_right 83 = .ok (.iaload, 1) := by decide +kernel
theorem dX11_right_84 : decode cX11_right 84 = .ok (.iconst 2, 1) := by decide +kernel
theorem dX11_right_85 : decode cX11_right 85 = .ok (.if_icmp .ne 16, 3) := by decide +kernel
theorem dX11_right_88 : decode cX11_right 88 = .ok (.aload_n 0, 1) := by decide +kernel
theorem dX11_right_89 : decode cX11_right 89 = .ok (.aload_n 3, 1) := by decide +kernel
theorem dX11_right_90 : decode cX11_right 90 = .ok (.getfield 241, 3) := by decide +kernel
theorem dX11_right_93 : decode cX11_right 93 = .ok (.iload_n 1, 1) := by decide +kernel
theorem dX11_right_94 : decode cX11_right 94 = .ok (.iaload, 1) := by decide +kernel
theorem dX11_right_95 : decode cX11_right 95 = .ok (.invokevirtual 164, 3) := by decide +kernel
theorem dX11_right_98 : decode cX11_right 98 = .ok (.goto 9, 3) := by decide +kernel
theorem dX11_right_101 : decode cX11_right 101 = .ok (.aload_n 0, 1) := by decide +kernel
theorem dX11_right_102 : decode cX11_right 102 = .ok (.bipush 8, 2) := by decide +kernel
theorem dX11_right_104 : decode cX11_right 104 = .ok (.invokevirtual 113, 3) := by decide +kernel
theorem dX11_right_107 : decode cX11_right 107 = .ok (.ireturn, 1) := by decide +kernel
theorem dX11_right_108 : decode cX11_right 108 = .ok (.aload_n 0, 1) := by decide +kernel
theorem dX11_right_109 : decode cX11_right 109 = .ok (.aload_n 3, 1) := by decide +kernel
theorem dX11_right_110 : decode cX11_right 110 = .ok (.getfield 244, 3) := by decide +kernel
theorem dX11_right_113 : decode cX11_right 113 = .ok (.iload_n 1, 1) := by decide +kernel
theorem dX11_right_114 : decode cX11_right 114 = .ok (.iaload, 1) := by decide +kernel
theorem dX11_right_115 : decode cX11_right 115 = .ok (.invokevirtual 164, 3) := by decide +kernel
theorem dX11_right_118 : decode cX11_right 118 = .ok (.ireturn, 1) := by decide +kernel
theorem dX11_right_119 : decode cX11_right 119 = .ok (.aload_n 0, 1) := by decide +kernel
theorem dX11_right_120 : decode cX11_right 120 = .ok (.aload_n 3, 1) := by decide +kernel
theorem dX11_right_121 : decode cX11_right 121 = .ok (.getfield 247, 3) := by decide +kernel
theorem dX11_right_124 : decode cX11_right 124 = .ok (.iload_n 1, 1) := by decide +kernel
theorem dX11_right_125 : decode cX11_right 125 = .ok (.iaload, 1) := by decide +kernel
theorem dX11_right_126 : decode cX11_right 126 = .ok (.invokevirtual 164, 3) := by decide +kernel
theorem dX11_right_129 : decode cX11_right 129 = .ok (.ireturn, 1) := by decide +kernel
theorem dX11_right_130 : decode cX11_right 130 = .ok (.aload_n 0, 1) := by decide +kernel
theorem dX11_right_131 : decode cX11_right 131 = .ok (.iconst 5, 1) := by decide +kernel
theorem dX11_right_132 : decode cX11_right 132 = .ok (.invokevirtual 113, 3) := by decide +kernel
theorem dX11_right_135 : decode cX11_right 135 = .ok (.ireturn, 1) := by decide +kernel
def F_X11_right (w : Nat) (M : z_Mem) (a1 : Int32) (a2 : Int32) : Option (Int32 × z_Mem) :=
  (F_X6_isThere w M 7 a1).bind fun q1 =>
  if q1.1 = true then
  if a2 = (0 : Int32) then
  if a1 < 0 ∨ 8 ≤ a1.toNatClampNeg then none else
  (F_X11_answer w q1.2 (q1.2.1 10 a1.toNatClampNeg)).bind fun q6 =>
  some (q6.1, q6.2)
  else
  if a2 = (1 : Int32) then
  if a1 < 0 ∨ 8 ≤ a1.toNatClampNeg then none else
  (F_X11_answer w q1.2 (q1.2.1 11 a1.toNatClampNeg)).bind fun q10 =>
  some (q10.1, q10.2)
  else
  if a2 = (2 : Int32) then
  if a1 < 0 ∨ 8 ≤ a1.toNatClampNeg then none else
  if (q1.2.1 11 a1.toNatClampNeg) = (2 : Int32) then
  if a1 < 0 ∨ 8 ≤ a1.toNatClampNeg then none else
  (F_X11_answer w q1.2 (q1.2.1 12 a1.toNatClampNeg)).bind fun q18 =>
  some (q18.1, q18.2)
  else
  (F_X11_refuse w q1.2 (8 : Int32)).bind fun q15 =>
  some (q15.1, q15.2)
  else
  if a2 = (3 : Int32) then
  if a1 < 0 ∨ 8 ≤ a1.toNatClampNeg then none else
  (F_X11_answer w q1.2 (q1.2.1 13 a1.toNatClampNeg)).bind fun q22 =>
  some (q22.1, q22.2)
  else
  if a2 = (4 : Int32) then
  if a1 < 0 ∨ 8 ≤ a1.toNatClampNeg then none else
  (F_X11_answer w q1.2 (q1.2.1 14 a1.toNatClampNeg)).bind fun q26 =>
  some (q26.1, q26.2)
  else
  (F_X11_refuse w q1.2 (5 : Int32)).bind fun q28 =>
  some (q28.1, q28.2)
  else
  (F_X11_refuse w q1.2 (2 : Int32)).bind fun q30 =>
  some (q30.1, q30.2)
set_option maxHeartbeats 4000000 in
theorem A_X11_right {w : Nat} {M : z_Mem} {a1 : Int32} {a2 : Int32} {r : Int32} {M' : z_Mem} {Q : Option Value → z_Mem → Prop} (h : F_X11_right w M a1 a2 = some (r, M')) (hq : Q (some (.int r)) M') : z_Cl 1 mX11_right [.ref 2, .int a1, .int a2] M Q := by
  refine g_in (ls := [some (.ref 2), some (.int a1), some (.int a2), none]) rfl ?_
  unfold F_X11_right at h
  refine g_aload_n dX11_right_0 rfl rfl ?_
  refine g_get (a := 0) (v := .ref 9) dX11_right_1 f_11_26 sh_0 rfl rfl ?_
  refine g_get (a := 7) (v := .ref 11) dX11_right_4 f_11_155 sh_7 rfl rfl ?_
  refine g_astore_n (ls' := [some (.ref 2), some (.int a1), some (.int a2), some (.ref 11)]) dX11_right_7 rfl (Nat.le_of_ble_eq_true rfl) rfl ?_
  refine g_aload_n dX11_right_8 rfl rfl ?_
  refine g_iload_n dX11_right_9 rfl rfl ?_
  obtain ⟨q1, e2, h⟩ := z_bd h
  refine g_callV (a := 9) (as := [.int a1]) (rest := []) (c := mX6_isThere) (k1 := 0) dX11_right_10 rfl rfl rfl sh_9 rfl rfl (Nat.le_of_ble_eq_true rfl) (Nat.le_of_ble_eq_true rfl) (by decide) ?_
  refine A_X6_isThere z_par_7 e2 ?_
  show z_G none 1 mX11_right 13 [some (.ref 2), some (.int a1), some (.int a2), some (.ref 11)] [.int (z_tb q1.1)] q1.2 Q
  refine g_if_ne (t := 22) dX11_right_13 (by decide) (fun c3 => ?_) (fun c3 => ?_)
  · replace h := z_ift (z_tbn.mp c3) h
    refine g_iload_n dX11_right_22 rfl rfl ?_
    by_cases s4 : a2 = (0 : Int32)
    · replace h := z_ift s4 h
      refine g_top (v := (0 : Int32)) s4 ?_
      refine g_tsIn (off := 33) (t := 56) dX11_right_23 (by decide) (by decide) (by decide) ?_
      refine g_aload_n dX11_right_56 rfl rfl ?_
      refine g_aload_n dX11_right_57 rfl rfl ?_
      refine g_get (a := 9) (v := .ref 12) dX11_right_58 f_11_235 sh_9 rfl rfl ?_
      refine g_iload_n dX11_right_61 rfl rfl ?_
      by_cases g5 : a1 < 0 ∨ 8 ≤ a1.toNatClampNeg
      · rw [if_pos g5] at h; cases h
      replace h := z_iff g5 h
      refine g_iald (a := 10) dX11_right_62 sh_10 g5 ?_
      obtain ⟨q6, e7, h⟩ := z_bd h
      refine g_callV (a := 0) (as := [.int (q1.2.1 10 a1.toNatClampNeg)]) (rest := []) (c := mX11_answer) (k1 := 0) dX11_right_63 rfl rfl rfl sh_0 rfl rfl (Nat.le_of_ble_eq_true rfl) (Nat.le_of_ble_eq_true rfl) (by decide) ?_
      refine A_X11_answer e7 ?_
      show z_G none 1 mX11_right 66 [some (.ref 2), some (.int a1), some (.int a2), some (.ref 11)] [.int q6.1] q6.2 Q
      cases h
      exact g_iret dX11_right_66 rfl rfl hq
    replace h := z_iff s4 h
    by_cases s8 : a2 = (1 : Int32)
    · replace h := z_ift s8 h
      refine g_top (v := (1 : Int32)) s8 ?_
      refine g_tsIn (off := 44) (t := 67) dX11_right_23 (by decide) (by decide) (by decide) ?_
      refine g_aload_n dX11_right_67 rfl rfl ?_
      refine g_aload_n dX11_right_68 rfl rfl ?_
      refine g_get (a := 9) (v := .ref 13) dX11_right_69 f_11_238 sh_9 rfl rfl ?_
      refine g_iload_n dX11_right_72 rfl rfl ?_
      by_cases g9 : a1 < 0 ∨ 8 ≤ a1.toNatClampNeg
      · rw [if_pos g9] at h; cases h
      replace h := z_iff g9 h
      refine g_iald (a := 11) dX11_right_73 sh_11 g9 ?_
      obtain ⟨q10, e11, h⟩ := z_bd h
      refine g_callV (a := 0) (as := [.int (q1.2.1 11 a1.toNatClampNeg)]) (rest := []) (c := mX11_answer) (k1 := 0) dX11_right_74 rfl rfl rfl sh_0 rfl rfl (Nat.le_of_ble_eq_true rfl) (Nat.le_of_ble_eq_true rfl) (by decide) ?_
      refine A_X11_answer e11 ?_
      show z_G none 1 mX11_right 77 [some (.ref 2), some (.int a1), some (.int a2), some (.ref 11)] [.int q10.1] q10.2 Q
      cases h
      exact g_iret dX11_right_77 rfl rfl hq
    replace h := z_iff s8 h
    by_cases s12 : a2 = (2 : Int32)
    · replace h := z_ift s12 h
      refine g_top (v := (2 : Int32)) s12 ?_
      refine g_tsIn (off := 55) (t := 78) dX11_right_23 (by decide) (by decide) (by decide) ?_
      refine g_aload_n dX11_right_78 rfl rfl ?_
      refine g_get (a := 9) (v := .ref 13) dX11_right_79 f_11_238 sh_9 rfl rfl ?_
      refine g_iload_n dX11_right_82 rfl rfl ?_
      by_cases g13 : a1 < 0 ∨ 8 ≤ a1.toNatClampNeg
      · rw [if_pos g13] at h; cases h
      replace h := z_iff g13 h
      refine g_iald (a := 11) dX11_right_83 sh_11 g13 ?_
      refine g_iconst (v := (2 : Int32)) dX11_right_84 (by decide) ?_
      refine g_ic_ne (t := 101) dX11_right_85 (by decide) (fun c14 => ?_) (fun c14 => ?_)
      · replace h := z_iff c14 h
        refine g_aload_n dX11_right_101 rfl rfl ?_
        refine g_bipush (v := (8 : Int32)) dX11_right_102 (by decide) ?_
        obtain ⟨q15, e16, h⟩ := z_bd h
        refine g_callV (a := 0) (as := [.int (8 : Int32)]) (rest := []) (c := mX11_refuse) (k1 := 0) dX11_right_104 rfl rfl rfl sh_0 rfl rfl (Nat.le_of_ble_eq_true rfl) (Nat.le_of_ble_eq_true rfl) (by decide) ?_
        refine A_X11_refuse e16 ?_
        show z_G none 1 mX11_right 107 [some (.ref 2), some (.int a1), some (.int a2), some (.ref 11)] [.int q15.1] q15.2 Q
        cases h
        exact g_iret dX11_right_107 rfl rfl hq
      · replace h := z_ift c14 h
        refine g_aload_n dX11_right_88 rfl rfl ?_
        refine g_aload_n dX11_right_89 rfl rfl ?_
        refine g_get (a := 9) (v := .ref 14) dX11_right_90 f_11_241 sh_9 rfl rfl ?_
        refine g_iload_n dX11_right_93 rfl rfl ?_
        by_cases g17 : a1 < 0 ∨ 8 ≤ a1.toNatClampNeg
        · rw [if_pos g17] at h; cases h
        replace h := z_iff g17 h
        refine g_iald (a := 12) dX11_right_94 sh_12 g17 ?_
        obtain ⟨q18, e19, h⟩ := z_bd h
        refine g_callV (a := 0) (as := [.int (q1.2.1 12 a1.toNatClampNeg)]) (rest := []) (c := mX11_answer) (k1 := 0) dX11_right_95 rfl rfl rfl sh_0 rfl rfl (Nat.le_of_ble_eq_true rfl) (Nat.le_of_ble_eq_true rfl) (by decide) ?_
        refine A_X11_answer e19 ?_
        show z_G none 1 mX11_right 98 [some (.ref 2), some (.int a1), some (.int a2), some (.ref 11)] [.int q18.1] q18.2 Q
        refine g_goto (t := 107) dX11_right_98 (by decide) ?_
        cases h
        exact g_iret dX11_right_107 rfl rfl hq
    replace h := z_iff s12 h
    by_cases s20 : a2 = (3 : Int32)
    · replace h := z_ift s20 h
      refine g_top (v := (3 : Int32)) s20 ?_
      refine g_tsIn (off := 85) (t := 108) dX11_right_23 (by decide) (by decide) (by decide) ?_
      refine g_aload_n dX11_right_108 rfl rfl ?_
      refine g_aload_n dX11_right_109 rfl rfl ?_
      refine g_get (a := 9) (v := .ref 15) dX11_right_110 f_11_244 sh_9 rfl rfl ?_
      refine g_iload_n dX11_right_113 rfl rfl ?_
      by_cases g21 : a1 < 0 ∨ 8 ≤ a1.toNatClampNeg
      · rw [if_pos g21] at h; cases h
      replace h := z_iff g21 h
      refine g_iald (a := 13) dX11_right_114 sh_13 g21 ?_
      obtain ⟨q22, e23, h⟩ := z_bd h
      refine g_callV (a := 0) (as := [.int (q1.2.1 13 a1.toNatClampNeg)]) (rest := []) (c := mX11_answer) (k1 := 0) dX11_right_115 rfl rfl rfl sh_0 rfl rfl (Nat.le_of_ble_eq_true rfl) (Nat.le_of_ble_eq_true rfl) (by decide) ?_
      refine A_X11_answer e23 ?_
      show z_G none 1 mX11_right 118 [some (.ref 2), some (.int a1), some (.int a2), some (.ref 11)] [.int q22.1] q22.2 Q
      cases h
      exact g_iret dX11_right_118 rfl rfl hq
    replace h := z_iff s20 h
    by_cases s24 : a2 = (4 : Int32)
    · replace h := z_ift s24 h
      refine g_top (v := (4 : Int32)) s24 ?_
      refine g_tsIn (off := 96) (t := 119) dX11_right_23 (by decide) (by decide) (by decide) ?_
      refine g_aload_n dX11_right_119 rfl rfl ?_
      refine g_aload_n dX11_right_120 rfl rfl ?_
      refine g_get (a := 9) (v := .ref 16) dX11_right_121 f_11_247 sh_9 rfl rfl ?_
      refine g_iload_n dX11_right_124 rfl rfl ?_
      by_cases g25 : a1 < 0 ∨ 8 ≤ a1.toNatClampNeg
      · rw [if_pos g25] at h; cases h
      replace h := z_iff g25 h
      refine g_iald (a := 14) dX11_right_125 sh_14 g25 ?_
      obtain ⟨q26, e27, h⟩ := z_bd h
      refine g_callV (a := 0) (as := [.int (q1.2.1 14 a1.toNatClampNeg)]) (rest := []) (c := mX11_answer) (k1 := 0) dX11_right_126 rfl rfl rfl sh_0 rfl rfl (Nat.le_of_ble_eq_true rfl) (Nat.le_of_ble_eq_true rfl) (by decide) ?_
      refine A_X11_answer e27 ?_
      show z_G none 1 mX11_right 129 [some (.ref 2), some (.int a1), some (.int a2), some (.ref 11)] [.int q26.1] q26.2 Q
      cases h
      exact g_iret dX11_right_129 rfl rfl hq
    replace h := z_iff s24 h
    refine g_tsOut (t := 130) dX11_right_23 (by have t0 := z_neL (n := 0) (by decide) s4; have t1 := z_neL (n := 1) (by decide) s8; have t2 := z_neL (n := 2) (by decide) s12; have t3 := z_neL (n := 3) (by decide) s20; have t4 := z_neL (n := 4) (by decide) s24; omega) (by decide) ?_
    refine g_aload_n dX11_right_130 rfl rfl ?_
    refine g_iconst (v := (5 : Int32)) dX11_right_131 (by decide) ?_
    obtain ⟨q28, e29, h⟩ := z_bd h
    refine g_callV (a := 0) (as := [.int (5 : Int32)]) (rest := []) (c := mX11_refuse) (k1 := 0) dX11_right_132 rfl rfl rfl sh_0 rfl rfl (Nat.le_of_ble_eq_true rfl) (Nat.le_of_ble_eq_true rfl) (by decide) ?_
    refine A_X11_refuse e29 ?_
    show z_G none 1 mX11_right 135 [some (.ref 2), some (.int a1), some (.int a2), some (.ref 11)] [.int q28.1] q28.2 Q
    cases h
    exact g_iret dX11_right_135 rfl rfl hq
  · replace h := z_iff (z_tb0.mp c3) h
    refine g_aload_n dX11_right_16 rfl rfl ?_
    refine g_iconst (v := (2 : Int32)) dX11_right_17 (by decide) ?_
    obtain ⟨q30, e31, h⟩ := z_bd h
    refine g_callV (a := 0) (as := [.int (2 : Int32)]) (rest := []) (c := mX11_refuse) (k1 := 0) dX11_right_18 rfl rfl rfl sh_0 rfl rfl (Nat.le_of_ble_eq_true rfl) (Nat.le_of_ble_eq_true rfl) (by decide) ?_
    refine A_X11_refuse e31 ?_
    show z_G none 1 mX11_right 21 [some (.ref 2), some (.int a1), some (.int a2), some (.ref 11)] [.int q30.1] q30.2 Q
    cases h
    exact g_iret dX11_right_21 rfl rfl hq
theorem dX11_debt_0 : decode cX11_debt 0 = .ok (.aload_n 0, 1) := by decide +kernel
theorem dX11_debt_1 : decode cX11_debt 1 = .ok (.getfield 26, 3) := by decide +kernel
theorem dX11_debt_4 : decode cX11_debt 4 = .ok (.getfield 183, 3) := by decide +kernel
theorem dX11_debt_7 : decode cX11_debt 7 = .ok (.astore_n 3, 1) := by decide +kernel
theorem dX11_debt_8 : decode cX11_debt 8 = .ok (.aload_n 3, 1) := by decide +kernel
theorem dX11_debt_9 : decode cX11_debt 9 = .ok (.iload_n 1, 1) := by decide +kernel
theorem dX11_debt_10 : decode cX11_debt 10 = .ok (.invokevirtual 250, 3) := by decide +kernel
theorem dX11_debt_13 : decode cX11_debt 13 = .ok (.ifCond .ne 9, 3) := by decide +kernel
theorem dX11_debt_16 : decode cX11_debt 16 = .ok (.aload_n 0, 1) := by decide +kernel
theorem dX11_debt_17 : decode cX11_debt 17 = .ok (.iconst 2, 1) := by decide +kernel
theorem dX11_debt_18 : decode cX11_debt 18 = .ok (.invokevirtual 113, 3) := by decide +kernel
theorem dX11_debt_21 : decode cX11_debt 21 = .ok (.ireturn, 1) := by decide +kernel
theorem dX11_debt_22 : decode cX11_debt 22 = .ok (.iload_n 2, 1) := by decide +kernel
theorem dX11_debt_23 : decode cX11_debt 23 = .ok (.tableswitch 58 0 2 #[25, 36, 47], 25) := by decide +kernel
theorem dX11_debt_48 : decode cX11_debt 48 = .ok (.aload_n 0, 1) := by decide +kernel
theorem dX11_debt_49 : decode cX11_debt 49 = .ok (.aload_n 3, 1) := by decide +kernel
theorem dX11_debt_50 : decode cX11_debt 50 = .ok (.getfield 251, 3) := by decide +kernel
theorem dX11_debt_53 : decode cX11_debt 53 = .ok (.iload_n 1, 1) := by decide +kernel
theorem dX11_debt_54 : decode cX11_debt 54 = .ok (.iaload, 1) := by decide +kernel
theorem dX11_debt_55 : decode cX11_debt 55 = .ok (.invokevirtual 164, 3) := by decide +kernel
theorem dX11_debt_58 : decode cX11_debt 58 = .ok (.ireturn, 1) := by decide +kernel
theorem dX11_debt_59 : decode cX11_debt 59 = .ok (.aload_n 0, 1) := by decide +kernel
theorem dX11_debt_60 : decode cX11_debt 60 = .ok (.aload_n 3, 1) := by decide +kernel
theorem dX11_debt_61 : decode cX11_debt 61 = .ok (.getfield 252, 3) := by decide +kernel
theorem dX11_debt_64 : decode cX11_debt 64 = .ok (.iload_n 1, 1) := by decide +kernel
theorem dX11_debt_65 : decode cX11_debt 65 = .ok (.iaload, 1) := by decide +kernel
theorem dX11_debt_66 : decode cX11_debt 66 = .ok (.invokevirtual 164, 3) := by decide +kernel
theorem dX11_debt_69 : decode cX11_debt 69 = .ok (.ireturn, 1) := by decide +kernel
theorem dX11_debt_70 : decode cX11_debt 70 = .ok (.aload_n 0, 1) := by decide +kernel
theorem dX11_debt_71 : decode cX11_debt 71 = .ok (.aload_n 3, 1) := by decide +kernel
theorem dX11_debt_72 : decode cX11_debt 72 = .ok (.getfield 255, 3) := by decide +kernel
theorem dX11_debt_75 : decode cX11_debt 75 = .ok (.iload_n 1, 1) := by decide +kernel
theorem dX11_debt_76 : decode cX11_debt 76 = .ok (.iaload, 1) := by decide +kernel
theorem dX11_debt_77 : decode cX11_debt 77 = .ok (.invokevirtual 164, 3) := by decide +kernel
theorem dX11_debt_80 : decode cX11_debt 80 = .ok (.ireturn, 1) := by decide +kernel
theorem dX11_debt_81 : decode cX11_debt 81 = .ok (.aload_n 0, 1) := by decide +kernel
theorem dX11_debt_82 : decode cX11_debt 82 = .ok (.iconst 5, 1) := by decide +kernel
theorem dX11_debt_83 : decode cX11_debt 83 = .ok (.invokevirtual 113, 3) := by decide +kernel
theorem dX11_debt_86 : decode cX11_debt 86 = .ok (.ireturn, 1) := by decide +kernel
def F_X11_debt (w : Nat) (M : z_Mem) (a1 : Int32) (a2 : Int32) : Option (Int32 × z_Mem) :=
  (F_X1_isThere w M 7 a1).bind fun q1 =>
  if q1.1 = true then
  if a2 = (0 : Int32) then
  if a1 < 0 ∨ 5 ≤ a1.toNatClampNeg then none else
  (F_X11_answer w q1.2 (q1.2.1 16 a1.toNatClampNeg)).bind fun q6 =>
  some (q6.1, q6.2)
  else
  if a2 = (1 : Int32) then
  if a1 < 0 ∨ 5 ≤ a1.toNatClampNeg then none else
  (F_X11_answer w q1.2 (q1.2.1 17 a1.toNatClampNeg)).bind fun q10 =>
  some (q10.1, q10.2)
  else
  if a2 = (2 : Int32) then
  if a1 < 0 ∨ 5 ≤ a1.toNatClampNeg then none else
  (F_X11_answer w q1.2 (q1.2.1 18 a1.toNatClampNeg)).bind fun q14 =>
  some (q14.1, q14.2)
  else
  (F_X11_refuse w q1.2 (5 : Int32)).bind fun q16 =>
  some (q16.1, q16.2)
  else
  (F_X11_refuse w q1.2 (2 : Int32)).bind fun q18 =>
  some (q18.1, q18.2)
set_option maxHeartbeats 4000000 in
theorem A_X11_debt {w : Nat} {M : z_Mem} {a1 : Int32} {a2 : Int32} {r : Int32} {M' : z_Mem} {Q : Option Value → z_Mem → Prop} (h : F_X11_debt w M a1 a2 = some (r, M')) (hq : Q (some (.int r)) M') : z_Cl 1 mX11_debt [.ref 2, .int a1, .int a2] M Q := by
  refine g_in (ls := [some (.ref 2), some (.int a1), some (.int a2), none]) rfl ?_
  unfold F_X11_debt at h
  refine g_aload_n dX11_debt_0 rfl rfl ?_
  refine g_get (a := 0) (v := .ref 9) dX11_debt_1 f_11_26 sh_0 rfl rfl ?_
  refine g_get (a := 7) (v := .ref 17) dX11_debt_4 f_11_183 sh_7 rfl rfl ?_
  refine g_astore_n (ls' := [some (.ref 2), some (.int a1), some (.int a2), some (.ref 17)]) dX11_debt_7 rfl (Nat.le_of_ble_eq_true rfl) rfl ?_
  refine g_aload_n dX11_debt_8 rfl rfl ?_
  refine g_iload_n dX11_debt_9 rfl rfl ?_
  obtain ⟨q1, e2, h⟩ := z_bd h
  refine g_callV (a := 15) (as := [.int a1]) (rest := []) (c := mX1_isThere) (k1 := 0) dX11_debt_10 rfl rfl rfl sh_15 rfl rfl (Nat.le_of_ble_eq_true rfl) (Nat.le_of_ble_eq_true rfl) (by decide) ?_
  refine A_X1_isThere z_par_7 e2 ?_
  show z_G none 1 mX11_debt 13 [some (.ref 2), some (.int a1), some (.int a2), some (.ref 17)] [.int (z_tb q1.1)] q1.2 Q
  refine g_if_ne (t := 22) dX11_debt_13 (by decide) (fun c3 => ?_) (fun c3 => ?_)
  · replace h := z_ift (z_tbn.mp c3) h
    refine g_iload_n dX11_debt_22 rfl rfl ?_
    by_cases s4 : a2 = (0 : Int32)
    · replace h := z_ift s4 h
      refine g_top (v := (0 : Int32)) s4 ?_
      refine g_tsIn (off := 25) (t := 48) dX11_debt_23 (by decide) (by decide) (by decide) ?_
      refine g_aload_n dX11_debt_48 rfl rfl ?_
      refine g_aload_n dX11_debt_49 rfl rfl ?_
      refine g_get (a := 15) (v := .ref 18) dX11_debt_50 f_11_251 sh_15 rfl rfl ?_
      refine g_iload_n dX11_debt_53 rfl rfl ?_
      by_cases g5 : a1 < 0 ∨ 5 ≤ a1.toNatClampNeg
      · rw [if_pos g5] at h; cases h
      replace h := z_iff g5 h
      refine g_iald (a := 16) dX11_debt_54 sh_16 g5 ?_
      obtain ⟨q6, e7, h⟩ := z_bd h
      refine g_callV (a := 0) (as := [.int (q1.2.1 16 a1.toNatClampNeg)]) (rest := []) (c := mX11_answer) (k1 := 0) dX11_debt_55 rfl rfl rfl sh_0 rfl rfl (Nat.le_of_ble_eq_true rfl) (Nat.le_of_ble_eq_true rfl) (by decide) ?_
      refine A_X11_answer e7 ?_
      show z_G none 1 mX11_debt 58 [some (.ref 2), some (.int a1), some (.int a2), some (.ref 17)] [.int q6.1] q6.2 Q
      cases h
      exact g_iret dX11_debt_58 rfl rfl hq
    replace h := z_iff s4 h
    by_cases s8 : a2 = (1 : Int32)
    · replace h := z_ift s8 h
      refine g_top (v := (1 : Int32)) s8 ?_
      refine g_tsIn (off := 36) (t := 59) dX11_debt_23 (by decide) (by decide) (by decide) ?_
      refine g_aload_n dX11_debt_59 rfl rfl ?_
      refine g_aload_n dX11_debt_60 rfl rfl ?_
      refine g_get (a := 15) (v := .ref 19) dX11_debt_61 f_11_252 sh_15 rfl rfl ?_
      refine g_iload_n dX11_debt_64 rfl rfl ?_
      by_cases g9 : a1 < 0 ∨ 5 ≤ a1.toNatClampNeg
      · rw [if_pos g9] at h; cases h
      replace h := z_iff g9 h
      refine g_iald (a := 17) dX11_debt_65 sh_17 g9 ?_
      obtain ⟨q10, e11, h⟩ := z_bd h
      refine g_callV (a := 0) (as := [.int (q1.2.1 17 a1.toNatClampNeg)]) (rest := []) (c := mX11_answer) (k1 := 0) dX11_debt_66 rfl rfl rfl sh_0 rfl rfl (Nat.le_of_ble_eq_true rfl) (Nat.le_of_ble_eq_true rfl) (by decide) ?_
      refine A_X11_answer e11 ?_
      show z_G none 1 mX11_debt 69 [some (.ref 2), some (.int a1), some (.int a2), some (.ref 17)] [.int q10.1] q10.2 Q
      cases h
      exact g_iret dX11_debt_69 rfl rfl hq
    replace h := z_iff s8 h
    by_cases s12 : a2 = (2 : Int32)
    · replace h := z_ift s12 h
      refine g_top (v := (2 : Int32)) s12 ?_
      refine g_tsIn (off := 47) (t := 70) dX11_debt_23 (by decide) (by decide) (by decide) ?_
      refine g_aload_n dX11_debt_70 rfl rfl ?_
      refine g_aload_n dX11_debt_71 rfl rfl ?_
      refine g_get (a := 15) (v := .ref 20) dX11_debt_72 f_11_255 sh_15 rfl rfl ?_
      refine g_iload_n dX11_debt_75 rfl rfl ?_
      by_cases g13 : a1 < 0 ∨ 5 ≤ a1.toNatClampNeg
      · rw [if_pos g13] at h; cases h
      replace h := z_iff g13 h
      refine g_iald (a := 18) dX11_debt_76 sh_18 g13 ?_
      obtain ⟨q14, e15, h⟩ := z_bd h
      refine g_callV (a := 0) (as := [.int (q1.2.1 18 a1.toNatClampNeg)]) (rest := []) (c := mX11_answer) (k1 := 0) dX11_debt_77 rfl rfl rfl sh_0 rfl rfl (Nat.le_of_ble_eq_true rfl) (Nat.le_of_ble_eq_true rfl) (by decide) ?_
      refine A_X11_answer e15 ?_
      show z_G none 1 mX11_debt 80 [some (.ref 2), some (.int a1), some (.int a2), some (.ref 17)] [.int q14.1] q14.2 Q
      cases h
      exact g_iret dX11_debt_80 rfl rfl hq
    replace h := z_iff s12 h
    refine g_tsOut (t := 81) dX11_debt_23 (by have t0 := z_neL (n := 0) (by decide) s4; have t1 := z_neL (n := 1) (by decide) s8; have t2 := z_neL (n := 2) (by decide) s12; omega) (by decide) ?_
    refine g_aload_n dX11_debt_81 rfl rfl ?_
    refine g_iconst (v := (5 : Int32)) dX11_debt_82 (by decide) ?_
    obtain ⟨q16, e17, h⟩ := z_bd h
    refine g_callV (a := 0) (as := [.int (5 : Int32)]) (rest := []) (c := mX11_refuse) (k1 := 0) dX11_debt_83 rfl rfl rfl sh_0 rfl rfl (Nat.le_of_ble_eq_true rfl) (Nat.le_of_ble_eq_true rfl) (by decide) ?_
    refine A_X11_refuse e17 ?_
    show z_G none 1 mX11_debt 86 [some (.ref 2), some (.int a1), some (.int a2), some (.ref 17)] [.int q16.1] q16.2 Q
    cases h
    exact g_iret dX11_debt_86 rfl rfl hq
  · replace h := z_iff (z_tb0.mp c3) h
    refine g_aload_n dX11_debt_16 rfl rfl ?_
    refine g_iconst (v := (2 : Int32)) dX11_debt_17 (by decide) ?_
    obtain ⟨q18, e19, h⟩ := z_bd h
    refine g_callV (a := 0) (as := [.int (2 : Int32)]) (rest := []) (c := mX11_refuse) (k1 := 0) dX11_debt_18 rfl rfl rfl sh_0 rfl rfl (Nat.le_of_ble_eq_true rfl) (Nat.le_of_ble_eq_true rfl) (by decide) ?_
    refine A_X11_refuse e19 ?_
    show z_G none 1 mX11_debt 21 [some (.ref 2), some (.int a1), some (.int a2), some (.ref 17)] [.int q18.1] q18.2 Q
    cases h
    exact g_iret dX11_debt_21 rfl rfl hq
theorem dX11_owes_0 : decode cX11_owes 0 = .ok (.iload_n 1, 1) := by decide +kernel
theorem dX11_owes_1 : decode cX11_owes 1 = .ok (.invokestatic 226, 3) := by decide +kernel
theorem dX11_owes_4 : decode cX11_owes 4 = .ok (.ifCond .eq 21, 3) := by decide +kernel
theorem dX11_owes_7 : decode cX11_owes 7 = .ok (.aload_n 0, 1) := by decide +kernel
theorem dX11_owes_8 : decode cX11_owes 8 = .ok (.aload_n 0, 1) := by decide +kernel
theorem dX11_owes_9 : decode cX11_owes 9 = .ok (.getfield 26, 3) := by decide +kernel
theorem dX11_owes_12 : decode cX11_owes 12 = .ok (.getfield 183, 3) := by decide +kernel
theorem dX11_owes_15 : decode cX11_owes 15 = .ok (.iload_n 1, 1) := by decide +kernel
theorem dX11_owes_16 : decode cX11_owes 16 = .ok (.invokevirtual 258, 3) := by decide +kernel
theorem dX11_owes_19 : decode cX11_owes 19 = .ok (.invokevirtual 164, 3) := by decide +kernel
theorem dX11_owes_22 : decode cX11_owes 22 = .ok (.goto 8, 3) := by decide +kernel
theorem dX11_owes_25 : decode cX11_owes 25 = .ok (.aload_n 0, 1) := by decide +kernel
theorem dX11_owes_26 : decode cX11_owes 26 = .ok (.iconst 2, 1) := by decide +kernel
theorem dX11_owes_27 : decode cX11_owes 27 = .ok (.invokevirtual 113, 3) := by decide +kernel
theorem dX11_owes_30 : decode cX11_owes 30 = .ok (.ireturn, 1) := by decide +kernel
def F_X11_owes (w : Nat) (M : z_Mem) (a1 : Int32) : Option (Int32 × z_Mem) :=
  (F_X11_isSide w M a1).bind fun q1 =>
  if q1.1 = true then
  (F_X1_owedBy w q1.2 7 a1).bind fun q6 =>
  (F_X11_answer w q6.2 q6.1).bind fun q8 =>
  some (q8.1, q8.2)
  else
  (F_X11_refuse w q1.2 (2 : Int32)).bind fun q4 =>
  some (q4.1, q4.2)
set_option maxHeartbeats 4000000 in
theorem A_X11_owes {w : Nat} {M : z_Mem} {a1 : Int32} {r : Int32} {M' : z_Mem} {Q : Option Value → z_Mem → Prop} (h : F_X11_owes w M a1 = some (r, M')) (hq : Q (some (.int r)) M') : z_Cl 1 mX11_owes [.ref 2, .int a1] M Q := by
  refine g_in (ls := [some (.ref 2), some (.int a1)]) rfl ?_
  unfold F_X11_owes at h
  refine g_iload_n dX11_owes_0 rfl rfl ?_
  obtain ⟨q1, e2, h⟩ := z_bd h
  refine g_callS (as := [.int a1]) (rest := []) (c := mX11_isSide) (k1 := 0) dX11_owes_1 rfl rfl rfl rfl rfl (Nat.le_of_ble_eq_true rfl) (Nat.le_of_ble_eq_true rfl) (by decide) ?_
  refine A_X11_isSide e2 ?_
  show z_G none 1 mX11_owes 4 [some (.ref 2), some (.int a1)] [.int (z_tb q1.1)] q1.2 Q
  refine g_if_eq (t := 25) dX11_owes_4 (by decide) (fun c3 => ?_) (fun c3 => ?_)
  · replace h := z_iff (z_tb0.mp c3) h
    refine g_aload_n dX11_owes_25 rfl rfl ?_
    refine g_iconst (v := (2 : Int32)) dX11_owes_26 (by decide) ?_
    obtain ⟨q4, e5, h⟩ := z_bd h
    refine g_callV (a := 0) (as := [.int (2 : Int32)]) (rest := []) (c := mX11_refuse) (k1 := 0) dX11_owes_27 rfl rfl rfl sh_0 rfl rfl (Nat.le_of_ble_eq_true rfl) (Nat.le_of_ble_eq_true rfl) (by decide) ?_
    refine A_X11_refuse e5 ?_
    show z_G none 1 mX11_owes 30 [some (.ref 2), some (.int a1)] [.int q4.1] q4.2 Q
    cases h
    exact g_iret dX11_owes_30 rfl rfl hq
  · replace h := z_ift (z_tbn.mp c3) h
    refine g_aload_n dX11_owes_7 rfl rfl ?_
    refine g_aload_n dX11_owes_8 rfl rfl ?_
    refine g_get (a := 0) (v := .ref 9) dX11_owes_9 f_11_26 sh_0 rfl rfl ?_
    refine g_get (a := 7) (v := .ref 17) dX11_owes_12 f_11_183 sh_7 rfl rfl ?_
    refine g_iload_n dX11_owes_15 rfl rfl ?_
    obtain ⟨q6, e7, h⟩ := z_bd h
    refine g_callV (a := 15) (as := [.int a1]) (rest := [.ref 2]) (c := mX1_owedBy) (k1 := 0) dX11_owes_16 rfl rfl rfl sh_15 rfl rfl (Nat.le_of_ble_eq_true rfl) (Nat.le_of_ble_eq_true rfl) (by decide) ?_
    refine A_X1_owedBy z_par_7 e7 ?_
    show z_G none 1 mX11_owes 19 [some (.ref 2), some (.int a1)] [.int q6.1, .ref 2] q6.2 Q
    obtain ⟨q8, e9, h⟩ := z_bd h
    refine g_callV (a := 0) (as := [.int q6.1]) (rest := []) (c := mX11_answer) (k1 := 0) dX11_owes_19 rfl rfl rfl sh_0 rfl rfl (Nat.le_of_ble_eq_true rfl) (Nat.le_of_ble_eq_true rfl) (by decide) ?_
    refine A_X11_answer e9 ?_
    show z_G none 1 mX11_owes 22 [some (.ref 2), some (.int a1)] [.int q8.1] q8.2 Q
    refine g_goto (t := 30) dX11_owes_22 (by decide) ?_
    cases h
    exact g_iret dX11_owes_30 rfl rfl hq
theorem dX11_layAgo_0 : decode cX11_layAgo 0 = .ok (.iload_n 1, 1) := by decide +kernel
theorem dX11_layAgo_1 : decode cX11_layAgo 1 = .ok (.ifCond .lt 9, 3) := by decide +kernel
theorem dX11_layAgo_4 : decode cX11_layAgo 4 = .ok (.iload_n 1, 1) := by decide +kernel
theorem dX11_layAgo_5 : decode cX11_layAgo 5 = .ok (.bipush 6, 2) := by decide +kernel
theorem dX11_layAgo_7 : decode cX11_layAgo 7 = .ok (.if_icmp .le 9, 3) := by decide +kernel
theorem dX11_layAgo_10 : decode cX11_layAgo 10 = .ok (.aload_n 0, 1) := by decide +kernel
theorem dX11_layAgo_11 : decode cX11_layAgo 11 = .ok (.iconst 5, 1) := by decide +kernel
theorem dX11_layAgo_12 : decode cX11_layAgo 12 = .ok (.invokevirtual 113, 3) := by decide +kernel
theorem dX11_layAgo_15 : decode cX11_layAgo 15 = .ok (.ireturn, 1) := by decide +kernel
theorem dX11_layAgo_16 : decode cX11_layAgo 16 = .ok (.aload_n 0, 1) := by decide +kernel
theorem dX11_layAgo_17 : decode cX11_layAgo 17 = .ok (.aload_n 0, 1) := by decide +kernel
theorem dX11_layAgo_18 : decode cX11_layAgo 18 = .ok (.getfield 26, 3) := by decide +kernel
theorem dX11_layAgo_21 : decode cX11_layAgo 21 = .ok (.iload_n 1, 1) := by decide +kernel
theorem dX11_layAgo_22 : decode cX11_layAgo 22 = .ok (.invokevirtual 261, 3) := by decide +kernel
theorem dX11_layAgo_25 : decode cX11_layAgo 25 = .ok (.invokevirtual 164, 3) := by decide +kernel
theorem dX11_layAgo_28 : decode cX11_layAgo 28 = .ok (.ireturn, 1) := by decide +kernel
def F_X11_layAgo (w : Nat) (M : z_Mem) (a1 : Int32) : Option (Int32 × z_Mem) :=
  if a1 < (0 : Int32) then
  (F_X11_refuse w M (5 : Int32)).bind fun q2 =>
  some (q2.1, q2.2)
  else
  if a1 ≤ (6 : Int32) then
  (F_X3_sideAgo w M 7 a1).bind fun q5 =>
  (F_X11_answer w q5.2 q5.1).bind fun q7 =>
  some (q7.1, q7.2)
  else
  (F_X11_refuse w M (5 : Int32)).bind fun q9 =>
  some (q9.1, q9.2)
set_option maxHeartbeats 4000000 in
theorem A_X11_layAgo {w : Nat} {M : z_Mem} {a1 : Int32} {r : Int32} {M' : z_Mem} {Q : Option Value → z_Mem → Prop} (h : F_X11_layAgo w M a1 = some (r, M')) (hq : Q (some (.int r)) M') : z_Cl 1 mX11_layAgo [.ref 2, .int a1] M Q := by
  refine g_in (ls := [some (.ref 2), some (.int a1)]) rfl ?_
  unfold F_X11_layAgo at h
  refine g_iload_n dX11_layAgo_0 rfl rfl ?_
  refine g_if_lt (t := 10) dX11_layAgo_1 (by decide) (fun c1 => ?_) (fun c1 => ?_)
  · replace h := z_ift c1 h
    refine g_aload_n dX11_layAgo_10 rfl rfl ?_
    refine g_iconst (v := (5 : Int32)) dX11_layAgo_11 (by decide) ?_
    obtain ⟨q2, e3, h⟩ := z_bd h
    refine g_callV (a := 0) (as := [.int (5 : Int32)]) (rest := []) (c := mX11_refuse) (k1 := 0) dX11_layAgo_12 rfl rfl rfl sh_0 rfl rfl (Nat.le_of_ble_eq_true rfl) (Nat.le_of_ble_eq_true rfl) (by decide) ?_
    refine A_X11_refuse e3 ?_
    show z_G none 1 mX11_layAgo 15 [some (.ref 2), some (.int a1)] [.int q2.1] q2.2 Q
    cases h
    exact g_iret dX11_layAgo_15 rfl rfl hq
  · replace h := z_iff c1 h
    refine g_iload_n dX11_layAgo_4 rfl rfl ?_
    refine g_bipush (v := (6 : Int32)) dX11_layAgo_5 (by decide) ?_
    refine g_ic_le (t := 16) dX11_layAgo_7 (by decide) (fun c4 => ?_) (fun c4 => ?_)
    · replace h := z_ift c4 h
      refine g_aload_n dX11_layAgo_16 rfl rfl ?_
      refine g_aload_n dX11_layAgo_17 rfl rfl ?_
      refine g_get (a := 0) (v := .ref 9) dX11_layAgo_18 f_11_26 sh_0 rfl rfl ?_
      refine g_iload_n dX11_layAgo_21 rfl rfl ?_
      obtain ⟨q5, e6, h⟩ := z_bd h
      refine g_callV (a := 7) (as := [.int a1]) (rest := [.ref 2]) (c := mX3_sideAgo) (k1 := 0) dX11_layAgo_22 rfl rfl rfl sh_7 rfl rfl (Nat.le_of_ble_eq_true rfl) (Nat.le_of_ble_eq_true rfl) (by decide) ?_
      refine A_X3_sideAgo z_par_7 e6 ?_
      show z_G none 1 mX11_layAgo 25 [some (.ref 2), some (.int a1)] [.int q5.1, .ref 2] q5.2 Q
      obtain ⟨q7, e8, h⟩ := z_bd h
      refine g_callV (a := 0) (as := [.int q5.1]) (rest := []) (c := mX11_answer) (k1 := 0) dX11_layAgo_25 rfl rfl rfl sh_0 rfl rfl (Nat.le_of_ble_eq_true rfl) (Nat.le_of_ble_eq_true rfl) (by decide) ?_
      refine A_X11_answer e8 ?_
      show z_G none 1 mX11_layAgo 28 [some (.ref 2), some (.int a1)] [.int q7.1] q7.2 Q
      cases h
      exact g_iret dX11_layAgo_28 rfl rfl hq
    · replace h := z_iff c4 h
      refine g_aload_n dX11_layAgo_10 rfl rfl ?_
      refine g_iconst (v := (5 : Int32)) dX11_layAgo_11 (by decide) ?_
      obtain ⟨q9, e10, h⟩ := z_bd h
      refine g_callV (a := 0) (as := [.int (5 : Int32)]) (rest := []) (c := mX11_refuse) (k1 := 0) dX11_layAgo_12 rfl rfl rfl sh_0 rfl rfl (Nat.le_of_ble_eq_true rfl) (Nat.le_of_ble_eq_true rfl) (by decide) ?_
      refine A_X11_refuse e10 ?_
      show z_G none 1 mX11_layAgo 15 [some (.ref 2), some (.int a1)] [.int q9.1] q9.2 Q
      cases h
      exact g_iret dX11_layAgo_15 rfl rfl hq
theorem dX11_clause_0 : decode cX11_clause 0 = .ok (.aload_n 0, 1) := by decide +kernel
theorem dX11_clause_1 : decode cX11_clause 1 = .ok (.getfield 26, 3) := by decide +kernel
theorem dX11_clause_4 : decode cX11_clause 4 = .ok (.getfield 190, 3) := by decide +kernel
theorem dX11_clause_7 : decode cX11_clause 7 = .ok (.astore_n 3, 1) := by decide +kernel
theorem dX11_clause_8 : decode cX11_clause 8 = .ok (.iload_n 1, 1) := by decide +kernel
theorem dX11_clause_9 : decode cX11_clause 9 = .ok (.ifCond .lt 11, 3) := by decide +kernel
theorem dX11_clause_12 : decode cX11_clause 12 = .ok (.iload_n 1, 1) := by decide +kernel
theorem dX11_clause_13 : decode cX11_clause 13 = .ok (.aload_n 3, 1) := by decide +kernel
theorem dX11_clause_14 : decode cX11_clause 14 = .ok (.getfield 199, 3) := by decide +kernel
theorem dX11_clause_17 : decode cX11_clause 17 = .ok (.if_icmp .lt 9, 3) := by decide +kernel
theorem dX11_clause_20 : decode cX11_clause 20 = .ok (.aload_n 0, 1) := by decide +kernel
theorem dX11_clause_21 : decode cX11_clause 21 = .ok (.iconst 2, 1) := by decide +kernel
theorem dX11_clause_22 : decode cX11_clause 22 = .ok (.invokevirtual 113, 3) := by decide +kernel
theorem dX11_clause_25 : decode cX11_clause 25 = .ok (.ireturn, 1) := by decide +kernel
theorem dX11_clause_26 : decode cX11_clause 26 = .ok (.iload_n 2, 1) := by decide +kernel
theorem dX11_clause_27 : decode cX11_clause 27 = .ok (.ifCond .eq 14, 3) := by decide +kernel
theorem dX11_clause_30 : decode cX11_clause 30 = .ok (.iload_n 2, 1) := by decide +kernel
theorem dX11_clause_31 : decode cX11_clause 31 = .ok (.iconst 1, 1) := by decide +kernel
theorem dX11_clause_32 : decode cX11_clause 32 = .ok (.if_icmp .eq 9, 3) := by decide +kernel
theorem dX11_clause_35 : decode cX11_clause 35 = .ok (.aload_n 0, 1) := by decide +kernel
theorem dX11_clause_36 : decode cX11_clause 36 = .ok (.iconst 5, 1) := by decide +kernel
theorem dX11_clause_37 : decode cX11_clause 37 = .ok (.invokevirtual 113, 3) := by decide +kernel
theorem dX11_clause_40 : decode cX11_clause 40 = .ok (.ireturn, 1) := by decide +kernel
theorem dX11_clause_41 : decode cX11_clause 41 = .ok (.aload_n 0, 1) := by decide +kernel
theorem dX11_clause_42 : decode cX11_clause 42 = .ok (.iload_n 2, 1) := by decide +kernel
theorem dX11_clause_43 : decode cX11_clause 43 = .ok (.ifCond .ne 12, 3) := by decide +kernel
theorem dX11_clause_46 : decode cX11_clause 46 = .ok (.aload_n 3, 1) := by decide +kernel
theorem dX11_clause_47 : decode cX11_clause 47 = .ok (.getfield 264, 3) := by decide +kernel
theorem dX11_clause_50 : decode cX11_clause 50 = .ok (.iload_n 1, 1) := by decide +kernel
theorem dX11_clause_51 : decode cX11_clause 51 = .ok (.iaload, 1) := by decide +kernel
theorem dX11_clause_52 : decode cX11_clause 52 = .ok (.goto 9, 3) := by decide +kernel
theorem dX11_clause_55 : decode cX11_clause 55 = .ok (.aload_n 3, 1) := by decide +kernel
theorem dX11_clause_56 : decode cX11_clause 56 = .ok (.getfield 267, 3) := by decide +kernel
theorem dX11_clause_59 : decode cX11_clause 59 = .ok (.iload_n 1, 1) := by decide +kernel
theorem dX11_clause_60 : decode cX11_clause 60 = .ok (.iaload, 1) := by decide +kernel
theorem dX11_clause_61 : decode cX11_clause 61 = .ok (.invokevirtual 164, 3) := by decide +kernel
theorem dX11_clause_64 : decode cX11_clause 64 = .ok (.ireturn, 1) := by decide +kernel
def F_X11_clause (w : Nat) (M : z_Mem) (a1 : Int32) (a2 : Int32) : Option (Int32 × z_Mem) :=
  if a1 < (0 : Int32) then
  (F_X11_refuse w M (2 : Int32)).bind fun q2 =>
  some (q2.1, q2.2)
  else
  if a1 < (M.1 19 5) then
  if a2 = (0 : Int32) then
  if a2 = (0 : Int32) then
  if a1 < 0 ∨ 8 ≤ a1.toNatClampNeg then none else
  (F_X11_answer w M (M.1 20 a1.toNatClampNeg)).bind fun q11 =>
  some (q11.1, q11.2)
  else
  if a1 < 0 ∨ 8 ≤ a1.toNatClampNeg then none else
  (F_X11_answer w M (M.1 21 a1.toNatClampNeg)).bind fun q8 =>
  some (q8.1, q8.2)
  else
  if a2 = (1 : Int32) then
  if a2 = (0 : Int32) then
  if a1 < 0 ∨ 8 ≤ a1.toNatClampNeg then none else
  (F_X11_answer w M (M.1 20 a1.toNatClampNeg)).bind fun q19 =>
  some (q19.1, q19.2)
  else
  if a1 < 0 ∨ 8 ≤ a1.toNatClampNeg then none else
  (F_X11_answer w M (M.1 21 a1.toNatClampNeg)).bind fun q16 =>
  some (q16.1, q16.2)
  else
  (F_X11_refuse w M (5 : Int32)).bind fun q21 =>
  some (q21.1, q21.2)
  else
  (F_X11_refuse w M (2 : Int32)).bind fun q23 =>
  some (q23.1, q23.2)
set_option maxHeartbeats 4000000 in
theorem A_X11_clause {w : Nat} {M : z_Mem} {a1 : Int32} {a2 : Int32} {r : Int32} {M' : z_Mem} {Q : Option Value → z_Mem → Prop} (h : F_X11_clause w M a1 a2 = some (r, M')) (hq : Q (some (.int r)) M') : z_Cl 1 mX11_clause [.ref 2, .int a1, .int a2] M Q := by
  refine g_in (ls := [some (.ref 2), some (.int a1), some (.int a2), none]) rfl ?_
  unfold F_X11_clause at h
  refine g_aload_n dX11_clause_0 rfl rfl ?_
  refine g_get (a := 0) (v := .ref 9) dX11_clause_1 f_11_26 sh_0 rfl rfl ?_
  refine g_get (a := 7) (v := .ref 21) dX11_clause_4 f_11_190 sh_7 rfl rfl ?_
  refine g_astore_n (ls' := [some (.ref 2), some (.int a1), some (.int a2), some (.ref 21)]) dX11_clause_7 rfl (Nat.le_of_ble_eq_true rfl) rfl ?_
  refine g_iload_n dX11_clause_8 rfl rfl ?_
  refine g_if_lt (t := 20) dX11_clause_9 (by decide) (fun c1 => ?_) (fun c1 => ?_)
  · replace h := z_ift c1 h
    refine g_aload_n dX11_clause_20 rfl rfl ?_
    refine g_iconst (v := (2 : Int32)) dX11_clause_21 (by decide) ?_
    obtain ⟨q2, e3, h⟩ := z_bd h
    refine g_callV (a := 0) (as := [.int (2 : Int32)]) (rest := []) (c := mX11_refuse) (k1 := 0) dX11_clause_22 rfl rfl rfl sh_0 rfl rfl (Nat.le_of_ble_eq_true rfl) (Nat.le_of_ble_eq_true rfl) (by decide) ?_
    refine A_X11_refuse e3 ?_
    show z_G none 1 mX11_clause 25 [some (.ref 2), some (.int a1), some (.int a2), some (.ref 21)] [.int q2.1] q2.2 Q
    cases h
    exact g_iret dX11_clause_25 rfl rfl hq
  · replace h := z_iff c1 h
    refine g_iload_n dX11_clause_12 rfl rfl ?_
    refine g_aload_n dX11_clause_13 rfl rfl ?_
    refine g_get (a := 19) (v := .int (M.1 19 5)) dX11_clause_14 f_11_199 sh_19 rfl rfl ?_
    refine g_ic_lt (t := 26) dX11_clause_17 (by decide) (fun c4 => ?_) (fun c4 => ?_)
    · replace h := z_ift c4 h
      refine g_iload_n dX11_clause_26 rfl rfl ?_
      refine g_if_eq (t := 41) dX11_clause_27 (by decide) (fun c5 => ?_) (fun c5 => ?_)
      · replace h := z_ift c5 h
        refine g_aload_n dX11_clause_41 rfl rfl ?_
        refine g_iload_n dX11_clause_42 rfl rfl ?_
        refine g_if_ne (t := 55) dX11_clause_43 (by decide) (fun c6 => ?_) (fun c6 => ?_)
        · replace h := z_iff c6 h
          refine g_aload_n dX11_clause_55 rfl rfl ?_
          refine g_get (a := 19) (v := .ref 23) dX11_clause_56 f_11_267 sh_19 rfl rfl ?_
          refine g_iload_n dX11_clause_59 rfl rfl ?_
          by_cases g7 : a1 < 0 ∨ 8 ≤ a1.toNatClampNeg
          · rw [if_pos g7] at h; cases h
          replace h := z_iff g7 h
          refine g_iald (a := 21) dX11_clause_60 sh_21 g7 ?_
          obtain ⟨q8, e9, h⟩ := z_bd h
          refine g_callV (a := 0) (as := [.int (M.1 21 a1.toNatClampNeg)]) (rest := []) (c := mX11_answer) (k1 := 0) dX11_clause_61 rfl rfl rfl sh_0 rfl rfl (Nat.le_of_ble_eq_true rfl) (Nat.le_of_ble_eq_true rfl) (by decide) ?_
          refine A_X11_answer e9 ?_
          show z_G none 1 mX11_clause 64 [some (.ref 2), some (.int a1), some (.int a2), some (.ref 21)] [.int q8.1] q8.2 Q
          cases h
          exact g_iret dX11_clause_64 rfl rfl hq
        · replace h := z_ift c6 h
          refine g_aload_n dX11_clause_46 rfl rfl ?_
          refine g_get (a := 19) (v := .ref 22) dX11_clause_47 f_11_264 sh_19 rfl rfl ?_
          refine g_iload_n dX11_clause_50 rfl rfl ?_
          by_cases g10 : a1 < 0 ∨ 8 ≤ a1.toNatClampNeg
          · rw [if_pos g10] at h; cases h
          replace h := z_iff g10 h
          refine g_iald (a := 20) dX11_clause_51 sh_20 g10 ?_
          refine g_goto (t := 61) dX11_clause_52 (by decide) ?_
          obtain ⟨q11, e12, h⟩ := z_bd h
          refine g_callV (a := 0) (as := [.int (M.1 20 a1.toNatClampNeg)]) (rest := []) (c := mX11_answer) (k1 := 0) dX11_clause_61 rfl rfl rfl sh_0 rfl rfl (Nat.le_of_ble_eq_true rfl) (Nat.le_of_ble_eq_true rfl) (by decide) ?_
          refine A_X11_answer e12 ?_
          show z_G none 1 mX11_clause 64 [some (.ref 2), some (.int a1), some (.int a2), some (.ref 21)] [.int q11.1] q11.2 Q
          cases h
          exact g_iret dX11_clause_64 rfl rfl hq
      · replace h := z_iff c5 h
        refine g_iload_n dX11_clause_30 rfl rfl ?_
        refine g_iconst (v := (1 : Int32)) dX11_clause_31 (by decide) ?_
        refine g_ic_eq (t := 41) dX11_clause_32 (by decide) (fun c13 => ?_) (fun c13 => ?_)
        · replace h := z_ift c13 h
          refine g_aload_n dX11_clause_41 rfl rfl ?_
          refine g_iload_n dX11_clause_42 rfl rfl ?_
          refine g_if_ne (t := 55) dX11_clause_43 (by decide) (fun c14 => ?_) (fun c14 => ?_)
          · replace h := z_iff c14 h
            refine g_aload_n dX11_clause_55 rfl rfl ?_
            refine g_get (a := 19) (v := .ref 23) dX11_clause_56 f_11_267 sh_19 rfl rfl ?_
            refine g_iload_n dX11_clause_59 rfl rfl ?_
            by_cases g15 : a1 < 0 ∨ 8 ≤ a1.toNatClampNeg
            · rw [if_pos g15] at h; cases h
            replace h := z_iff g15 h
            refine g_iald (a := 21) dX11_clause_60 sh_21 g15 ?_
            obtain ⟨q16, e17, h⟩ := z_bd h
            refine g_callV (a := 0) (as := [.int (M.1 21 a1.toNatClampNeg)]) (rest := []) (c := mX11_answer) (k1 := 0) dX11_clause_61 rfl rfl rfl sh_0 rfl rfl (Nat.le_of_ble_eq_true rfl) (Nat.le_of_ble_eq_true rfl) (by decide) ?_
            refine A_X11_answer e17 ?_
            show z_G none 1 mX11_clause 64 [some (.ref 2), some (.int a1), some (.int a2), some (.ref 21)] [.int q16.1] q16.2 Q
            cases h
            exact g_iret dX11_clause_64 rfl rfl hq
          · replace h := z_ift c14 h
            refine g_aload_n dX11_clause_46 rfl rfl ?_
            refine g_get (a := 19) (v := .ref 22) dX11_clause_47 f_11_264 sh_19 rfl rfl ?_
            refine g_iload_n dX11_clause_50 rfl rfl ?_
            by_cases g18 : a1 < 0 ∨ 8 ≤ a1.toNatClampNeg
            · rw [if_pos g18] at h; cases h
            replace h := z_iff g18 h
            refine g_iald (a := 20) dX11_clause_51 sh_20 g18 ?_
            refine g_goto (t := 61) dX11_clause_52 (by decide) ?_
            obtain ⟨q19, e20, h⟩ := z_bd h
            refine g_callV (a := 0) (as := [.int (M.1 20 a1.toNatClampNeg)]) (rest := []) (c := mX11_answer) (k1 := 0) dX11_clause_61 rfl rfl rfl sh_0 rfl rfl (Nat.le_of_ble_eq_true rfl) (Nat.le_of_ble_eq_true rfl) (by decide) ?_
            refine A_X11_answer e20 ?_
            show z_G none 1 mX11_clause 64 [some (.ref 2), some (.int a1), some (.int a2), some (.ref 21)] [.int q19.1] q19.2 Q
            cases h
            exact g_iret dX11_clause_64 rfl rfl hq
        · replace h := z_iff c13 h
          refine g_aload_n dX11_clause_35 rfl rfl ?_
          refine g_iconst (v := (5 : Int32)) dX11_clause_36 (by decide) ?_
          obtain ⟨q21, e22, h⟩ := z_bd h
          refine g_callV (a := 0) (as := [.int (5 : Int32)]) (rest := []) (c := mX11_refuse) (k1 := 0) dX11_clause_37 rfl rfl rfl sh_0 rfl rfl (Nat.le_of_ble_eq_true rfl) (Nat.le_of_ble_eq_true rfl) (by decide) ?_
          refine A_X11_refuse e22 ?_
          show z_G none 1 mX11_clause 40 [some (.ref 2), some (.int a1), some (.int a2), some (.ref 21)] [.int q21.1] q21.2 Q
          cases h
          exact g_iret dX11_clause_40 rfl rfl hq
    · replace h := z_iff c4 h
      refine g_aload_n dX11_clause_20 rfl rfl ?_
      refine g_iconst (v := (2 : Int32)) dX11_clause_21 (by decide) ?_
      obtain ⟨q23, e24, h⟩ := z_bd h
      refine g_callV (a := 0) (as := [.int (2 : Int32)]) (rest := []) (c := mX11_refuse) (k1 := 0) dX11_clause_22 rfl rfl rfl sh_0 rfl rfl (Nat.le_of_ble_eq_true rfl) (Nat.le_of_ble_eq_true rfl) (by decide) ?_
      refine A_X11_refuse e24 ?_
      show z_G none 1 mX11_clause 25 [some (.ref 2), some (.int a1), some (.int a2), some (.ref 21)] [.int q23.1] q23.2 Q
      cases h
      exact g_iret dX11_clause_25 rfl rfl hq
theorem dX11_witness_0 : decode cX11_witness 0 = .ok (.aload_n 0, 1) := by decide +kernel
theorem dX11_witness_1 : decode cX11_witness 1 = .ok (.getfield 26, 3) := by decide +kernel
theorem dX11_witness_4 : decode cX11_witness 4 = .ok (.getfield 190, 3) := by decide +kernel
theorem dX11_witness_7 : decode cX11_witness 7 = .ok (.astore_n 3, 1) := by decide +kernel
theorem dX11_witness_8 : decode cX11_witness 8 = .ok (.iload_n 1, 1) := by decide +kernel
theorem dX11_witness_9 : decode cX11_witness 9 = .ok (.ifCond .lt 18, 3) := by decide +kernel
theorem dX11_witness_12 : decode cX11_witness 12 = .ok (.iload_n 1, 1) := by decide +kernel
theorem dX11_witness_13 : decode cX11_witness 13 = .ok (.aload_n 3, 1) := by decide +kernel
theorem dX11_witness_14 : decode cX11_witness 14 = .ok (.getfield 202, 3) := by decide +kernel
theorem dX11_witness_17 : decode cX11_witness 17 = .ok (.if_icmp .ge 10, 3) := by decide +kernel
theorem dX11_witness_20 : decode cX11_witness 20 = .ok (.iload_n 2, 1) := by decide +kernel
theorem dX11_witness_21 : decode cX11_witness 21 = .ok (.invokestatic 226, 3) := by decide +kernel
theorem dX11_witness_24 : decode cX11_witness 24 = .ok (.ifCond .ne 9, 3) := by decide +kernel
theorem dX11_witness_27 : decode cX11_witness 27 = .ok (.aload_n 0, 1) := by decide +kernel
theorem dX11_witness_28 : decode cX11_witness 28 = .ok (.iconst 2, 1) := by decide +kernel
theorem dX11_witness_29 : decode cX11_witness 29 = .ok (.invokevirtual 113, 3) := by decide +kernel
theorem dX11_witness_32 : decode cX11_witness 32 = .ok (.ireturn, 1) := by decide +kernel
theorem dX11_witness_33 : decode cX11_witness 33 = .ok (.aload_n 0, 1) := by decide +kernel
theorem dX11_witness_34 : decode cX11_witness 34 = .ok (.iload_n 2, 1) := by decide +kernel
theorem dX11_witness_35 : decode cX11_witness 35 = .ok (.ifCond .ne 12, 3) := by decide +kernel
theorem dX11_witness_38 : decode cX11_witness 38 = .ok (.aload_n 3, 1) := by decide +kernel
theorem dX11_witness_39 : decode cX11_witness 39 = .ok (.getfield 270, 3) := by decide +kernel
theorem dX11_witness_42 : decode cX11_witness 42 = .ok (.iload_n 1, 1) := by decide +kernel
theorem dX11_witness_43 : decode cX11_witness 43 = .ok (.iaload, 1) := by decide +kernel
theorem dX11_witness_44 : decode cX11_witness 44 = .ok (.goto 9, 3) := by decide +kernel
theorem dX11_witness_47 : decode cX11_witness 47 = .ok (.aload_n 3, 1) := by decide +kernel
theorem dX11_witness_48 : decode cX11_witness 48 = .ok (.getfield 273, 3) := by decide +kernel
theorem dX11_witness_51 : decode cX11_witness 51 = .ok (.iload_n 1, 1) := by decide +kernel
theorem dX11_witness_52 : decode cX11_witness 52 = .ok (.iaload, 1) := by decide +kernel
theorem dX11_witness_53 : decode cX11_witness 53 = .ok (.invokevirtual 164, 3) := by decide +kernel
theorem dX11_witness_56 : decode cX11_witness 56 = .ok (.ireturn, 1) := by decide +kernel
def F_X11_witness (w : Nat) (M : z_Mem) (a1 : Int32) (a2 : Int32) : Option (Int32 × z_Mem) :=
  if a1 < (0 : Int32) then
  (F_X11_refuse w M (2 : Int32)).bind fun q2 =>
  some (q2.1, q2.2)
  else
  if (M.1 19 6) ≤ a1 then
  (F_X11_refuse w M (2 : Int32)).bind fun q5 =>
  some (q5.1, q5.2)
  else
  (F_X11_isSide w M a2).bind fun q7 =>
  if q7.1 = true then
  if a2 = (0 : Int32) then
  if a1 < 0 ∨ 6 ≤ a1.toNatClampNeg then none else
  (F_X11_answer w q7.2 (q7.2.1 22 a1.toNatClampNeg)).bind fun q15 =>
  some (q15.1, q15.2)
  else
  if a1 < 0 ∨ 6 ≤ a1.toNatClampNeg then none else
  (F_X11_answer w q7.2 (q7.2.1 23 a1.toNatClampNeg)).bind fun q12 =>
  some (q12.1, q12.2)
  else
  (F_X11_refuse w q7.2 (2 : Int32)).bind fun q17 =>
  some (q17.1, q17.2)
set_option maxHeartbeats 4000000 in
theorem A_X11_witness {w : Nat} {M : z_Mem} {a1 : Int32} {a2 : Int32} {r : Int32} {M' : z_Mem} {Q : Option Value → z_Mem → Prop} (h : F_X11_witness w M a1 a2 = some (r, M')) (hq : Q (some (.int r)) M') : z_Cl 1 mX11_witness [.ref 2, .int a1, .int a2] M Q := by
  refine g_in (ls := [some (.ref 2), some (.int a1), some (.int a2), none]) rfl ?_
  unfold F_X11_witness at h
  refine g_aload_n dX11_witness_0 rfl rfl ?_
  refine g_get (a := 0) (v := .ref 9) dX11_witness_1 f_11_26 sh_0 rfl rfl ?_
  refine g_get (a := 7) (v := .ref 21) dX11_witness_4 f_11_190 sh_7 rfl rfl ?_
  refine g_astore_n (ls' := [some (.ref 2), some (.int a1), some (.int a2), some (.ref 21)]) dX11_witness_7 rfl (Nat.le_of_ble_eq_true rfl) rfl ?_
  refine g_iload_n dX11_witness_8 rfl rfl ?_
  refine g_if_lt (t := 27) dX11_witness_9 (by decide) (fun c1 => ?_) (fun c1 => ?_)
  · replace h := z_ift c1 h
    refine g_aload_n dX11_witness_27 rfl rfl ?_
    refine g_iconst (v := (2 : Int32)) dX11_witness_28 (by decide) ?_
    obtain ⟨q2, e3, h⟩ := z_bd h
    refine g_callV (a := 0) (as := [.int (2 : Int32)]) (rest := []) (c := mX11_refuse) (k1 := 0) dX11_witness_29 rfl rfl rfl sh_0 rfl rfl (Nat.le_of_ble_eq_true rfl) (Nat.le_of_ble_eq_true rfl) (by decide) ?_
    refine A_X11_refuse e3 ?_
    show z_G none 1 mX11_witness 32 [some (.ref 2), some (.int a1), some (.int a2), some (.ref 21)] [.int q2.1] q2.2 Q
    cases h
    exact g_iret dX11_witness_32 rfl rfl hq
  · replace h := z_iff c1 h
    refine g_iload_n dX11_witness_12 rfl rfl ?_
    refine g_aload_n dX11_witness_13 rfl rfl ?_
    refine g_get (a := 19) (v := .int (M.1 19 6)) dX11_witness_14 f_11_202 sh_19 rfl rfl ?_
    refine g_ic_ge (t := 27) dX11_witness_17 (by decide) (fun c4 => ?_) (fun c4 => ?_)
    · replace h := z_ift c4 h
      refine g_aload_n dX11_witness_27 rfl rfl ?_
      refine g_iconst (v := (2 : Int32)) dX11_witness_28 (by decide) ?_
      obtain ⟨q5, e6, h⟩ := z_bd h
      refine g_callV (a := 0) (as := [.int (2 : Int32)]) (rest := []) (c := mX11_refuse) (k1 := 0) dX11_witness_29 rfl rfl rfl sh_0 rfl rfl (Nat.le_of_ble_eq_true rfl) (Nat.le_of_ble_eq_true rfl) (by decide) ?_
      refine A_X11_refuse e6 ?_
      show z_G none 1 mX11_witness 32 [some (.ref 2), some (.int a1), some (.int a2), some (.ref 21)] [.int q5.1] q5.2 Q
      cases h
      exact g_iret dX11_witness_32 rfl rfl hq
    · replace h := z_iff c4 h
      refine g_iload_n dX11_witness_20 rfl rfl ?_
      obtain ⟨q7, e8, h⟩ := z_bd h
      refine g_callS (as := [.int a2]) (rest := []) (c := mX11_isSide) (k1 := 0) dX11_witness_21 rfl rfl rfl rfl rfl (Nat.le_of_ble_eq_true rfl) (Nat.le_of_ble_eq_true rfl) (by decide) ?_
      refine A_X11_isSide e8 ?_
      show z_G none 1 mX11_witness 24 [some (.ref 2), some (.int a1), some (.int a2), some (.ref 21)] [.int (z_tb q7.1)] q7.2 Q
      refine g_if_ne (t := 33) dX11_witness_24 (by decide) (fun c9 => ?_) (fun c9 => ?_)
      · replace h := z_ift (z_tbn.mp c9) h
        refine g_aload_n dX11_witness_33 rfl rfl ?_
        refine g_iload_n dX11_witness_34 rfl rfl ?_
        refine g_if_ne (t := 47) dX11_witness_35 (by decide) (fun c10 => ?_) (fun c10 => ?_)
        · replace h := z_iff c10 h
          refine g_aload_n dX11_witness_47 rfl rfl ?_
          refine g_get (a := 19) (v := .ref 25) dX11_witness_48 f_11_273 sh_19 rfl rfl ?_
          refine g_iload_n dX11_witness_51 rfl rfl ?_
          by_cases g11 : a1 < 0 ∨ 6 ≤ a1.toNatClampNeg
          · rw [if_pos g11] at h; cases h
          replace h := z_iff g11 h
          refine g_iald (a := 23) dX11_witness_52 sh_23 g11 ?_
          obtain ⟨q12, e13, h⟩ := z_bd h
          refine g_callV (a := 0) (as := [.int (q7.2.1 23 a1.toNatClampNeg)]) (rest := []) (c := mX11_answer) (k1 := 0) dX11_witness_53 rfl rfl rfl sh_0 rfl rfl (Nat.le_of_ble_eq_true rfl) (Nat.le_of_ble_eq_true rfl) (by decide) ?_
          refine A_X11_answer e13 ?_
          show z_G none 1 mX11_witness 56 [some (.ref 2), some (.int a1), some (.int a2), some (.ref 21)] [.int q12.1] q12.2 Q
          cases h
          exact g_iret dX11_witness_56 rfl rfl hq
        · replace h := z_ift c10 h
          refine g_aload_n dX11_witness_38 rfl rfl ?_
          refine g_get (a := 19) (v := .ref 24) dX11_witness_39 f_11_270 sh_19 rfl rfl ?_
          refine g_iload_n dX11_witness_42 rfl rfl ?_
          by_cases g14 : a1 < 0 ∨ 6 ≤ a1.toNatClampNeg
          · rw [if_pos g14] at h; cases h
          replace h := z_iff g14 h
          refine g_iald (a := 22) dX11_witness_43 sh_22 g14 ?_
          refine g_goto (t := 53) dX11_witness_44 (by decide) ?_
          obtain ⟨q15, e16, h⟩ := z_bd h
          refine g_callV (a := 0) (as := [.int (q7.2.1 22 a1.toNatClampNeg)]) (rest := []) (c := mX11_answer) (k1 := 0) dX11_witness_53 rfl rfl rfl sh_0 rfl rfl (Nat.le_of_ble_eq_true rfl) (Nat.le_of_ble_eq_true rfl) (by decide) ?_
          refine A_X11_answer e16 ?_
          show z_G none 1 mX11_witness 56 [some (.ref 2), some (.int a1), some (.int a2), some (.ref 21)] [.int q15.1] q15.2 Q
          cases h
          exact g_iret dX11_witness_56 rfl rfl hq
      · replace h := z_iff (z_tb0.mp c9) h
        refine g_aload_n dX11_witness_27 rfl rfl ?_
        refine g_iconst (v := (2 : Int32)) dX11_witness_28 (by decide) ?_
        obtain ⟨q17, e18, h⟩ := z_bd h
        refine g_callV (a := 0) (as := [.int (2 : Int32)]) (rest := []) (c := mX11_refuse) (k1 := 0) dX11_witness_29 rfl rfl rfl sh_0 rfl rfl (Nat.le_of_ble_eq_true rfl) (Nat.le_of_ble_eq_true rfl) (by decide) ?_
        refine A_X11_refuse e18 ?_
        show z_G none 1 mX11_witness 32 [some (.ref 2), some (.int a1), some (.int a2), some (.ref 21)] [.int q17.1] q17.2 Q
        cases h
        exact g_iret dX11_witness_32 rfl rfl hq
theorem dX11_copyWorth_0 : decode cX11_copyWorth 0 = .ok (.aload_n 0, 1) := by decide +kernel
theorem dX11_copyWorth_1 : decode cX11_copyWorth 1 = .ok (.getfield 26, 3) := by decide +kernel
theorem dX11_copyWorth_4 : decode cX11_copyWorth 4 = .ok (.getfield 155, 3) := by decide +kernel
theorem dX11_copyWorth_7 : decode cX11_copyWorth 7 = .ok (.astore_n 2, 1) := by decide +kernel
theorem dX11_copyWorth_8 : decode cX11_copyWorth 8 = .ok (.iload_n 1, 1) := by decide +kernel
theorem dX11_copyWorth_9 : decode cX11_copyWorth 9 = .ok (.invokestatic 90, 3) := by decide +kernel
theorem dX11_copyWorth_12 : decode cX11_copyWorth 12 = .ok (.ifCond .ne 9, 3) := by decide +kernel
theorem dX11_copyWorth_15 : decode cX11_copyWorth 15 = .ok (.aload_n 0, 1) := by decide +kernel
theorem dX11_copyWorth_16 : decode cX11_copyWorth 16 = .ok (.iconst 1, 1) := by decide +kernel
theorem dX11_copyWorth_17 : decode cX11_copyWorth 17 = .ok (.invokevirtual 113, 3) := by decide +kernel
theorem dX11_copyWorth_20 : decode cX11_copyWorth 20 = .ok (.ireturn, 1) := by decide +kernel
theorem dX11_copyWorth_21 : decode cX11_copyWorth 21 = .ok (.aload_n 0, 1) := by decide +kernel
theorem dX11_copyWorth_22 : decode cX11_copyWorth 22 = .ok (.getfield 10, 3) := by decide +kernel
theorem dX11_copyWorth_25 : decode cX11_copyWorth 25 = .ok (.iload_n 1, 1) := by decide +kernel
theorem dX11_copyWorth_26 : decode cX11_copyWorth 26 = .ok (.invokevirtual 121, 3) := by decide +kernel
theorem dX11_copyWorth_29 : decode cX11_copyWorth 29 = .ok (.ifCond .eq 9, 3) := by decide +kernel
theorem dX11_copyWorth_32 : decode cX11_copyWorth 32 = .ok (.aload_n 0, 1) := by decide +kernel
theorem dX11_copyWorth_33 : decode cX11_copyWorth 33 = .ok (.iconst 3, 1) := by decide +kernel
theorem dX11_copyWorth_34 : decode cX11_copyWorth 34 = .ok (.invokevirtual 113, 3) := by decide +kernel
theorem dX11_copyWorth_37 : decode cX11_copyWorth 37 = .ok (.ireturn, 1) := by decide +kernel
theorem dX11_copyWorth_38 : decode cX11_copyWorth 38 = .ok (.aload_n 0, 1) := by decide +kernel
theorem dX11_copyWorth_39 : decode cX11_copyWorth 39 = .ok (.getfield 10, 3) := by decide +kernel
theorem dX11_copyWorth_42 : decode cX11_copyWorth 42 = .ok (.iload_n 1, 1) := by decide +kernel
theorem dX11_copyWorth_43 : decode cX11_copyWorth 43 = .ok (.iconst 0, 1) := by decide +kernel
theorem dX11_copyWorth_44 : decode cX11_copyWorth 44 = .ok (.aload_n 2, 1) := by decide +kernel
theorem dX11_copyWorth_45 : decode cX11_copyWorth 45 = .ok (.getfield 159, 3) := by decide +kernel
theorem dX11_copyWorth_48 : decode cX11_copyWorth 48 = .ok (.invokevirtual 128, 3) := by decide +kernel
theorem dX11_copyWorth_51 : decode cX11_copyWorth 51 = .ok (.ifCond .ne 9, 3) := by decide +kernel
theorem dX11_copyWorth_54 : decode cX11_copyWorth 54 = .ok (.aload_n 0, 1) := by decide +kernel
theorem dX11_copyWorth_55 : decode cX11_copyWorth 55 = .ok (.iconst 4, 1) := by decide +kernel
theorem dX11_copyWorth_56 : decode cX11_copyWorth 56 = .ok (.invokevirtual 113, 3) := by decide +kernel
theorem dX11_copyWorth_59 : decode cX11_copyWorth 59 = .ok (.ireturn, 1) := by decide +kernel
theorem dX11_copyWorth_60 : decode cX11_copyWorth 60 = .ok (.iconst 0, 1) := by decide +kernel
theorem dX11_copyWorth_61 : decode cX11_copyWorth 61 = .ok (.istore_n 3, 1) := by decide +kernel
theorem dX11_copyWorth_62 : decode cX11_copyWorth 62 = .ok (.iload_n 3, 1) := by decide +kernel
theorem dX11_copyWorth_63 : decode cX11_copyWorth 63 = .ok (.aload_n 2, 1) := by decide +kernel
theorem dX11_copyWorth_64 : decode cX11_copyWorth 64 = .ok (.getfield 159, 3) := by decide +kernel
theorem dX11_copyWorth_67 : decode cX11_copyWorth 67 = .ok (.if_icmp .ge 25, 3) := by decide +kernel
theorem dX11_copyWorth_70 : decode cX11_copyWorth 70 = .ok (.aload_n 0, 1) := by decide +kernel
theorem dX11_copyWorth_71 : decode cX11_copyWorth 71 = .ok (.getfield 10, 3) := by decide +kernel
theorem dX11_copyWorth_74 : decode cX11_copyWorth 74 = .ok (.iload_n 1, 1) := by decide +kernel
theorem dX11_copyWorth_75 : decode cX11_copyWorth 75 = .ok (.iload_n 3, 1) := by decide +kernel
theorem dX11_copyWorth_76 : decode cX11_copyWorth 76 = .ok (.aload_n 2, 1) := by decide +kernel
theorem dX11_copyWorth_77 : decode cX11_copyWorth 77 = .ok (.getfield 244, 3) := by decide +kernel
theorem dX11_copyWorth_80 : decode cX11_copyWorth 80 = .ok (.iload_n 3, 1) := by decide +kernel
theorem dX11_copyWorth_81 : decode cX11_copyWorth 81 = .ok (.iaload, 1) := by decide +kernel
theorem dX11_copyWorth_82 : decode cX11_copyWorth 82 = .ok (.i2l, 1) := by decide +kernel
theorem dX11_copyWorth_83 : decode cX11_copyWorth 83 = .ok (.invokevirtual 109, 3) := by decide +kernel
theorem dX11_copyWorth_86 : decode cX11_copyWorth 86 = .ok (.iinc 3 1, 3) := by decide +kernel
theorem dX11_copyWorth_89 : decode cX11_copyWorth 89 = .ok (.goto (-27), 3) := by decide +kernel
theorem dX11_copyWorth_92 : decode cX11_copyWorth 92 = .ok (.aload_n 0, 1) := by decide +kernel
theorem dX11_copyWorth_93 : decode cX11_copyWorth 93 = .ok (.aload_n 2, 1) := by decide +kernel
theorem dX11_copyWorth_94 : decode cX11_copyWorth 94 = .ok (.getfield 159, 3) := by decide +kernel
theorem dX11_copyWorth_97 : decode cX11_copyWorth 97 = .ok (.invokevirtual 164, 3) := by decide +kernel
theorem dX11_copyWorth_100 : decode cX11_copyWorth 100 = .ok (.ireturn, 1) := by decide +kernel
def L_X11_copyWorth (w : Nat) : Nat → z_Mem → Int32 → Int32 → Option (Int32 × z_Mem)
  | 0, _, _, _ => none
  | c + 1, M, x1, x3 =>
    if (M.1 9 5) ≤ x3 then
    (F_X11_answer w M (M.1 9 5)).bind fun q2 =>
    some (q2.1, q2.2)
    else
    if x3 < 0 ∨ 8 ≤ x3.toNatClampNeg then none else
    (F_X8_put w M x1 x3 ((M.1 13 x3.toNatClampNeg).toInt64)).bind fun q5 =>
    L_X11_copyWorth w c q5.2 x1 (x3 + (1 : Int32))
set_option maxHeartbeats 4000000 in
theorem AL_X11_copyWorth {w : Nat} : ∀ (c : Nat), (∀ (M : z_Mem) (x1 : Int32) (x3 : Int32) (r : Int32) (M' : z_Mem) (Q : Option Value → z_Mem → Prop), L_X11_copyWorth w c M x1 x3 = some (r, M') → Q (some (.int r)) M' → z_G none 2 mX11_copyWorth 62 [some (.ref 2), some (.int x1), some (.ref 11), some (.int x3)] [] M Q) := by
  intro c
  induction c with
  | zero => exact (fun M x1 x3 r M' Q h hq => by rw [L_X11_copyWorth] at h; cases h)
  | succ c ih =>
    intro M x1 x3 r M' Q h hq
    rw [L_X11_copyWorth] at h
    refine g_iload_n dX11_copyWorth_62 rfl rfl ?_
    refine g_aload_n dX11_copyWorth_63 rfl rfl ?_
    refine g_get (a := 9) (v := .int (M.1 9 5)) dX11_copyWorth_64 f_11_159 sh_9 rfl rfl ?_
    refine g_ic_ge (t := 92) dX11_copyWorth_67 (by decide) (fun c1 => ?_) (fun c1 => ?_)
    · replace h := z_ift c1 h
      refine g_aload_n dX11_copyWorth_92 rfl rfl ?_
      refine g_aload_n dX11_copyWorth_93 rfl rfl ?_
      refine g_get (a := 9) (v := .int (M.1 9 5)) dX11_copyWorth_94 f_11_159 sh_9 rfl rfl ?_
      obtain ⟨q2, e3, h⟩ := z_bd h
      refine g_callV (a := 0) (as := [.int (M.1 9 5)]) (rest := []) (c := mX11_answer) (k1 := 0) dX11_copyWorth_97 rfl rfl rfl sh_0 rfl rfl (Nat.le_of_ble_eq_true rfl) (Nat.le_of_ble_eq_true rfl) (by decide) ?_
      refine A_X11_answer e3 ?_
      show z_G none 2 mX11_copyWorth 100 [some (.ref 2), some (.int x1), some (.ref 11), some (.int x3)] [.int q2.1] q2.2 Q
      cases h
      exact g_iret dX11_copyWorth_100 rfl rfl hq
    · replace h := z_iff c1 h
      refine g_aload_n dX11_copyWorth_70 rfl rfl ?_
      refine g_get (a := 0) (v := .ref 3) dX11_copyWorth_71 f_11_10 sh_0 rfl rfl ?_
      refine g_iload_n dX11_copyWorth_74 rfl rfl ?_
      refine g_iload_n dX11_copyWorth_75 rfl rfl ?_
      refine g_aload_n dX11_copyWorth_76 rfl rfl ?_
      refine g_get (a := 9) (v := .ref 15) dX11_copyWorth_77 f_11_244 sh_9 rfl rfl ?_
      refine g_iload_n dX11_copyWorth_80 rfl rfl ?_
      by_cases g4 : x3 < 0 ∨ 8 ≤ x3.toNatClampNeg
      · rw [if_pos g4] at h; cases h
      replace h := z_iff g4 h
      refine g_iald (a := 13) dX11_copyWorth_81 sh_13 g4 ?_
      refine g_i2l dX11_copyWorth_82 ?_
      obtain ⟨q5, e6, h⟩ := z_bd h
      refine g_callV (a := 1) (as := [.int x1, .int x3, .long ((M.1 13 x3.toNatClampNeg).toInt64)]) (rest := []) (c := mX8_put) (k1 := 1) dX11_copyWorth_83 rfl rfl rfl sh_1 rfl rfl (Nat.le_of_ble_eq_true rfl) (Nat.le_of_ble_eq_true rfl) (by decide) ?_
      refine A_X8_put e6 ?_
      show z_G none 2 mX11_copyWorth 86 [some (.ref 2), some (.int x1), some (.ref 11), some (.int x3)] [] q5.2 Q
      refine g_iinc (v := x3 + (1 : Int32)) (ls' := [some (.ref 2), some (.int x1), some (.ref 11), some (.int (x3 + (1 : Int32)))]) dX11_copyWorth_86 rfl rfl rfl ?_
      refine g_goto (t := 62) dX11_copyWorth_89 (by decide) ?_
      exact g_sub (z_sub_s (z_sub_s (z_sub_s (z_sub_s z_sub_nil)))) (ih _ _ _ _ _ _ h hq)
def F_X11_copyWorth (w : Nat) (M : z_Mem) (a1 : Int32) : Option (Int32 × z_Mem) :=
  (F_X8_isTray w M a1).bind fun q7 =>
  if q7.1 = true then
  (F_X8_isMissing w q7.2 a1).bind fun q10 =>
  if q10.1 = true then
  (F_X11_refuse w q10.2 (3 : Int32)).bind fun q18 =>
  some (q18.1, q18.2)
  else
  (F_X8_has w q10.2 a1 (0 : Int32) (q10.2.1 9 5)).bind fun q13 =>
  if q13.1 = true then
  L_X11_copyWorth w w q13.2 a1 (0 : Int32)
  else
  (F_X11_refuse w q13.2 (4 : Int32)).bind fun q16 =>
  some (q16.1, q16.2)
  else
  (F_X11_refuse w q7.2 (1 : Int32)).bind fun q20 =>
  some (q20.1, q20.2)
set_option maxHeartbeats 4000000 in
theorem A_X11_copyWorth {w : Nat} {M : z_Mem} {a1 : Int32} {r : Int32} {M' : z_Mem} {Q : Option Value → z_Mem → Prop} (h : F_X11_copyWorth w M a1 = some (r, M')) (hq : Q (some (.int r)) M') : z_Cl 2 mX11_copyWorth [.ref 2, .int a1] M Q := by
  refine g_in (ls := [some (.ref 2), some (.int a1), none, none]) rfl ?_
  unfold F_X11_copyWorth at h
  refine g_aload_n dX11_copyWorth_0 rfl rfl ?_
  refine g_get (a := 0) (v := .ref 9) dX11_copyWorth_1 f_11_26 sh_0 rfl rfl ?_
  refine g_get (a := 7) (v := .ref 11) dX11_copyWorth_4 f_11_155 sh_7 rfl rfl ?_
  refine g_astore_n (ls' := [some (.ref 2), some (.int a1), some (.ref 11), none]) dX11_copyWorth_7 rfl (Nat.le_of_ble_eq_true rfl) rfl ?_
  refine g_iload_n dX11_copyWorth_8 rfl rfl ?_
  obtain ⟨q7, e8, h⟩ := z_bd h
  refine g_callS (as := [.int a1]) (rest := []) (c := mX8_isTray) (k1 := 0) dX11_copyWorth_9 rfl rfl rfl rfl rfl (Nat.le_of_ble_eq_true rfl) (Nat.le_of_ble_eq_true rfl) (by decide) ?_
  refine A_X8_isTray e8 ?_
  show z_G none 2 mX11_copyWorth 12 [some (.ref 2), some (.int a1), some (.ref 11), none] [.int (z_tb q7.1)] q7.2 Q
  refine g_if_ne (t := 21) dX11_copyWorth_12 (by decide) (fun c9 => ?_) (fun c9 => ?_)
  · replace h := z_ift (z_tbn.mp c9) h
    refine g_aload_n dX11_copyWorth_21 rfl rfl ?_
    refine g_get (a := 0) (v := .ref 3) dX11_copyWorth_22 f_11_10 sh_0 rfl rfl ?_
    refine g_iload_n dX11_copyWorth_25 rfl rfl ?_
    obtain ⟨q10, e11, h⟩ := z_bd h
    refine g_callV (a := 1) (as := [.int a1]) (rest := []) (c := mX8_isMissing) (k1 := 0) dX11_copyWorth_26 rfl rfl rfl sh_1 rfl rfl (Nat.le_of_ble_eq_true rfl) (Nat.le_of_ble_eq_true rfl) (by decide) ?_
    refine A_X8_isMissing e11 ?_
    show z_G none 2 mX11_copyWorth 29 [some (.ref 2), some (.int a1), some (.ref 11), none] [.int (z_tb q10.1)] q10.2 Q
    refine g_if_eq (t := 38) dX11_copyWorth_29 (by decide) (fun c12 => ?_) (fun c12 => ?_)
    · replace h := z_iff (z_tb0.mp c12) h
      refine g_aload_n dX11_copyWorth_38 rfl rfl ?_
      refine g_get (a := 0) (v := .ref 3) dX11_copyWorth_39 f_11_10 sh_0 rfl rfl ?_
      refine g_iload_n dX11_copyWorth_42 rfl rfl ?_
      refine g_iconst (v := (0 : Int32)) dX11_copyWorth_43 (by decide) ?_
      refine g_aload_n dX11_copyWorth_44 rfl rfl ?_
      refine g_get (a := 9) (v := .int (q10.2.1 9 5)) dX11_copyWorth_45 f_11_159 sh_9 rfl rfl ?_
      obtain ⟨q13, e14, h⟩ := z_bd h
      refine g_callV (a := 1) (as := [.int a1, .int (0 : Int32), .int (q10.2.1 9 5)]) (rest := []) (c := mX8_has) (k1 := 0) dX11_copyWorth_48 rfl rfl rfl sh_1 rfl rfl (Nat.le_of_ble_eq_true rfl) (Nat.le_of_ble_eq_true rfl) (by decide) ?_
      refine A_X8_has e14 ?_
      show z_G none 2 mX11_copyWorth 51 [some (.ref 2), some (.int a1), some (.ref 11), none] [.int (z_tb q13.1)] q13.2 Q
      refine g_if_ne (t := 60) dX11_copyWorth_51 (by decide) (fun c15 => ?_) (fun c15 => ?_)
      · replace h := z_ift (z_tbn.mp c15) h
        refine g_iconst (v := (0 : Int32)) dX11_copyWorth_60 (by decide) ?_
        refine g_istore_n (ls' := [some (.ref 2), some (.int a1), some (.ref 11), some (.int (0 : Int32))]) dX11_copyWorth_61 rfl (Nat.le_of_ble_eq_true rfl) rfl ?_
        exact g_sub (z_sub_s (z_sub_s (z_sub_s (z_sub_s z_sub_nil)))) ((AL_X11_copyWorth (w := w) w) _ _ _ _ _ _ h hq)
      · replace h := z_iff (z_tb0.mp c15) h
        refine g_aload_n dX11_copyWorth_54 rfl rfl ?_
        refine g_iconst (v := (4 : Int32)) dX11_copyWorth_55 (by decide) ?_
        obtain ⟨q16, e17, h⟩ := z_bd h
        refine g_callV (a := 0) (as := [.int (4 : Int32)]) (rest := []) (c := mX11_refuse) (k1 := 0) dX11_copyWorth_56 rfl rfl rfl sh_0 rfl rfl (Nat.le_of_ble_eq_true rfl) (Nat.le_of_ble_eq_true rfl) (by decide) ?_
        refine A_X11_refuse e17 ?_
        show z_G none 2 mX11_copyWorth 59 [some (.ref 2), some (.int a1), some (.ref 11), none] [.int q16.1] q16.2 Q
        cases h
        exact g_iret dX11_copyWorth_59 rfl rfl hq
    · replace h := z_ift (z_tbn.mp c12) h
      refine g_aload_n dX11_copyWorth_32 rfl rfl ?_
      refine g_iconst (v := (3 : Int32)) dX11_copyWorth_33 (by decide) ?_
      obtain ⟨q18, e19, h⟩ := z_bd h
      refine g_callV (a := 0) (as := [.int (3 : Int32)]) (rest := []) (c := mX11_refuse) (k1 := 0) dX11_copyWorth_34 rfl rfl rfl sh_0 rfl rfl (Nat.le_of_ble_eq_true rfl) (Nat.le_of_ble_eq_true rfl) (by decide) ?_
      refine A_X11_refuse e19 ?_
      show z_G none 2 mX11_copyWorth 37 [some (.ref 2), some (.int a1), some (.ref 11), none] [.int q18.1] q18.2 Q
      cases h
      exact g_iret dX11_copyWorth_37 rfl rfl hq
  · replace h := z_iff (z_tb0.mp c9) h
    refine g_aload_n dX11_copyWorth_15 rfl rfl ?_
    refine g_iconst (v := (1 : Int32)) dX11_copyWorth_16 (by decide) ?_
    obtain ⟨q20, e21, h⟩ := z_bd h
    refine g_callV (a := 0) (as := [.int (1 : Int32)]) (rest := []) (c := mX11_refuse) (k1 := 0) dX11_copyWorth_17 rfl rfl rfl sh_0 rfl rfl (Nat.le_of_ble_eq_true rfl) (Nat.le_of_ble_eq_true rfl) (by decide) ?_
    refine A_X11_refuse e21 ?_
    show z_G none 2 mX11_copyWorth 20 [some (.ref 2), some (.int a1), some (.ref 11), none] [.int q20.1] q20.2 Q
    cases h
    exact g_iret dX11_copyWorth_20 rfl rfl hq
theorem dX11_month_0 : decode cX11_month 0 = .ok (.iload_n 1, 1) := by decide +kernel
theorem dX11_month_1 : decode cX11_month 1 = .ok (.iconst 1, 1) := by decide +kernel
theorem dX11_month_2 : decode cX11_month 2 = .ok (.if_icmp .lt 9, 3) := by decide +kernel
theorem dX11_month_5 : decode cX11_month 5 = .ok (.iload_n 1, 1) := by decide +kernel
theorem dX11_month_6 : decode cX11_month 6 = .ok (.bipush 99, 2) := by decide +kernel
theorem dX11_month_8 : decode cX11_month 8 = .ok (.if_icmp .le 9, 3) := by decide +kernel
theorem dX11_month_11 : decode cX11_month 11 = .ok (.aload_n 0, 1) := by decide +kernel
theorem dX11_month_12 : decode cX11_month 12 = .ok (.iconst 5, 1) := by decide +kernel
theorem dX11_month_13 : decode cX11_month 13 = .ok (.invokevirtual 113, 3) := by decide +kernel
theorem dX11_month_16 : decode cX11_month 16 = .ok (.ireturn, 1) := by decide +kernel
theorem dX11_month_17 : decode cX11_month 17 = .ok (.aload_n 0, 1) := by decide +kernel
theorem dX11_month_18 : decode cX11_month 18 = .ok (.getfield 26, 3) := by decide +kernel
theorem dX11_month_21 : decode cX11_month 21 = .ok (.iload_n 1, 1) := by decide +kernel
theorem dX11_month_22 : decode cX11_month 22 = .ok (.invokevirtual 276, 3) := by decide +kernel
theorem dX11_month_25 : decode cX11_month 25 = .ok (.ifCond .eq 17, 3) := by decide +kernel
theorem dX11_month_28 : decode cX11_month 28 = .ok (.aload_n 0, 1) := by decide +kernel
theorem dX11_month_29 : decode cX11_month 29 = .ok (.aload_n 0, 1) := by decide +kernel
theorem dX11_month_30 : decode cX11_month 30 = .ok (.getfield 26, 3) := by decide +kernel
theorem dX11_month_33 : decode cX11_month 33 = .ok (.invokevirtual 279, 3) := by decide +kernel
theorem dX11_month_36 : decode cX11_month 36 = .ok (.invokevirtual 164, 3) := by decide +kernel
theorem dX11_month_39 : decode cX11_month 39 = .ok (.goto 9, 3) := by decide +kernel
theorem dX11_month_42 : decode cX11_month 42 = .ok (.aload_n 0, 1) := by decide +kernel
theorem dX11_month_43 : decode cX11_month 43 = .ok (.bipush 7, 2) := by decide +kernel
theorem dX11_month_45 : decode cX11_month 45 = .ok (.invokevirtual 113, 3) := by decide +kernel
theorem dX11_month_48 : decode cX11_month 48 = .ok (.ireturn, 1) := by decide +kernel
def F_X11_month (w : Nat) (M : z_Mem) (a1 : Int32) : Option (Int32 × z_Mem) :=
  if a1 < (1 : Int32) then
  (F_X11_refuse w M (5 : Int32)).bind fun q2 =>
  some (q2.1, q2.2)
  else
  if a1 ≤ (99 : Int32) then
  (F_X3_passMonths w M 7 a1).bind fun q5 =>
  if q5.1 = true then
  (F_X3_bothChests w q5.2 7).bind fun q10 =>
  (F_X11_answer w q10.2 q10.1).bind fun q12 =>
  some (q12.1, q12.2)
  else
  (F_X11_refuse w q5.2 (7 : Int32)).bind fun q8 =>
  some (q8.1, q8.2)
  else
  (F_X11_refuse w M (5 : Int32)).bind fun q14 =>
  some (q14.1, q14.2)
set_option maxHeartbeats 4000000 in
theorem A_X11_month {w : Nat} {M : z_Mem} {a1 : Int32} {r : Int32} {M' : z_Mem} {Q : Option Value → z_Mem → Prop} (h : F_X11_month w M a1 = some (r, M')) (hq : Q (some (.int r)) M') : z_Cl 4 mX11_month [.ref 2, .int a1] M Q := by
  refine g_in (ls := [some (.ref 2), some (.int a1)]) rfl ?_
  unfold F_X11_month at h
  refine g_iload_n dX11_month_0 rfl rfl ?_
  refine g_iconst (v := (1 : Int32)) dX11_month_1 (by decide) ?_
  refine g_ic_lt (t := 11) dX11_month_2 (by decide) (fun c1 => ?_) (fun c1 => ?_)
  · replace h := z_ift c1 h
    refine g_aload_n dX11_month_11 rfl rfl ?_
    refine g_iconst (v := (5 : Int32)) dX11_month_12 (by decide) ?_
    obtain ⟨q2, e3, h⟩ := z_bd h
    refine g_callV (a := 0) (as := [.int (5 : Int32)]) (rest := []) (c := mX11_refuse) (k1 := 0) dX11_month_13 rfl rfl rfl sh_0 rfl rfl (Nat.le_of_ble_eq_true rfl) (Nat.le_of_ble_eq_true rfl) (by decide) ?_
    refine A_X11_refuse e3 ?_
    show z_G none 4 mX11_month 16 [some (.ref 2), some (.int a1)] [.int q2.1] q2.2 Q
    cases h
    exact g_iret dX11_month_16 rfl rfl hq
  · replace h := z_iff c1 h
    refine g_iload_n dX11_month_5 rfl rfl ?_
    refine g_bipush (v := (99 : Int32)) dX11_month_6 (by decide) ?_
    refine g_ic_le (t := 17) dX11_month_8 (by decide) (fun c4 => ?_) (fun c4 => ?_)
    · replace h := z_ift c4 h
      refine g_aload_n dX11_month_17 rfl rfl ?_
      refine g_get (a := 0) (v := .ref 9) dX11_month_18 f_11_26 sh_0 rfl rfl ?_
      refine g_iload_n dX11_month_21 rfl rfl ?_
      obtain ⟨q5, e6, h⟩ := z_bd h
      refine g_callV (a := 7) (as := [.int a1]) (rest := []) (c := mX3_passMonths) (k1 := 3) dX11_month_22 rfl rfl rfl sh_7 rfl rfl (Nat.le_of_ble_eq_true rfl) (Nat.le_of_ble_eq_true rfl) (by decide) ?_
      refine A_X3_passMonths z_par_7 e6 ?_
      show z_G none 4 mX11_month 25 [some (.ref 2), some (.int a1)] [.int (z_tb q5.1)] q5.2 Q
      refine g_if_eq (t := 42) dX11_month_25 (by decide) (fun c7 => ?_) (fun c7 => ?_)
      · replace h := z_iff (z_tb0.mp c7) h
        refine g_aload_n dX11_month_42 rfl rfl ?_
        refine g_bipush (v := (7 : Int32)) dX11_month_43 (by decide) ?_
        obtain ⟨q8, e9, h⟩ := z_bd h
        refine g_callV (a := 0) (as := [.int (7 : Int32)]) (rest := []) (c := mX11_refuse) (k1 := 0) dX11_month_45 rfl rfl rfl sh_0 rfl rfl (Nat.le_of_ble_eq_true rfl) (Nat.le_of_ble_eq_true rfl) (by decide) ?_
        refine A_X11_refuse e9 ?_
        show z_G none 4 mX11_month 48 [some (.ref 2), some (.int a1)] [.int q8.1] q8.2 Q
        cases h
        exact g_iret dX11_month_48 rfl rfl hq
      · replace h := z_ift (z_tbn.mp c7) h
        refine g_aload_n dX11_month_28 rfl rfl ?_
        refine g_aload_n dX11_month_29 rfl rfl ?_
        refine g_get (a := 0) (v := .ref 9) dX11_month_30 f_11_26 sh_0 rfl rfl ?_
        obtain ⟨q10, e11, h⟩ := z_bd h
        refine g_callV (a := 7) (as := []) (rest := [.ref 2]) (c := mX3_bothChests) (k1 := 0) dX11_month_33 rfl rfl rfl sh_7 rfl rfl (Nat.le_of_ble_eq_true rfl) (Nat.le_of_ble_eq_true rfl) (by decide) ?_
        refine A_X3_bothChests z_par_7 e11 ?_
        show z_G none 4 mX11_month 36 [some (.ref 2), some (.int a1)] [.int q10.1, .ref 2] q10.2 Q
        obtain ⟨q12, e13, h⟩ := z_bd h
        refine g_callV (a := 0) (as := [.int q10.1]) (rest := []) (c := mX11_answer) (k1 := 0) dX11_month_36 rfl rfl rfl sh_0 rfl rfl (Nat.le_of_ble_eq_true rfl) (Nat.le_of_ble_eq_true rfl) (by decide) ?_
        refine A_X11_answer e13 ?_
        show z_G none 4 mX11_month 39 [some (.ref 2), some (.int a1)] [.int q12.1] q12.2 Q
        refine g_goto (t := 48) dX11_month_39 (by decide) ?_
        cases h
        exact g_iret dX11_month_48 rfl rfl hq
    · replace h := z_iff c4 h
      refine g_aload_n dX11_month_11 rfl rfl ?_
      refine g_iconst (v := (5 : Int32)) dX11_month_12 (by decide) ?_
      obtain ⟨q14, e15, h⟩ := z_bd h
      refine g_callV (a := 0) (as := [.int (5 : Int32)]) (rest := []) (c := mX11_refuse) (k1 := 0) dX11_month_13 rfl rfl rfl sh_0 rfl rfl (Nat.le_of_ble_eq_true rfl) (Nat.le_of_ble_eq_true rfl) (by decide) ?_
      refine A_X11_refuse e15 ?_
      show z_G none 4 mX11_month 16 [some (.ref 2), some (.int a1)] [.int q14.1] q14.2 Q
      cases h
      exact g_iret dX11_month_16 rfl rfl hq
theorem dX11_isWithin_0 : decode cX11_isWithin 0 = .ok (.iload_n 0, 1) := by decide +kernel
theorem dX11_isWithin_1 : decode cX11_isWithin 1 = .ok (.iload_n 1, 1) := by decide +kernel
theorem dX11_isWithin_2 : decode cX11_isWithin 2 = .ok (.if_icmp .lt 12, 3) := by decide +kernel
theorem dX11_isWithin_5 : decode cX11_isWithin 5 = .ok (.iload_n 0, 1) := by decide +kernel
theorem dX11_isWithin_6 : decode cX11_isWithin 6 = .ok (.iload_n 2, 1) := by decide +kernel
theorem dX11_isWithin_7 : decode cX11_isWithin 7 = .ok (.if_icmp .gt 7, 3) := by decide +kernel
theorem dX11_isWithin_10 : decode cX11_isWithin 10 = .ok (.iconst 1, 1) := by decide +kernel
theorem dX11_isWithin_11 : decode cX11_isWithin 11 = .ok (.goto 4, 3) := by decide +kernel
theorem dX11_isWithin_14 : decode cX11_isWithin 14 = .ok (.iconst 0, 1) := by decide +kernel
theorem dX11_isWithin_15 : decode cX11_isWithin 15 = .ok (.ireturn, 1) := by decide +kernel
def F_X11_isWithin (w : Nat) (M : z_Mem) (a0 : Int32) (a1 : Int32) (a2 : Int32) : Option (Bool × z_Mem) :=
  if a0 < a1 then
  some (false, M)
  else
  if a2 < a0 then
  some (false, M)
  else
  some (true, M)
set_option maxHeartbeats 4000000 in
theorem A_X11_isWithin {w : Nat} {M : z_Mem} {a0 : Int32} {a1 : Int32} {a2 : Int32} {r : Bool} {M' : z_Mem} {Q : Option Value → z_Mem → Prop} (h : F_X11_isWithin w M a0 a1 a2 = some (r, M')) (hq : Q (some (.int (z_tb r))) M') : z_Cl 0 mX11_isWithin [.int a0, .int a1, .int a2] M Q := by
  refine g_in (ls := [some (.int a0), some (.int a1), some (.int a2)]) rfl ?_
  unfold F_X11_isWithin at h
  refine g_iload_n dX11_isWithin_0 rfl rfl ?_
  refine g_iload_n dX11_isWithin_1 rfl rfl ?_
  refine g_ic_lt (t := 14) dX11_isWithin_2 (by decide) (fun c1 => ?_) (fun c1 => ?_)
  · replace h := z_ift c1 h
    refine g_iconst (v := (0 : Int32)) dX11_isWithin_14 (by decide) ?_
    cases h
    exact g_iret dX11_isWithin_15 rfl rfl hq
  · replace h := z_iff c1 h
    refine g_iload_n dX11_isWithin_5 rfl rfl ?_
    refine g_iload_n dX11_isWithin_6 rfl rfl ?_
    refine g_ic_gt (t := 14) dX11_isWithin_7 (by decide) (fun c2 => ?_) (fun c2 => ?_)
    · replace h := z_ift c2 h
      refine g_iconst (v := (0 : Int32)) dX11_isWithin_14 (by decide) ?_
      cases h
      exact g_iret dX11_isWithin_15 rfl rfl hq
    · replace h := z_iff c2 h
      refine g_iconst (v := (1 : Int32)) dX11_isWithin_10 (by decide) ?_
      refine g_goto (t := 15) dX11_isWithin_11 (by decide) ?_
      cases h
      exact g_iret dX11_isWithin_15 rfl rfl hq
theorem dX11_carry_0 : decode cX11_carry 0 = .ok (.iload_n 1, 1) := by decide +kernel
theorem dX11_carry_1 : decode cX11_carry 1 = .ok (.iconst 1, 1) := by decide +kernel
theorem dX11_carry_2 : decode cX11_carry 2 = .ok (.bipush 20, 2) := by decide +kernel
theorem dX11_carry_4 : decode cX11_carry 4 = .ok (.invokestatic 283, 3) := by decide +kernel
theorem dX11_carry_7 : decode cX11_carry 7 = .ok (.ifCond .eq 13, 3) := by decide +kernel
theorem dX11_carry_10 : decode cX11_carry 10 = .ok (.iload_n 2, 1) := by decide +kernel
theorem dX11_carry_11 : decode cX11_carry 11 = .ok (.iconst 1, 1) := by decide +kernel
theorem dX11_carry_12 : decode cX11_carry 12 = .ok (.bipush 20, 2) := by decide +kernel
theorem dX11_carry_14 : decode cX11_carry 14 = .ok (.invokestatic 283, 3) := by decide +kernel
theorem dX11_carry_17 : decode cX11_carry 17 = .ok (.ifCond .ne 9, 3) := by decide +kernel
theorem dX11_carry_20 : decode cX11_carry 20 = .ok (.aload_n 0, 1) := by decide +kernel
theorem dX11_carry_21 : decode cX11_carry 21 = .ok (.iconst 5, 1) := by decide +kernel
theorem dX11_carry_22 : decode cX11_carry 22 = .ok (.invokevirtual 113, 3) := by decide +kernel
theorem dX11_carry_25 : decode cX11_carry 25 = .ok (.ireturn, 1) := by decide +kernel
theorem dX11_carry_26 : decode cX11_carry 26 = .ok (.aload_n 0, 1) := by decide +kernel
theorem dX11_carry_27 : decode cX11_carry 27 = .ok (.getfield 26, 3) := by decide +kernel
theorem dX11_carry_30 : decode cX11_carry 30 = .ok (.iload_n 1, 1) := by decide +kernel
theorem dX11_carry_31 : decode cX11_carry 31 = .ok (.iload_n 2, 1) := by decide +kernel
theorem dX11_carry_32 : decode cX11_carry 32 = .ok (.invokevirtual 286, 3) := by decide +kernel
theorem dX11_carry_35 : decode cX11_carry 35 = .ok (.ifCond .eq 17, 3) := by decide +kernel
theorem dX11_carry_38 : decode cX11_carry 38 = .ok (.aload_n 0, 1) := by decide +kernel
theorem dX11_carry_39 : decode cX11_carry 39 = .ok (.aload_n 0, 1) := by decide +kernel
theorem dX11_carry_40 : decode cX11_carry 40 = .ok (.getfield 26, 3) := by decide +kernel
theorem dX11_carry_43 : decode cX11_carry 43 = .ok (.getfield 214, 3) := by decide +kernel
theorem dX11_carry_46 : decode cX11_carry 46 = .ok (.invokevirtual 164, 3) := by decide +kernel
theorem dX11_carry_49 : decode cX11_carry 49 = .ok (.goto 9, 3) := by decide +kernel
theorem dX11_carry_52 : decode cX11_carry 52 = .ok (.aload_n 0, 1) := by decide +kernel
theorem dX11_carry_53 : decode cX11_carry 53 = .ok (.bipush 9, 2) := by decide +kernel
theorem dX11_carry_55 : decode cX11_carry 55 = .ok (.invokevirtual 113, 3) := by decide +kernel
theorem dX11_carry_58 : decode cX11_carry 58 = .ok (.ireturn, 1) := by decide +kernel
def F_X11_carry (w : Nat) (M : z_Mem) (a1 : Int32) (a2 : Int32) : Option (Int32 × z_Mem) :=
  (F_X11_isWithin w M a1 (1 : Int32) (20 : Int32)).bind fun q1 =>
  if q1.1 = true then
  (F_X11_isWithin w q1.2 a2 (1 : Int32) (20 : Int32)).bind fun q6 =>
  if q6.1 = true then
  (F_X3_carryBy w q6.2 7 a1 a2).bind fun q9 =>
  if q9.1 = true then
  (F_X11_answer w q9.2 (q9.2.1 7 8)).bind fun q14 =>
  some (q14.1, q14.2)
  else
  (F_X11_refuse w q9.2 (9 : Int32)).bind fun q12 =>
  some (q12.1, q12.2)
  else
  (F_X11_refuse w q6.2 (5 : Int32)).bind fun q16 =>
  some (q16.1, q16.2)
  else
  (F_X11_refuse w q1.2 (5 : Int32)).bind fun q4 =>
  some (q4.1, q4.2)
set_option maxHeartbeats 4000000 in
theorem A_X11_carry {w : Nat} {M : z_Mem} {a1 : Int32} {a2 : Int32} {r : Int32} {M' : z_Mem} {Q : Option Value → z_Mem → Prop} (h : F_X11_carry w M a1 a2 = some (r, M')) (hq : Q (some (.int r)) M') : z_Cl 2 mX11_carry [.ref 2, .int a1, .int a2] M Q := by
  refine g_in (ls := [some (.ref 2), some (.int a1), some (.int a2)]) rfl ?_
  unfold F_X11_carry at h
  refine g_iload_n dX11_carry_0 rfl rfl ?_
  refine g_iconst (v := (1 : Int32)) dX11_carry_1 (by decide) ?_
  refine g_bipush (v := (20 : Int32)) dX11_carry_2 (by decide) ?_
  obtain ⟨q1, e2, h⟩ := z_bd h
  refine g_callS (as := [.int a1, .int (1 : Int32), .int (20 : Int32)]) (rest := []) (c := mX11_isWithin) (k1 := 0) dX11_carry_4 rfl rfl rfl rfl rfl (Nat.le_of_ble_eq_true rfl) (Nat.le_of_ble_eq_true rfl) (by decide) ?_
  refine A_X11_isWithin e2 ?_
  show z_G none 2 mX11_carry 7 [some (.ref 2), some (.int a1), some (.int a2)] [.int (z_tb q1.1)] q1.2 Q
  refine g_if_eq (t := 20) dX11_carry_7 (by decide) (fun c3 => ?_) (fun c3 => ?_)
  · replace h := z_iff (z_tb0.mp c3) h
    refine g_aload_n dX11_carry_20 rfl rfl ?_
    refine g_iconst (v := (5 : Int32)) dX11_carry_21 (by decide) ?_
    obtain ⟨q4, e5, h⟩ := z_bd h
    refine g_callV (a := 0) (as := [.int (5 : Int32)]) (rest := []) (c := mX11_refuse) (k1 := 0) dX11_carry_22 rfl rfl rfl sh_0 rfl rfl (Nat.le_of_ble_eq_true rfl) (Nat.le_of_ble_eq_true rfl) (by decide) ?_
    refine A_X11_refuse e5 ?_
    show z_G none 2 mX11_carry 25 [some (.ref 2), some (.int a1), some (.int a2)] [.int q4.1] q4.2 Q
    cases h
    exact g_iret dX11_carry_25 rfl rfl hq
  · replace h := z_ift (z_tbn.mp c3) h
    refine g_iload_n dX11_carry_10 rfl rfl ?_
    refine g_iconst (v := (1 : Int32)) dX11_carry_11 (by decide) ?_
    refine g_bipush (v := (20 : Int32)) dX11_carry_12 (by decide) ?_
    obtain ⟨q6, e7, h⟩ := z_bd h
    refine g_callS (as := [.int a2, .int (1 : Int32), .int (20 : Int32)]) (rest := []) (c := mX11_isWithin) (k1 := 0) dX11_carry_14 rfl rfl rfl rfl rfl (Nat.le_of_ble_eq_true rfl) (Nat.le_of_ble_eq_true rfl) (by decide) ?_
    refine A_X11_isWithin e7 ?_
    show z_G none 2 mX11_carry 17 [some (.ref 2), some (.int a1), some (.int a2)] [.int (z_tb q6.1)] q6.2 Q
    refine g_if_ne (t := 26) dX11_carry_17 (by decide) (fun c8 => ?_) (fun c8 => ?_)
    · replace h := z_ift (z_tbn.mp c8) h
      refine g_aload_n dX11_carry_26 rfl rfl ?_
      refine g_get (a := 0) (v := .ref 9) dX11_carry_27 f_11_26 sh_0 rfl rfl ?_
      refine g_iload_n dX11_carry_30 rfl rfl ?_
      refine g_iload_n dX11_carry_31 rfl rfl ?_
      obtain ⟨q9, e10, h⟩ := z_bd h
      refine g_callV (a := 7) (as := [.int a1, .int a2]) (rest := []) (c := mX3_carryBy) (k1 := 1) dX11_carry_32 rfl rfl rfl sh_7 rfl rfl (Nat.le_of_ble_eq_true rfl) (Nat.le_of_ble_eq_true rfl) (by decide) ?_
      refine A_X3_carryBy z_par_7 e10 ?_
      show z_G none 2 mX11_carry 35 [some (.ref 2), some (.int a1), some (.int a2)] [.int (z_tb q9.1)] q9.2 Q
      refine g_if_eq (t := 52) dX11_carry_35 (by decide) (fun c11 => ?_) (fun c11 => ?_)
      · replace h := z_iff (z_tb0.mp c11) h
        refine g_aload_n dX11_carry_52 rfl rfl ?_
        refine g_bipush (v := (9 : Int32)) dX11_carry_53 (by decide) ?_
        obtain ⟨q12, e13, h⟩ := z_bd h
        refine g_callV (a := 0) (as := [.int (9 : Int32)]) (rest := []) (c := mX11_refuse) (k1 := 0) dX11_carry_55 rfl rfl rfl sh_0 rfl rfl (Nat.le_of_ble_eq_true rfl) (Nat.le_of_ble_eq_true rfl) (by decide) ?_
        refine A_X11_refuse e13 ?_
        show z_G none 2 mX11_carry 58 [some (.ref 2), some (.int a1), some (.int a2)] [.int q12.1] q12.2 Q
        cases h
        exact g_iret dX11_carry_58 rfl rfl hq
      · replace h := z_ift (z_tbn.mp c11) h
        refine g_aload_n dX11_carry_38 rfl rfl ?_
        refine g_aload_n dX11_carry_39 rfl rfl ?_
        refine g_get (a := 0) (v := .ref 9) dX11_carry_40 f_11_26 sh_0 rfl rfl ?_
        refine g_get (a := 7) (v := .int (q9.2.1 7 8)) dX11_carry_43 f_11_214 sh_7 rfl rfl ?_
        obtain ⟨q14, e15, h⟩ := z_bd h
        refine g_callV (a := 0) (as := [.int (q9.2.1 7 8)]) (rest := []) (c := mX11_answer) (k1 := 0) dX11_carry_46 rfl rfl rfl sh_0 rfl rfl (Nat.le_of_ble_eq_true rfl) (Nat.le_of_ble_eq_true rfl) (by decide) ?_
        refine A_X11_answer e15 ?_
        show z_G none 2 mX11_carry 49 [some (.ref 2), some (.int a1), some (.int a2)] [.int q14.1] q14.2 Q
        refine g_goto (t := 58) dX11_carry_49 (by decide) ?_
        cases h
        exact g_iret dX11_carry_58 rfl rfl hq
    · replace h := z_iff (z_tb0.mp c8) h
      refine g_aload_n dX11_carry_20 rfl rfl ?_
      refine g_iconst (v := (5 : Int32)) dX11_carry_21 (by decide) ?_
      obtain ⟨q16, e17, h⟩ := z_bd h
      refine g_callV (a := 0) (as := [.int (5 : Int32)]) (rest := []) (c := mX11_refuse) (k1 := 0) dX11_carry_22 rfl rfl rfl sh_0 rfl rfl (Nat.le_of_ble_eq_true rfl) (Nat.le_of_ble_eq_true rfl) (by decide) ?_
      refine A_X11_refuse e17 ?_
      show z_G none 2 mX11_carry 25 [some (.ref 2), some (.int a1), some (.int a2)] [.int q16.1] q16.2 Q
      cases h
      exact g_iret dX11_carry_25 rfl rfl hq
theorem dX11_swear_0 : decode cX11_swear 0 = .ok (.iload_n 1, 1) := by decide +kernel
theorem dX11_swear_1 : decode cX11_swear 1 = .ok (.invokestatic 226, 3) := by decide +kernel
theorem dX11_swear_4 : decode cX11_swear 4 = .ok (.ifCond .ne 9, 3) := by decide +kernel
theorem dX11_swear_7 : decode cX11_swear 7 = .ok (.aload_n 0, 1) := by decide +kernel
theorem dX11_swear_8 : decode cX11_swear 8 = .ok (.iconst 2, 1) := by decide +kernel
theorem dX11_swear_9 : decode cX11_swear 9 = .ok (.invokevirtual 113, 3) := by decide +kernel
theorem dX11_swear_12 : decode cX11_swear 12 = .ok (.ireturn, 1) := by decide +kernel
theorem dX11_swear_13 : decode cX11_swear 13 = .ok (.iload_n 2, 1) := by decide +kernel
theorem dX11_swear_14 : decode cX11_swear 14 = .ok (.iconst 1, 1) := by decide +kernel
theorem dX11_swear_15 : decode cX11_swear 15 = .ok (.bipush 99, 2) := by decide +kernel
theorem dX11_swear_17 : decode cX11_swear 17 = .ok (.invokestatic 283, 3) := by decide +kernel
theorem dX11_swear_20 : decode cX11_swear 20 = .ok (.ifCond .eq 13, 3) := by decide +kernel
theorem dX11_swear_23 : decode cX11_swear 23 = .ok (.iload_n 3, 1) := by decide +kernel
theorem dX11_swear_24 : decode cX11_swear 24 = .ok (.iconst 1, 1) := by decide +kernel
theorem dX11_swear_25 : decode cX11_swear 25 = .ok (.bipush 24, 2) := by decide +kernel
theorem dX11_swear_27 : decode cX11_swear 27 = .ok (.invokestatic 283, 3) := by decide +kernel
theorem dX11_swear_30 : decode cX11_swear 30 = .ok (.ifCond .ne 9, 3) := by decide +kernel
theorem dX11_swear_33 : decode cX11_swear 33 = .ok (.aload_n 0, 1) := by decide +kernel
theorem dX11_swear_34 : decode cX11_swear 34 = .ok (.iconst 5, 1) := by decide +kernel
theorem dX11_swear_35 : decode cX11_swear 35 = .ok (.invokevirtual 113, 3) := by decide +kernel
theorem dX11_swear_38 : decode cX11_swear 38 = .ok (.ireturn, 1) := by decide +kernel
theorem dX11_swear_39 : decode cX11_swear 39 = .ok (.aload_n 0, 1) := by decide +kernel
theorem dX11_swear_40 : decode cX11_swear 40 = .ok (.getfield 26, 3) := by decide +kernel
theorem dX11_swear_43 : decode cX11_swear 43 = .ok (.getfield 183, 3) := by decide +kernel
theorem dX11_swear_46 : decode cX11_swear 46 = .ok (.iload_n 1, 1) := by decide +kernel
theorem dX11_swear_47 : decode cX11_swear 47 = .ok (.iload_n 2, 1) := by decide +kernel
theorem dX11_swear_48 : decode cX11_swear 48 = .ok (.iload_n 3, 1) := by decide +kernel
theorem dX11_swear_49 : decode cX11_swear 49 = .ok (.invokevirtual 290, 3) := by decide +kernel
theorem dX11_swear_52 : decode cX11_swear 52 = .ok (.ifCond .eq 20, 3) := by decide +kernel
theorem dX11_swear_55 : decode cX11_swear 55 = .ok (.aload_n 0, 1) := by decide +kernel
theorem dX11_swear_56 : decode cX11_swear 56 = .ok (.aload_n 0, 1) := by decide +kernel
theorem dX11_swear_57 : decode cX11_swear 57 = .ok (.getfield 26, 3) := by decide +kernel
theorem dX11_swear_60 : decode cX11_swear 60 = .ok (.getfield 183, 3) := by decide +kernel
theorem dX11_swear_63 : decode cX11_swear 63 = .ok (.getfield 187, 3) := by decide +kernel
theorem dX11_swear_66 : decode cX11_swear 66 = .ok (.invokevirtual 164, 3) := by decide +kernel
theorem dX11_swear_69 : decode cX11_swear 69 = .ok (.goto 9, 3) := by decide +kernel
theorem dX11_swear_72 : decode cX11_swear 72 = .ok (.aload_n 0, 1) := by decide +kernel
theorem dX11_swear_73 : decode cX11_swear 73 = .ok (.bipush 7, 2) := by decide +kernel
theorem dX11_swear_75 : decode cX11_swear 75 = .ok (.invokevirtual 113, 3) := by decide +kernel
theorem dX11_swear_78 : decode cX11_swear 78 = .ok (.ireturn, 1) := by decide +kernel
def F_X11_swear (w : Nat) (M : z_Mem) (a1 : Int32) (a2 : Int32) (a3 : Int32) : Option (Int32 × z_Mem) :=
  (F_X11_isSide w M a1).bind fun q1 =>
  if q1.1 = true then
  (F_X11_isWithin w q1.2 a2 (1 : Int32) (99 : Int32)).bind fun q4 =>
  if q4.1 = true then
  (F_X11_isWithin w q4.2 a3 (1 : Int32) (24 : Int32)).bind fun q9 =>
  if q9.1 = true then
  (F_X1_add w q9.2 7 a1 a2 a3).bind fun q12 =>
  if q12.1 = true then
  (F_X11_answer w q12.2 (q12.2.1 15 3)).bind fun q17 =>
  some (q17.1, q17.2)
  else
  (F_X11_refuse w q12.2 (7 : Int32)).bind fun q15 =>
  some (q15.1, q15.2)
  else
  (F_X11_refuse w q9.2 (5 : Int32)).bind fun q19 =>
  some (q19.1, q19.2)
  else
  (F_X11_refuse w q4.2 (5 : Int32)).bind fun q7 =>
  some (q7.1, q7.2)
  else
  (F_X11_refuse w q1.2 (2 : Int32)).bind fun q21 =>
  some (q21.1, q21.2)
set_option maxHeartbeats 4000000 in
theorem A_X11_swear {w : Nat} {M : z_Mem} {a1 : Int32} {a2 : Int32} {a3 : Int32} {r : Int32} {M' : z_Mem} {Q : Option Value → z_Mem → Prop} (h : F_X11_swear w M a1 a2 a3 = some (r, M')) (hq : Q (some (.int r)) M') : z_Cl 1 mX11_swear [.ref 2, .int a1, .int a2, .int a3] M Q := by
  refine g_in (ls := [some (.ref 2), some (.int a1), some (.int a2), some (.int a3)]) rfl ?_
  unfold F_X11_swear at h
  refine g_iload_n dX11_swear_0 rfl rfl ?_
  obtain ⟨q1, e2, h⟩ := z_bd h
  refine g_callS (as := [.int a1]) (rest := []) (c := mX11_isSide) (k1 := 0) dX11_swear_1 rfl rfl rfl rfl rfl (Nat.le_of_ble_eq_true rfl) (Nat.le_of_ble_eq_true rfl) (by decide) ?_
  refine A_X11_isSide e2 ?_
  show z_G none 1 mX11_swear 4 [some (.ref 2), some (.int a1), some (.int a2), some (.int a3)] [.int (z_tb q1.1)] q1.2 Q
  refine g_if_ne (t := 13) dX11_swear_4 (by decide) (fun c3 => ?_) (fun c3 => ?_)
  · replace h := z_ift (z_tbn.mp c3) h
    refine g_iload_n dX11_swear_13 rfl rfl ?_
    refine g_iconst (v := (1 : Int32)) dX11_swear_14 (by decide) ?_
    refine g_bipush (v := (99 : Int32)) dX11_swear_15 (by decide) ?_
    obtain ⟨q4, e5, h⟩ := z_bd h
    refine g_callS (as := [.int a2, .int (1 : Int32), .int (99 : Int32)]) (rest := []) (c := mX11_isWithin) (k1 := 0) dX11_swear_17 rfl rfl rfl rfl rfl (Nat.le_of_ble_eq_true rfl) (Nat.le_of_ble_eq_true rfl) (by decide) ?_
    refine A_X11_isWithin e5 ?_
    show z_G none 1 mX11_swear 20 [some (.ref 2), some (.int a1), some (.int a2), some (.int a3)] [.int (z_tb q4.1)] q4.2 Q
    refine g_if_eq (t := 33) dX11_swear_20 (by decide) (fun c6 => ?_) (fun c6 => ?_)
    · replace h := z_iff (z_tb0.mp c6) h
      refine g_aload_n dX11_swear_33 rfl rfl ?_
      refine g_iconst (v := (5 : Int32)) dX11_swear_34 (by decide) ?_
      obtain ⟨q7, e8, h⟩ := z_bd h
      refine g_callV (a := 0) (as := [.int (5 : Int32)]) (rest := []) (c := mX11_refuse) (k1 := 0) dX11_swear_35 rfl rfl rfl sh_0 rfl rfl (Nat.le_of_ble_eq_true rfl) (Nat.le_of_ble_eq_true rfl) (by decide) ?_
      refine A_X11_refuse e8 ?_
      show z_G none 1 mX11_swear 38 [some (.ref 2), some (.int a1), some (.int a2), some (.int a3)] [.int q7.1] q7.2 Q
      cases h
      exact g_iret dX11_swear_38 rfl rfl hq
    · replace h := z_ift (z_tbn.mp c6) h
      refine g_iload_n dX11_swear_23 rfl rfl ?_
      refine g_iconst (v := (1 : Int32)) dX11_swear_24 (by decide) ?_
      refine g_bipush (v := (24 : Int32)) dX11_swear_25 (by decide) ?_
      obtain ⟨q9, e10, h⟩ := z_bd h
      refine g_callS (as := [.int a3, .int (1 : Int32), .int (24 : Int32)]) (rest := []) (c := mX11_isWithin) (k1 := 0) dX11_swear_27 rfl rfl rfl rfl rfl (Nat.le_of_ble_eq_true rfl) (Nat.le_of_ble_eq_true rfl) (by decide) ?_
      refine A_X11_isWithin e10 ?_
      show z_G none 1 mX11_swear 30 [some (.ref 2), some (.int a1), some (.int a2), some (.int a3)] [.int (z_tb q9.1)] q9.2 Q
      refine g_if_ne (t := 39) dX11_swear_30 (by decide) (fun c11 => ?_) (fun c11 => ?_)
      · replace h := z_ift (z_tbn.mp c11) h
        refine g_aload_n dX11_swear_39 rfl rfl ?_
        refine g_get (a := 0) (v := .ref 9) dX11_swear_40 f_11_26 sh_0 rfl rfl ?_
        refine g_get (a := 7) (v := .ref 17) dX11_swear_43 f_11_183 sh_7 rfl rfl ?_
        refine g_iload_n dX11_swear_46 rfl rfl ?_
        refine g_iload_n dX11_swear_47 rfl rfl ?_
        refine g_iload_n dX11_swear_48 rfl rfl ?_
        obtain ⟨q12, e13, h⟩ := z_bd h
        refine g_callV (a := 15) (as := [.int a1, .int a2, .int a3]) (rest := []) (c := mX1_add) (k1 := 0) dX11_swear_49 rfl rfl rfl sh_15 rfl rfl (Nat.le_of_ble_eq_true rfl) (Nat.le_of_ble_eq_true rfl) (by decide) ?_
        refine A_X1_add z_par_7 e13 ?_
        show z_G none 1 mX11_swear 52 [some (.ref 2), some (.int a1), some (.int a2), some (.int a3)] [.int (z_tb q12.1)] q12.2 Q
        refine g_if_eq (t := 72) dX11_swear_52 (by decide) (fun c14 => ?_) (fun c14 => ?_)
        · replace h := z_iff (z_tb0.mp c14) h
          refine g_aload_n dX11_swear_72 rfl rfl ?_
          refine g_bipush (v := (7 : Int32)) dX11_swear_73 (by decide) ?_
          obtain ⟨q15, e16, h⟩ := z_bd h
          refine g_callV (a := 0) (as := [.int (7 : Int32)]) (rest := []) (c := mX11_refuse) (k1 := 0) dX11_swear_75 rfl rfl rfl sh_0 rfl rfl (Nat.le_of_ble_eq_true rfl) (Nat.le_of_ble_eq_true rfl) (by decide) ?_
          refine A_X11_refuse e16 ?_
          show z_G none 1 mX11_swear 78 [some (.ref 2), some (.int a1), some (.int a2), some (.int a3)] [.int q15.1] q15.2 Q
          cases h
          exact g_iret dX11_swear_78 rfl rfl hq
        · replace h := z_ift (z_tbn.mp c14) h
          refine g_aload_n dX11_swear_55 rfl rfl ?_
          refine g_aload_n dX11_swear_56 rfl rfl ?_
          refine g_get (a := 0) (v := .ref 9) dX11_swear_57 f_11_26 sh_0 rfl rfl ?_
          refine g_get (a := 7) (v := .ref 17) dX11_swear_60 f_11_183 sh_7 rfl rfl ?_
          refine g_get (a := 15) (v := .int (q12.2.1 15 3)) dX11_swear_63 f_11_187 sh_15 rfl rfl ?_
          obtain ⟨q17, e18, h⟩ := z_bd h
          refine g_callV (a := 0) (as := [.int (q12.2.1 15 3)]) (rest := []) (c := mX11_answer) (k1 := 0) dX11_swear_66 rfl rfl rfl sh_0 rfl rfl (Nat.le_of_ble_eq_true rfl) (Nat.le_of_ble_eq_true rfl) (by decide) ?_
          refine A_X11_answer e18 ?_
          show z_G none 1 mX11_swear 69 [some (.ref 2), some (.int a1), some (.int a2), some (.int a3)] [.int q17.1] q17.2 Q
          refine g_goto (t := 78) dX11_swear_69 (by decide) ?_
          cases h
          exact g_iret dX11_swear_78 rfl rfl hq
      · replace h := z_iff (z_tb0.mp c11) h
        refine g_aload_n dX11_swear_33 rfl rfl ?_
        refine g_iconst (v := (5 : Int32)) dX11_swear_34 (by decide) ?_
        obtain ⟨q19, e20, h⟩ := z_bd h
        refine g_callV (a := 0) (as := [.int (5 : Int32)]) (rest := []) (c := mX11_refuse) (k1 := 0) dX11_swear_35 rfl rfl rfl sh_0 rfl rfl (Nat.le_of_ble_eq_true rfl) (Nat.le_of_ble_eq_true rfl) (by decide) ?_
        refine A_X11_refuse e20 ?_
        show z_G none 1 mX11_swear 38 [some (.ref 2), some (.int a1), some (.int a2), some (.int a3)] [.int q19.1] q19.2 Q
        cases h
        exact g_iret dX11_swear_38 rfl rfl hq
  · replace h := z_iff (z_tb0.mp c3) h
    refine g_aload_n dX11_swear_7 rfl rfl ?_
    refine g_iconst (v := (2 : Int32)) dX11_swear_8 (by decide) ?_
    obtain ⟨q21, e22, h⟩ := z_bd h
    refine g_callV (a := 0) (as := [.int (2 : Int32)]) (rest := []) (c := mX11_refuse) (k1 := 0) dX11_swear_9 rfl rfl rfl sh_0 rfl rfl (Nat.le_of_ble_eq_true rfl) (Nat.le_of_ble_eq_true rfl) (by decide) ?_
    refine A_X11_refuse e22 ?_
    show z_G none 1 mX11_swear 12 [some (.ref 2), some (.int a1), some (.int a2), some (.int a3)] [.int q21.1] q21.2 Q
    cases h
    exact g_iret dX11_swear_12 rfl rfl hq
theorem dX11_pay_0 : decode cX11_pay 0 = .ok (.aload_n 0, 1) := by decide +kernel
theorem dX11_pay_1 : decode cX11_pay 1 = .ok (.getfield 26, 3) := by decide +kernel
theorem dX11_pay_4 : decode cX11_pay 4 = .ok (.getfield 183, 3) := by decide +kernel
theorem dX11_pay_7 : decode cX11_pay 7 = .ok (.iload_n 1, 1) := by decide +kernel
theorem dX11_pay_8 : decode cX11_pay 8 = .ok (.invokevirtual 250, 3) := by decide +kernel
theorem dX11_pay_11 : decode cX11_pay 11 = .ok (.ifCond .ne 9, 3) := by decide +kernel
theorem dX11_pay_14 : decode cX11_pay 14 = .ok (.aload_n 0, 1) := by decide +kernel
theorem dX11_pay_15 : decode cX11_pay 15 = .ok (.iconst 2, 1) := by decide +kernel
theorem dX11_pay_16 : decode cX11_pay 16 = .ok (.invokevirtual 113, 3) := by decide +kernel
theorem dX11_pay_19 : decode cX11_pay 19 = .ok (.ireturn, 1) := by decide +kernel
theorem dX11_pay_20 : decode cX11_pay 20 = .ok (.aload_n 0, 1) := by decide +kernel
theorem dX11_pay_21 : decode cX11_pay 21 = .ok (.getfield 26, 3) := by decide +kernel
theorem dX11_pay_24 : decode cX11_pay 24 = .ok (.getfield 183, 3) := by decide +kernel
theorem dX11_pay_27 : decode cX11_pay 27 = .ok (.getfield 251, 3) := by decide +kernel
theorem dX11_pay_30 : decode cX11_pay 30 = .ok (.iload_n 1, 1) := by decide +kernel
theorem dX11_pay_31 : decode cX11_pay 31 = .ok (.iaload, 1) := by decide +kernel
theorem dX11_pay_32 : decode cX11_pay 32 = .ok (.istore_n 2, 1) := by decide +kernel
theorem dX11_pay_33 : decode cX11_pay 33 = .ok (.aload_n 0, 1) := by decide +kernel
theorem dX11_pay_34 : decode cX11_pay 34 = .ok (.getfield 26, 3) := by decide +kernel
theorem dX11_pay_37 : decode cX11_pay 37 = .ok (.iload_n 1, 1) := by decide +kernel
theorem dX11_pay_38 : decode cX11_pay 38 = .ok (.invokevirtual 293, 3) := by decide +kernel
theorem dX11_pay_41 : decode cX11_pay 41 = .ok (.ifCond .eq 19, 3) := by decide +kernel
theorem dX11_pay_44 : decode cX11_pay 44 = .ok (.aload_n 0, 1) := by decide +kernel
theorem dX11_pay_45 : decode cX11_pay 45 = .ok (.aload_n 0, 1) := by decide +kernel
theorem dX11_pay_46 : decode cX11_pay 46 = .ok (.getfield 26, 3) := by decide +kernel
theorem dX11_pay_49 : decode cX11_pay 49 = .ok (.getfield 229, 3) := by decide +kernel
theorem dX11_pay_52 : decode cX11_pay 52 = .ok (.iload_n 2, 1) := by decide +kernel
theorem dX11_pay_53 : decode cX11_pay 53 = .ok (.iaload, 1) := by decide +kernel
theorem dX11_pay_54 : decode cX11_pay 54 = .ok (.invokevirtual 164, 3) := by decide +kernel
theorem dX11_pay_57 : decode cX11_pay 57 = .ok (.goto 9, 3) := by decide +kernel
theorem dX11_pay_60 : decode cX11_pay 60 = .ok (.aload_n 0, 1) := by decide +kernel
theorem dX11_pay_61 : decode cX11_pay 61 = .ok (.bipush 9, 2) := by decide +kernel
theorem dX11_pay_63 : decode cX11_pay 63 = .ok (.invokevirtual 113, 3) := by decide +kernel
theorem dX11_pay_66 : decode cX11_pay 66 = .ok (.ireturn, 1) := by decide +kernel
def F_X11_pay (w : Nat) (M : z_Mem) (a1 : Int32) : Option (Int32 × z_Mem) :=
  (F_X1_isThere w M 7 a1).bind fun q1 =>
  if q1.1 = true then
  if a1 < 0 ∨ 5 ≤ a1.toNatClampNeg then none else
  (F_X3_payDebt w q1.2 7 a1).bind fun q5 =>
  if q5.1 = true then
  if (q1.2.1 16 a1.toNatClampNeg) < 0 ∨ 2 ≤ (q1.2.1 16 a1.toNatClampNeg).toNatClampNeg then none else
  (F_X11_answer w q5.2 (q5.2.1 8 (q1.2.1 16 a1.toNatClampNeg).toNatClampNeg)).bind fun q11 =>
  some (q11.1, q11.2)
  else
  (F_X11_refuse w q5.2 (9 : Int32)).bind fun q8 =>
  some (q8.1, q8.2)
  else
  (F_X11_refuse w q1.2 (2 : Int32)).bind fun q13 =>
  some (q13.1, q13.2)
set_option maxHeartbeats 4000000 in
theorem A_X11_pay {w : Nat} {M : z_Mem} {a1 : Int32} {r : Int32} {M' : z_Mem} {Q : Option Value → z_Mem → Prop} (h : F_X11_pay w M a1 = some (r, M')) (hq : Q (some (.int r)) M') : z_Cl 3 mX11_pay [.ref 2, .int a1] M Q := by
  refine g_in (ls := [some (.ref 2), some (.int a1), none]) rfl ?_
  unfold F_X11_pay at h
  refine g_aload_n dX11_pay_0 rfl rfl ?_
  refine g_get (a := 0) (v := .ref 9) dX11_pay_1 f_11_26 sh_0 rfl rfl ?_
  refine g_get (a := 7) (v := .ref 17) dX11_pay_4 f_11_183 sh_7 rfl rfl ?_
  refine g_iload_n dX11_pay_7 rfl rfl ?_
  obtain ⟨q1, e2, h⟩ := z_bd h
  refine g_callV (a := 15) (as := [.int a1]) (rest := []) (c := mX1_isThere) (k1 := 0) dX11_pay_8 rfl rfl rfl sh_15 rfl rfl (Nat.le_of_ble_eq_true rfl) (Nat.le_of_ble_eq_true rfl) (by decide) ?_
  refine A_X1_isThere z_par_7 e2 ?_
  show z_G none 3 mX11_pay 11 [some (.ref 2), some (.int a1), none] [.int (z_tb q1.1)] q1.2 Q
  refine g_if_ne (t := 20) dX11_pay_11 (by decide) (fun c3 => ?_) (fun c3 => ?_)
  · replace h := z_ift (z_tbn.mp c3) h
    refine g_aload_n dX11_pay_20 rfl rfl ?_
    refine g_get (a := 0) (v := .ref 9) dX11_pay_21 f_11_26 sh_0 rfl rfl ?_
    refine g_get (a := 7) (v := .ref 17) dX11_pay_24 f_11_183 sh_7 rfl rfl ?_
    refine g_get (a := 15) (v := .ref 18) dX11_pay_27 f_11_251 sh_15 rfl rfl ?_
    refine g_iload_n dX11_pay_30 rfl rfl ?_
    by_cases g4 : a1 < 0 ∨ 5 ≤ a1.toNatClampNeg
    · rw [if_pos g4] at h; cases h
    replace h := z_iff g4 h
    refine g_iald (a := 16) dX11_pay_31 sh_16 g4 ?_
    refine g_istore_n (ls' := [some (.ref 2), some (.int a1), some (.int (q1.2.1 16 a1.toNatClampNeg))]) dX11_pay_32 rfl (Nat.le_of_ble_eq_true rfl) rfl ?_
    refine g_aload_n dX11_pay_33 rfl rfl ?_
    refine g_get (a := 0) (v := .ref 9) dX11_pay_34 f_11_26 sh_0 rfl rfl ?_
    refine g_iload_n dX11_pay_37 rfl rfl ?_
    obtain ⟨q5, e6, h⟩ := z_bd h
    refine g_callV (a := 7) (as := [.int a1]) (rest := []) (c := mX3_payDebt) (k1 := 2) dX11_pay_38 rfl rfl rfl sh_7 rfl rfl (Nat.le_of_ble_eq_true rfl) (Nat.le_of_ble_eq_true rfl) (by decide) ?_
    refine A_X3_payDebt z_par_7 e6 ?_
    show z_G none 3 mX11_pay 41 [some (.ref 2), some (.int a1), some (.int (q1.2.1 16 a1.toNatClampNeg))] [.int (z_tb q5.1)] q5.2 Q
    refine g_if_eq (t := 60) dX11_pay_41 (by decide) (fun c7 => ?_) (fun c7 => ?_)
    · replace h := z_iff (z_tb0.mp c7) h
      refine g_aload_n dX11_pay_60 rfl rfl ?_
      refine g_bipush (v := (9 : Int32)) dX11_pay_61 (by decide) ?_
      obtain ⟨q8, e9, h⟩ := z_bd h
      refine g_callV (a := 0) (as := [.int (9 : Int32)]) (rest := []) (c := mX11_refuse) (k1 := 0) dX11_pay_63 rfl rfl rfl sh_0 rfl rfl (Nat.le_of_ble_eq_true rfl) (Nat.le_of_ble_eq_true rfl) (by decide) ?_
      refine A_X11_refuse e9 ?_
      show z_G none 3 mX11_pay 66 [some (.ref 2), some (.int a1), some (.int (q1.2.1 16 a1.toNatClampNeg))] [.int q8.1] q8.2 Q
      cases h
      exact g_iret dX11_pay_66 rfl rfl hq
    · replace h := z_ift (z_tbn.mp c7) h
      refine g_aload_n dX11_pay_44 rfl rfl ?_
      refine g_aload_n dX11_pay_45 rfl rfl ?_
      refine g_get (a := 0) (v := .ref 9) dX11_pay_46 f_11_26 sh_0 rfl rfl ?_
      refine g_get (a := 7) (v := .ref 10) dX11_pay_49 f_11_229 sh_7 rfl rfl ?_
      refine g_iload_n dX11_pay_52 rfl rfl ?_
      by_cases g10 : (q1.2.1 16 a1.toNatClampNeg) < 0 ∨ 2 ≤ (q1.2.1 16 a1.toNatClampNeg).toNatClampNeg
      · rw [if_pos g10] at h; cases h
      replace h := z_iff g10 h
      refine g_iald (a := 8) dX11_pay_53 sh_8 g10 ?_
      obtain ⟨q11, e12, h⟩ := z_bd h
      refine g_callV (a := 0) (as := [.int (q5.2.1 8 (q1.2.1 16 a1.toNatClampNeg).toNatClampNeg)]) (rest := []) (c := mX11_answer) (k1 := 0) dX11_pay_54 rfl rfl rfl sh_0 rfl rfl (Nat.le_of_ble_eq_true rfl) (Nat.le_of_ble_eq_true rfl) (by decide) ?_
      refine A_X11_answer e12 ?_
      show z_G none 3 mX11_pay 57 [some (.ref 2), some (.int a1), some (.int (q1.2.1 16 a1.toNatClampNeg))] [.int q11.1] q11.2 Q
      refine g_goto (t := 66) dX11_pay_57 (by decide) ?_
      cases h
      exact g_iret dX11_pay_66 rfl rfl hq
  · replace h := z_iff (z_tb0.mp c3) h
    refine g_aload_n dX11_pay_14 rfl rfl ?_
    refine g_iconst (v := (2 : Int32)) dX11_pay_15 (by decide) ?_
    obtain ⟨q13, e14, h⟩ := z_bd h
    refine g_callV (a := 0) (as := [.int (2 : Int32)]) (rest := []) (c := mX11_refuse) (k1 := 0) dX11_pay_16 rfl rfl rfl sh_0 rfl rfl (Nat.le_of_ble_eq_true rfl) (Nat.le_of_ble_eq_true rfl) (by decide) ?_
    refine A_X11_refuse e14 ?_
    show z_G none 3 mX11_pay 19 [some (.ref 2), some (.int a1), none] [.int q13.1] q13.2 Q
    cases h
    exact g_iret dX11_pay_19 rfl rfl hq
theorem dX11_price_0 : decode cX11_price 0 = .ok (.aload_n 0, 1) := by decide +kernel
theorem dX11_price_1 : decode cX11_price 1 = .ok (.getfield 26, 3) := by decide +kernel
theorem dX11_price_4 : decode cX11_price 4 = .ok (.getfield 155, 3) := by decide +kernel
theorem dX11_price_7 : decode cX11_price 7 = .ok (.iload_n 1, 1) := by decide +kernel
theorem dX11_price_8 : decode cX11_price 8 = .ok (.invokevirtual 232, 3) := by decide +kernel
theorem dX11_price_11 : decode cX11_price 11 = .ok (.ifCond .ne 9, 3) := by decide +kernel
theorem dX11_price_14 : decode cX11_price 14 = .ok (.aload_n 0, 1) := by decide +kernel
theorem dX11_price_15 : decode cX11_price 15 = .ok (.iconst 2, 1) := by decide +kernel
theorem dX11_price_16 : decode cX11_price 16 = .ok (.invokevirtual 113, 3) := by decide +kernel
theorem dX11_price_19 : decode cX11_price 19 = .ok (.ireturn, 1) := by decide +kernel
theorem dX11_price_20 : decode cX11_price 20 = .ok (.iload_n 2, 1) := by decide +kernel
theorem dX11_price_21 : decode cX11_price 21 = .ok (.iconst 1, 1) := by decide +kernel
theorem dX11_price_22 : decode cX11_price 22 = .ok (.bipush 50, 2) := by decide +kernel
theorem dX11_price_24 : decode cX11_price 24 = .ok (.invokestatic 283, 3) := by decide +kernel
theorem dX11_price_27 : decode cX11_price 27 = .ok (.ifCond .ne 9, 3) := by decide +kernel
theorem dX11_price_30 : decode cX11_price 30 = .ok (.aload_n 0, 1) := by decide +kernel
theorem dX11_price_31 : decode cX11_price 31 = .ok (.iconst 5, 1) := by decide +kernel
theorem dX11_price_32 : decode cX11_price 32 = .ok (.invokevirtual 113, 3) := by decide +kernel
theorem dX11_price_35 : decode cX11_price 35 = .ok (.ireturn, 1) := by decide +kernel
theorem dX11_price_36 : decode cX11_price 36 = .ok (.aload_n 0, 1) := by decide +kernel
theorem dX11_price_37 : decode cX11_price 37 = .ok (.getfield 26, 3) := by decide +kernel
theorem dX11_price_40 : decode cX11_price 40 = .ok (.getfield 155, 3) := by decide +kernel
theorem dX11_price_43 : decode cX11_price 43 = .ok (.getfield 244, 3) := by decide +kernel
theorem dX11_price_46 : decode cX11_price 46 = .ok (.iload_n 1, 1) := by decide +kernel
theorem dX11_price_47 : decode cX11_price 47 = .ok (.iaload, 1) := by decide +kernel
theorem dX11_price_48 : decode cX11_price 48 = .ok (.istore_n 3, 1) := by decide +kernel
theorem dX11_price_49 : decode cX11_price 49 = .ok (.aload_n 0, 1) := by decide +kernel
theorem dX11_price_50 : decode cX11_price 50 = .ok (.getfield 26, 3) := by decide +kernel
theorem dX11_price_53 : decode cX11_price 53 = .ok (.getfield 155, 3) := by decide +kernel
theorem dX11_price_56 : decode cX11_price 56 = .ok (.getfield 244, 3) := by decide +kernel
theorem dX11_price_59 : decode cX11_price 59 = .ok (.iload_n 1, 1) := by decide +kernel
theorem dX11_price_60 : decode cX11_price 60 = .ok (.iload_n 2, 1) := by decide +kernel
theorem dX11_price_61 : decode cX11_price 61 = .ok (.iastore, 1) := by decide +kernel
theorem dX11_price_62 : decode cX11_price 62 = .ok (.aload_n 0, 1) := by decide +kernel
theorem dX11_price_63 : decode cX11_price 63 = .ok (.iload_n 3, 1) := by decide +kernel
theorem dX11_price_64 : decode cX11_price 64 = .ok (.invokevirtual 164, 3) := by decide +kernel
theorem dX11_price_67 : decode cX11_price 67 = .ok (.ireturn, 1) := by decide +kernel
def F_X11_price (w : Nat) (M : z_Mem) (a1 : Int32) (a2 : Int32) : Option (Int32 × z_Mem) :=
  (F_X6_isThere w M 7 a1).bind fun q1 =>
  if q1.1 = true then
  (F_X11_isWithin w q1.2 a2 (1 : Int32) (50 : Int32)).bind fun q4 =>
  if q4.1 = true then
  if a1 < 0 ∨ 8 ≤ a1.toNatClampNeg then none else
  if a1 < 0 ∨ 8 ≤ a1.toNatClampNeg then none else
  (F_X11_answer w (z_wI q4.2 13 a1.toNatClampNeg a2) (q4.2.1 13 a1.toNatClampNeg)).bind fun q9 =>
  some (q9.1, q9.2)
  else
  (F_X11_refuse w q4.2 (5 : Int32)).bind fun q11 =>
  some (q11.1, q11.2)
  else
  (F_X11_refuse w q1.2 (2 : Int32)).bind fun q13 =>
  some (q13.1, q13.2)
set_option maxHeartbeats 4000000 in
theorem A_X11_price {w : Nat} {M : z_Mem} {a1 : Int32} {a2 : Int32} {r : Int32} {M' : z_Mem} {Q : Option Value → z_Mem → Prop} (h : F_X11_price w M a1 a2 = some (r, M')) (hq : Q (some (.int r)) M') : z_Cl 1 mX11_price [.ref 2, .int a1, .int a2] M Q := by
  refine g_in (ls := [some (.ref 2), some (.int a1), some (.int a2), none]) rfl ?_
  unfold F_X11_price at h
  refine g_aload_n dX11_price_0 rfl rfl ?_
  refine g_get (a := 0) (v := .ref 9) dX11_price_1 f_11_26 sh_0 rfl rfl ?_
  refine g_get (a := 7) (v := .ref 11) dX11_price_4 f_11_155 sh_7 rfl rfl ?_
  refine g_iload_n dX11_price_7 rfl rfl ?_
  obtain ⟨q1, e2, h⟩ := z_bd h
  refine g_callV (a := 9) (as := [.int a1]) (rest := []) (c := mX6_isThere) (k1 := 0) dX11_price_8 rfl rfl rfl sh_9 rfl rfl (Nat.le_of_ble_eq_true rfl) (Nat.le_of_ble_eq_true rfl) (by decide) ?_
  refine A_X6_isThere z_par_7 e2 ?_
  show z_G none 1 mX11_price 11 [some (.ref 2), some (.int a1), some (.int a2), none] [.int (z_tb q1.1)] q1.2 Q
  refine g_if_ne (t := 20) dX11_price_11 (by decide) (fun c3 => ?_) (fun c3 => ?_)
  · replace h := z_ift (z_tbn.mp c3) h
    refine g_iload_n dX11_price_20 rfl rfl ?_
    refine g_iconst (v := (1 : Int32)) dX11_price_21 (by decide) ?_
    refine g_bipush (v := (50 : Int32)) dX11_price_22 (by decide) ?_
    obtain ⟨q4, e5, h⟩ := z_bd h
    refine g_callS (as := [.int a2, .int (1 : Int32), .int (50 : Int32)]) (rest := []) (c := mX11_isWithin) (k1 := 0) dX11_price_24 rfl rfl rfl rfl rfl (Nat.le_of_ble_eq_true rfl) (Nat.le_of_ble_eq_true rfl) (by decide) ?_
    refine A_X11_isWithin e5 ?_
    show z_G none 1 mX11_price 27 [some (.ref 2), some (.int a1), some (.int a2), none] [.int (z_tb q4.1)] q4.2 Q
    refine g_if_ne (t := 36) dX11_price_27 (by decide) (fun c6 => ?_) (fun c6 => ?_)
    · replace h := z_ift (z_tbn.mp c6) h
      refine g_aload_n dX11_price_36 rfl rfl ?_
      refine g_get (a := 0) (v := .ref 9) dX11_price_37 f_11_26 sh_0 rfl rfl ?_
      refine g_get (a := 7) (v := .ref 11) dX11_price_40 f_11_155 sh_7 rfl rfl ?_
      refine g_get (a := 9) (v := .ref 15) dX11_price_43 f_11_244 sh_9 rfl rfl ?_
      refine g_iload_n dX11_price_46 rfl rfl ?_
      by_cases g7 : a1 < 0 ∨ 8 ≤ a1.toNatClampNeg
      · rw [if_pos g7] at h; cases h
      replace h := z_iff g7 h
      refine g_iald (a := 13) dX11_price_47 sh_13 g7 ?_
      refine g_istore_n (ls' := [some (.ref 2), some (.int a1), some (.int a2), some (.int (q4.2.1 13 a1.toNatClampNeg))]) dX11_price_48 rfl (Nat.le_of_ble_eq_true rfl) rfl ?_
      refine g_aload_n dX11_price_49 rfl rfl ?_
      refine g_get (a := 0) (v := .ref 9) dX11_price_50 f_11_26 sh_0 rfl rfl ?_
      refine g_get (a := 7) (v := .ref 11) dX11_price_53 f_11_155 sh_7 rfl rfl ?_
      refine g_get (a := 9) (v := .ref 15) dX11_price_56 f_11_244 sh_9 rfl rfl ?_
      refine g_iload_n dX11_price_59 rfl rfl ?_
      refine g_iload_n dX11_price_60 rfl rfl ?_
      by_cases g8 : a1 < 0 ∨ 8 ≤ a1.toNatClampNeg
      · rw [if_pos g8] at h; cases h
      replace h := z_iff g8 h
      refine g_iast (a := 13) dX11_price_61 sh_13 g8 ?_
      refine g_aload_n dX11_price_62 rfl rfl ?_
      refine g_iload_n dX11_price_63 rfl rfl ?_
      obtain ⟨q9, e10, h⟩ := z_bd h
      refine g_callV (a := 0) (as := [.int (q4.2.1 13 a1.toNatClampNeg)]) (rest := []) (c := mX11_answer) (k1 := 0) dX11_price_64 rfl rfl rfl sh_0 rfl rfl (Nat.le_of_ble_eq_true rfl) (Nat.le_of_ble_eq_true rfl) (by decide) ?_
      refine A_X11_answer e10 ?_
      show z_G none 1 mX11_price 67 [some (.ref 2), some (.int a1), some (.int a2), some (.int (q4.2.1 13 a1.toNatClampNeg))] [.int q9.1] q9.2 Q
      cases h
      exact g_iret dX11_price_67 rfl rfl hq
    · replace h := z_iff (z_tb0.mp c6) h
      refine g_aload_n dX11_price_30 rfl rfl ?_
      refine g_iconst (v := (5 : Int32)) dX11_price_31 (by decide) ?_
      obtain ⟨q11, e12, h⟩ := z_bd h
      refine g_callV (a := 0) (as := [.int (5 : Int32)]) (rest := []) (c := mX11_refuse) (k1 := 0) dX11_price_32 rfl rfl rfl sh_0 rfl rfl (Nat.le_of_ble_eq_true rfl) (Nat.le_of_ble_eq_true rfl) (by decide) ?_
      refine A_X11_refuse e12 ?_
      show z_G none 1 mX11_price 35 [some (.ref 2), some (.int a1), some (.int a2), none] [.int q11.1] q11.2 Q
      cases h
      exact g_iret dX11_price_35 rfl rfl hq
  · replace h := z_iff (z_tb0.mp c3) h
    refine g_aload_n dX11_price_14 rfl rfl ?_
    refine g_iconst (v := (2 : Int32)) dX11_price_15 (by decide) ?_
    obtain ⟨q13, e14, h⟩ := z_bd h
    refine g_callV (a := 0) (as := [.int (2 : Int32)]) (rest := []) (c := mX11_refuse) (k1 := 0) dX11_price_16 rfl rfl rfl sh_0 rfl rfl (Nat.le_of_ble_eq_true rfl) (Nat.le_of_ble_eq_true rfl) (by decide) ?_
    refine A_X11_refuse e14 ?_
    show z_G none 1 mX11_price 19 [some (.ref 2), some (.int a1), some (.int a2), none] [.int q13.1] q13.2 Q
    cases h
    exact g_iret dX11_price_19 rfl rfl hq
