/-! ===== the methods as functions, 0 ===== -/
theorem dX0_beginAnew_0 : decode cX0_beginAnew 0 = .ok (.aload_n 0, 1) := by decide +kernel
theorem dX0_beginAnew_1 : decode cX0_beginAnew 1 = .ok (.iconst 0, 1) := by decide +kernel
theorem dX0_beginAnew_2 : decode cX0_beginAnew 2 = .ok (.putfield 24, 3) := by decide +kernel
theorem dX0_beginAnew_5 : decode cX0_beginAnew 5 = .ok (.aload_n 0, 1) := by decide +kernel
theorem dX0_beginAnew_6 : decode cX0_beginAnew 6 = .ok (.iconst 0, 1) := by decide +kernel
theorem dX0_beginAnew_7 : decode cX0_beginAnew 7 = .ok (.putfield 28, 3) := by decide +kernel
theorem dX0_beginAnew_10 : decode cX0_beginAnew 10 = .ok (.aload_n 0, 1) := by decide +kernel
theorem dX0_beginAnew_11 : decode cX0_beginAnew 11 = .ok (.iconst 0, 1) := by decide +kernel
theorem dX0_beginAnew_12 : decode cX0_beginAnew 12 = .ok (.putfield 31, 3) := by decide +kernel
theorem dX0_beginAnew_15 : decode cX0_beginAnew 15 = .ok (.return_, 1) := by decide +kernel
def F_X0_beginAnew (w : Nat) (M : z_Mem) (p : Nat) : Option (Unit × z_Mem) :=
  some ((), (z_wI (z_wI (z_wI M (p + 12) 4 (0 : Int32)) (p + 12) 5 (0 : Int32)) (p + 12) 6 (0 : Int32)))
set_option maxHeartbeats 4000000 in
theorem A_X0_beginAnew {w : Nat} {M : z_Mem} {p : Nat} (hp : z_par p) {r : Unit} {M' : z_Mem} {Q : Option Value → z_Mem → Prop} (h : F_X0_beginAnew w M p = some (r, M')) (hq : Q none M') : z_Cl 0 mX0_beginAnew [.ref (p + 14)] M Q := by
  refine g_in (ls := [some (.ref (p + 14))]) rfl ?_
  unfold F_X0_beginAnew at h
  refine g_aload_n dX0_beginAnew_0 rfl rfl ?_
  refine g_iconst (v := (0 : Int32)) dX0_beginAnew_1 (by decide) ?_
  refine g_putI (a := p + 12) dX0_beginAnew_2 f_0_24 (shp_12 hp) rfl rfl rfl ?_
  refine g_aload_n dX0_beginAnew_5 rfl rfl ?_
  refine g_iconst (v := (0 : Int32)) dX0_beginAnew_6 (by decide) ?_
  refine g_putI (a := p + 12) dX0_beginAnew_7 f_0_28 (shp_12 hp) rfl rfl rfl ?_
  refine g_aload_n dX0_beginAnew_10 rfl rfl ?_
  refine g_iconst (v := (0 : Int32)) dX0_beginAnew_11 (by decide) ?_
  refine g_putI (a := p + 12) dX0_beginAnew_12 f_0_31 (shp_12 hp) rfl rfl rfl ?_
  cases h
  exact g_vret dX0_beginAnew_15 rfl hq
theorem dX0_addClause_0 : decode cX0_addClause 0 = .ok (.aload_n 0, 1) := by decide +kernel
theorem dX0_addClause_1 : decode cX0_addClause 1 = .ok (.getfield 28, 3) := by decide +kernel
theorem dX0_addClause_4 : decode cX0_addClause 4 = .ok (.bipush 8, 2) := by decide +kernel
theorem dX0_addClause_6 : decode cX0_addClause 6 = .ok (.if_icmp .lt 5, 3) := by decide +kernel
theorem dX0_addClause_9 : decode cX0_addClause 9 = .ok (.iconst 0, 1) := by decide +kernel
theorem dX0_addClause_10 : decode cX0_addClause 10 = .ok (.ireturn, 1) := by decide +kernel
theorem dX0_addClause_11 : decode cX0_addClause 11 = .ok (.aload_n 0, 1) := by decide +kernel
theorem dX0_addClause_12 : decode cX0_addClause 12 = .ok (.getfield 11, 3) := by decide +kernel
theorem dX0_addClause_15 : decode cX0_addClause 15 = .ok (.aload_n 0, 1) := by decide +kernel
theorem dX0_addClause_16 : decode cX0_addClause 16 = .ok (.getfield 28, 3) := by decide +kernel
theorem dX0_addClause_19 : decode cX0_addClause 19 = .ok (.iload_n 1, 1) := by decide +kernel
theorem dX0_addClause_20 : decode cX0_addClause 20 = .ok (.iastore, 1) := by decide +kernel
theorem dX0_addClause_21 : decode cX0_addClause 21 = .ok (.aload_n 0, 1) := by decide +kernel
theorem dX0_addClause_22 : decode cX0_addClause 22 = .ok (.getfield 15, 3) := by decide +kernel
theorem dX0_addClause_25 : decode cX0_addClause 25 = .ok (.aload_n 0, 1) := by decide +kernel
theorem dX0_addClause_26 : decode cX0_addClause 26 = .ok (.getfield 28, 3) := by decide +kernel
theorem dX0_addClause_29 : decode cX0_addClause 29 = .ok (.iload_n 2, 1) := by decide +kernel
theorem dX0_addClause_30 : decode cX0_addClause 30 = .ok (.iastore, 1) := by decide +kernel
theorem dX0_addClause_31 : decode cX0_addClause 31 = .ok (.aload_n 0, 1) := by decide +kernel
theorem dX0_addClause_32 : decode cX0_addClause 32 = .ok (.dup, 1) := by decide +kernel
theorem dX0_addClause_33 : decode cX0_addClause 33 = .ok (.getfield 28, 3) := by decide +kernel
theorem dX0_addClause_36 : decode cX0_addClause 36 = .ok (.iconst 1, 1) := by decide +kernel
theorem dX0_addClause_37 : decode cX0_addClause 37 = .ok (.iadd, 1) := by decide +kernel
theorem dX0_addClause_38 : decode cX0_addClause 38 = .ok (.putfield 28, 3) := by decide +kernel
theorem dX0_addClause_41 : decode cX0_addClause 41 = .ok (.iconst 1, 1) := by decide +kernel
theorem dX0_addClause_42 : decode cX0_addClause 42 = .ok (.ireturn, 1) := by decide +kernel
def F_X0_addClause (w : Nat) (M : z_Mem) (p : Nat) (a1 : Int32) (a2 : Int32) : Option (Bool × z_Mem) :=
  if (M.1 (p + 12) 5) < (8 : Int32) then
  if (M.1 (p + 12) 5) < 0 ∨ 8 ≤ (M.1 (p + 12) 5).toNatClampNeg then none else
  if (M.1 (p + 12) 5) < 0 ∨ 8 ≤ (M.1 (p + 12) 5).toNatClampNeg then none else
  some (true, (z_wI (z_wI (z_wI M (p + 13) ((M.1 (p + 12) 5).toNatClampNeg) a1) (p + 14) ((M.1 (p + 12) 5).toNatClampNeg) a2) (p + 12) 5 ((M.1 (p + 12) 5) + (1 : Int32))))
  else
  some (false, M)
set_option maxHeartbeats 4000000 in
theorem A_X0_addClause {w : Nat} {M : z_Mem} {p : Nat} (hp : z_par p) {a1 : Int32} {a2 : Int32} {r : Bool} {M' : z_Mem} {Q : Option Value → z_Mem → Prop} (h : F_X0_addClause w M p a1 a2 = some (r, M')) (hq : Q (some (.int (z_tb r))) M') : z_Cl 0 mX0_addClause [.ref (p + 14), .int a1, .int a2] M Q := by
  refine g_in (ls := [some (.ref (p + 14)), some (.int a1), some (.int a2)]) rfl ?_
  unfold F_X0_addClause at h
  refine g_aload_n dX0_addClause_0 rfl rfl ?_
  refine g_get (a := p + 12) (v := .int (M.1 (p + 12) 5)) dX0_addClause_1 f_0_28 (shp_12 hp) rfl rfl ?_
  refine g_bipush (v := (8 : Int32)) dX0_addClause_4 (by decide) ?_
  refine g_ic_lt (t := 11) dX0_addClause_6 (by decide) (fun c1 => ?_) (fun c1 => ?_)
  · replace h := z_ift c1 h
    refine g_aload_n dX0_addClause_11 rfl rfl ?_
    refine g_get (a := p + 12) (v := .ref (p + 15)) dX0_addClause_12 f_0_11 (shp_12 hp) rfl rfl ?_
    refine g_aload_n dX0_addClause_15 rfl rfl ?_
    refine g_get (a := p + 12) (v := .int (M.1 (p + 12) 5)) dX0_addClause_16 f_0_28 (shp_12 hp) rfl rfl ?_
    refine g_iload_n dX0_addClause_19 rfl rfl ?_
    by_cases g2 : (M.1 (p + 12) 5) < 0 ∨ 8 ≤ (M.1 (p + 12) 5).toNatClampNeg
    · rw [if_pos g2] at h; cases h
    replace h := z_iff g2 h
    refine g_iast (a := p + 13) dX0_addClause_20 (shp_13 hp) g2 ?_
    refine g_aload_n dX0_addClause_21 rfl rfl ?_
    refine g_get (a := p + 12) (v := .ref (p + 16)) dX0_addClause_22 f_0_15 (shp_12 hp) rfl rfl ?_
    refine g_aload_n dX0_addClause_25 rfl rfl ?_
    refine g_get (a := p + 12) (v := .int (M.1 (p + 12) 5)) dX0_addClause_26 f_0_28 (shp_12 hp) rfl (by simp [z_fv, z_wI, z_wL, z_wLs, upd, vp_updL]) ?_
    refine g_iload_n dX0_addClause_29 rfl rfl ?_
    by_cases g3 : (M.1 (p + 12) 5) < 0 ∨ 8 ≤ (M.1 (p + 12) 5).toNatClampNeg
    · rw [if_pos g3] at h; cases h
    replace h := z_iff g3 h
    refine g_iast (a := p + 14) dX0_addClause_30 (shp_14 hp) g3 ?_
    refine g_aload_n dX0_addClause_31 rfl rfl ?_
    refine g_dup dX0_addClause_32 rfl ?_
    refine g_get (a := p + 12) (v := .int (M.1 (p + 12) 5)) dX0_addClause_33 f_0_28 (shp_12 hp) rfl (by simp [z_fv, z_wI, z_wL, z_wLs, upd, vp_updL]) ?_
    refine g_iconst (v := (1 : Int32)) dX0_addClause_36 (by decide) ?_
    refine g_iadd dX0_addClause_37 ?_
    refine g_putI (a := p + 12) dX0_addClause_38 f_0_28 (shp_12 hp) rfl rfl rfl ?_
    refine g_iconst (v := (1 : Int32)) dX0_addClause_41 (by decide) ?_
    cases h
    exact g_iret dX0_addClause_42 rfl rfl hq
  · replace h := z_iff c1 h
    refine g_iconst (v := (0 : Int32)) dX0_addClause_9 (by decide) ?_
    cases h
    exact g_iret dX0_addClause_10 rfl rfl hq
theorem dX0_addWitness_0 : decode cX0_addWitness 0 = .ok (.aload_n 0, 1) := by decide +kernel
theorem dX0_addWitness_1 : decode cX0_addWitness 1 = .ok (.getfield 31, 3) := by decide +kernel
theorem dX0_addWitness_4 : decode cX0_addWitness 4 = .ok (.bipush 6, 2) := by decide +kernel
theorem dX0_addWitness_6 : decode cX0_addWitness 6 = .ok (.if_icmp .lt 5, 3) := by decide +kernel
theorem dX0_addWitness_9 : decode cX0_addWitness 9 = .ok (.iconst 0, 1) := by decide +kernel
theorem dX0_addWitness_10 : decode cX0_addWitness 10 = .ok (.ireturn, 1) := by decide +kernel
theorem dX0_addWitness_11 : decode cX0_addWitness 11 = .ok (.aload_n 0, 1) := by decide +kernel
theorem dX0_addWitness_12 : decode cX0_addWitness 12 = .ok (.getfield 18, 3) := by decide +kernel
theorem dX0_addWitness_15 : decode cX0_addWitness 15 = .ok (.aload_n 0, 1) := by decide +kernel
theorem dX0_addWitness_16 : decode cX0_addWitness 16 = .ok (.getfield 31, 3) := by decide +kernel
theorem dX0_addWitness_19 : decode cX0_addWitness 19 = .ok (.iload_n 1, 1) := by decide +kernel
theorem dX0_addWitness_20 : decode cX0_addWitness 20 = .ok (.iastore, 1) := by decide +kernel
theorem dX0_addWitness_21 : decode cX0_addWitness 21 = .ok (.aload_n 0, 1) := by decide +kernel
theorem dX0_addWitness_22 : decode cX0_addWitness 22 = .ok (.getfield 21, 3) := by decide +kernel
theorem dX0_addWitness_25 : decode cX0_addWitness 25 = .ok (.aload_n 0, 1) := by decide +kernel
theorem dX0_addWitness_26 : decode cX0_addWitness 26 = .ok (.getfield 31, 3) := by decide +kernel
theorem dX0_addWitness_29 : decode cX0_addWitness 29 = .ok (.iload_n 2, 1) := by decide +kernel
theorem dX0_addWitness_30 : decode cX0_addWitness 30 = .ok (.iastore, 1) := by decide +kernel
theorem dX0_addWitness_31 : decode cX0_addWitness 31 = .ok (.aload_n 0, 1) := by decide +kernel
theorem dX0_addWitness_32 : decode cX0_addWitness 32 = .ok (.dup, 1) := by decide +kernel
theorem dX0_addWitness_33 : decode cX0_addWitness 33 = .ok (.getfield 31, 3) := by decide +kernel
theorem dX0_addWitness_36 : decode cX0_addWitness 36 = .ok (.iconst 1, 1) := by decide +kernel
theorem dX0_addWitness_37 : decode cX0_addWitness 37 = .ok (.iadd, 1) := by decide +kernel
theorem dX0_addWitness_38 : decode cX0_addWitness 38 = .ok (.putfield 31, 3) := by decide +kernel
theorem dX0_addWitness_41 : decode cX0_addWitness 41 = .ok (.iconst 1, 1) := by decide +kernel
theorem dX0_addWitness_42 : decode cX0_addWitness 42 = .ok (.ireturn, 1) := by decide +kernel
def F_X0_addWitness (w : Nat) (M : z_Mem) (p : Nat) (a1 : Int32) (a2 : Int32) : Option (Bool × z_Mem) :=
  if (M.1 (p + 12) 6) < (6 : Int32) then
  if (M.1 (p + 12) 6) < 0 ∨ 6 ≤ (M.1 (p + 12) 6).toNatClampNeg then none else
  if (M.1 (p + 12) 6) < 0 ∨ 6 ≤ (M.1 (p + 12) 6).toNatClampNeg then none else
  some (true, (z_wI (z_wI (z_wI M (p + 15) ((M.1 (p + 12) 6).toNatClampNeg) a1) (p + 16) ((M.1 (p + 12) 6).toNatClampNeg) a2) (p + 12) 6 ((M.1 (p + 12) 6) + (1 : Int32))))
  else
  some (false, M)
set_option maxHeartbeats 4000000 in
theorem A_X0_addWitness {w : Nat} {M : z_Mem} {p : Nat} (hp : z_par p) {a1 : Int32} {a2 : Int32} {r : Bool} {M' : z_Mem} {Q : Option Value → z_Mem → Prop} (h : F_X0_addWitness w M p a1 a2 = some (r, M')) (hq : Q (some (.int (z_tb r))) M') : z_Cl 0 mX0_addWitness [.ref (p + 14), .int a1, .int a2] M Q := by
  refine g_in (ls := [some (.ref (p + 14)), some (.int a1), some (.int a2)]) rfl ?_
  unfold F_X0_addWitness at h
  refine g_aload_n dX0_addWitness_0 rfl rfl ?_
  refine g_get (a := p + 12) (v := .int (M.1 (p + 12) 6)) dX0_addWitness_1 f_0_31 (shp_12 hp) rfl rfl ?_
  refine g_bipush (v := (6 : Int32)) dX0_addWitness_4 (by decide) ?_
  refine g_ic_lt (t := 11) dX0_addWitness_6 (by decide) (fun c1 => ?_) (fun c1 => ?_)
  · replace h := z_ift c1 h
    refine g_aload_n dX0_addWitness_11 rfl rfl ?_
    refine g_get (a := p + 12) (v := .ref (p + 17)) dX0_addWitness_12 f_0_18 (shp_12 hp) rfl rfl ?_
    refine g_aload_n dX0_addWitness_15 rfl rfl ?_
    refine g_get (a := p + 12) (v := .int (M.1 (p + 12) 6)) dX0_addWitness_16 f_0_31 (shp_12 hp) rfl rfl ?_
    refine g_iload_n dX0_addWitness_19 rfl rfl ?_
    by_cases g2 : (M.1 (p + 12) 6) < 0 ∨ 6 ≤ (M.1 (p + 12) 6).toNatClampNeg
    · rw [if_pos g2] at h; cases h
    replace h := z_iff g2 h
    refine g_iast (a := p + 15) dX0_addWitness_20 (shp_15 hp) g2 ?_
    refine g_aload_n dX0_addWitness_21 rfl rfl ?_
    refine g_get (a := p + 12) (v := .ref (p + 18)) dX0_addWitness_22 f_0_21 (shp_12 hp) rfl rfl ?_
    refine g_aload_n dX0_addWitness_25 rfl rfl ?_
    refine g_get (a := p + 12) (v := .int (M.1 (p + 12) 6)) dX0_addWitness_26 f_0_31 (shp_12 hp) rfl (by simp [z_fv, z_wI, z_wL, z_wLs, upd, vp_updL]) ?_
    refine g_iload_n dX0_addWitness_29 rfl rfl ?_
    by_cases g3 : (M.1 (p + 12) 6) < 0 ∨ 6 ≤ (M.1 (p + 12) 6).toNatClampNeg
    · rw [if_pos g3] at h; cases h
    replace h := z_iff g3 h
    refine g_iast (a := p + 16) dX0_addWitness_30 (shp_16 hp) g3 ?_
    refine g_aload_n dX0_addWitness_31 rfl rfl ?_
    refine g_dup dX0_addWitness_32 rfl ?_
    refine g_get (a := p + 12) (v := .int (M.1 (p + 12) 6)) dX0_addWitness_33 f_0_31 (shp_12 hp) rfl (by simp [z_fv, z_wI, z_wL, z_wLs, upd, vp_updL]) ?_
    refine g_iconst (v := (1 : Int32)) dX0_addWitness_36 (by decide) ?_
    refine g_iadd dX0_addWitness_37 ?_
    refine g_putI (a := p + 12) dX0_addWitness_38 f_0_31 (shp_12 hp) rfl rfl rfl ?_
    refine g_iconst (v := (1 : Int32)) dX0_addWitness_41 (by decide) ?_
    cases h
    exact g_iret dX0_addWitness_42 rfl rfl hq
  · replace h := z_iff c1 h
    refine g_iconst (v := (0 : Int32)) dX0_addWitness_9 (by decide) ?_
    cases h
    exact g_iret dX0_addWitness_10 rfl rfl hq
theorem dX0_brokenBy_0 : decode cX0_brokenBy 0 = .ok (.iconst 0, 1) := by decide +kernel
theorem dX0_brokenBy_1 : decode cX0_brokenBy 1 = .ok (.istore_n 2, 1) := by decide +kernel
theorem dX0_brokenBy_2 : decode cX0_brokenBy 2 = .ok (.iconst 0, 1) := by decide +kernel
theorem dX0_brokenBy_3 : decode cX0_brokenBy 3 = .ok (.istore_n 3, 1) := by decide +kernel
theorem dX0_brokenBy_4 : decode cX0_brokenBy 4 = .ok (.iload_n 3, 1) := by decide +kernel
theorem dX0_brokenBy_5 : decode cX0_brokenBy 5 = .ok (.aload_n 0, 1) := by decide +kernel
theorem dX0_brokenBy_6 : decode cX0_brokenBy 6 = .ok (.getfield 28, 3) := by decide +kernel
theorem dX0_brokenBy_9 : decode cX0_brokenBy 9 = .ok (.if_icmp .ge 39, 3) := by decide +kernel
theorem dX0_brokenBy_12 : decode cX0_brokenBy 12 = .ok (.aload_n 0, 1) := by decide +kernel
theorem dX0_brokenBy_13 : decode cX0_brokenBy 13 = .ok (.getfield 11, 3) := by decide +kernel
theorem dX0_brokenBy_16 : decode cX0_brokenBy 16 = .ok (.iload_n 3, 1) := by decide +kernel
theorem dX0_brokenBy_17 : decode cX0_brokenBy 17 = .ok (.iaload, 1) := by decide +kernel
theorem dX0_brokenBy_18 : decode cX0_brokenBy 18 = .ok (.iload_n 1, 1) := by decide +kernel
theorem dX0_brokenBy_19 : decode cX0_brokenBy 19 = .ok (.iand, 1) := by decide +kernel
theorem dX0_brokenBy_20 : decode cX0_brokenBy 20 = .ok (.ifCond .ne 22, 3) := by decide +kernel
theorem dX0_brokenBy_23 : decode cX0_brokenBy 23 = .ok (.aload_n 0, 1) := by decide +kernel
theorem dX0_brokenBy_24 : decode cX0_brokenBy 24 = .ok (.getfield 15, 3) := by decide +kernel
theorem dX0_brokenBy_27 : decode cX0_brokenBy 27 = .ok (.iload_n 3, 1) := by decide +kernel
theorem dX0_brokenBy_28 : decode cX0_brokenBy 28 = .ok (.iaload, 1) := by decide +kernel
theorem dX0_brokenBy_29 : decode cX0_brokenBy 29 = .ok (.iload_n 1, 1) := by decide +kernel
theorem dX0_brokenBy_30 : decode cX0_brokenBy 30 = .ok (.iconst (-1), 1) := by decide +kernel
theorem dX0_brokenBy_31 : decode cX0_brokenBy 31 = .ok (.ixor, 1) := by decide +kernel
theorem dX0_brokenBy_32 : decode cX0_brokenBy 32 = .ok (.iand, 1) := by decide +kernel
theorem dX0_brokenBy_33 : decode cX0_brokenBy 33 = .ok (.ifCond .ne 9, 3) := by decide +kernel
theorem dX0_brokenBy_36 : decode cX0_brokenBy 36 = .ok (.iload_n 2, 1) := by decide +kernel
theorem dX0_brokenBy_37 : decode cX0_brokenBy 37 = .ok (.iconst 1, 1) := by decide +kernel
theorem dX0_brokenBy_38 : decode cX0_brokenBy 38 = .ok (.iload_n 3, 1) := by decide +kernel
theorem dX0_brokenBy_39 : decode cX0_brokenBy 39 = .ok (.ishl, 1) := by decide +kernel
theorem dX0_brokenBy_40 : decode cX0_brokenBy 40 = .ok (.ior, 1) := by decide +kernel
theorem dX0_brokenBy_41 : decode cX0_brokenBy 41 = .ok (.istore_n 2, 1) := by decide +kernel
theorem dX0_brokenBy_42 : decode cX0_brokenBy 42 = .ok (.iinc 3 1, 3) := by decide +kernel
theorem dX0_brokenBy_45 : decode cX0_brokenBy 45 = .ok (.goto (-41), 3) := by decide +kernel
theorem dX0_brokenBy_48 : decode cX0_brokenBy 48 = .ok (.iload_n 2, 1) := by decide +kernel
theorem dX0_brokenBy_49 : decode cX0_brokenBy 49 = .ok (.ireturn, 1) := by decide +kernel
def L_X0_brokenBy (w : Nat) (p : Nat) : Nat → z_Mem → Int32 → Int32 → Int32 → Option (Int32 × z_Mem)
  | 0, _, _, _, _ => none
  | c + 1, M, x1, x2, x3 =>
    if (M.1 (p + 12) 5) ≤ x3 then
    some (x2, M)
    else
    if x3 < 0 ∨ 8 ≤ x3.toNatClampNeg then none else
    if ((M.1 (p + 13) x3.toNatClampNeg) &&& x1) = (0 : Int32) then
    if x3 < 0 ∨ 8 ≤ x3.toNatClampNeg then none else
    if ((M.1 (p + 14) x3.toNatClampNeg) &&& (x1 ^^^ (-1 : Int32))) = (0 : Int32) then
    L_X0_brokenBy w p c M x1 (x2 ||| ((1 : Int32) <<< (x3 &&& 31))) (x3 + (1 : Int32))
    else
    L_X0_brokenBy w p c M x1 x2 (x3 + (1 : Int32))
    else
    L_X0_brokenBy w p c M x1 x2 (x3 + (1 : Int32))
set_option maxHeartbeats 4000000 in
theorem AL_X0_brokenBy {w : Nat} {p : Nat} (hp : z_par p) : ∀ (c : Nat), (∀ (M : z_Mem) (x1 : Int32) (x2 : Int32) (x3 : Int32) (r : Int32) (M' : z_Mem) (Q : Option Value → z_Mem → Prop), L_X0_brokenBy w p c M x1 x2 x3 = some (r, M') → Q (some (.int r)) M' → z_G none 0 mX0_brokenBy 4 [some (.ref (p + 14)), some (.int x1), some (.int x2), some (.int x3)] [] M Q) := by
  intro c
  induction c with
  | zero => exact (fun M x1 x2 x3 r M' Q h hq => by rw [L_X0_brokenBy] at h; cases h)
  | succ c ih =>
    intro M x1 x2 x3 r M' Q h hq
    rw [L_X0_brokenBy] at h
    refine g_iload_n dX0_brokenBy_4 rfl rfl ?_
    refine g_aload_n dX0_brokenBy_5 rfl rfl ?_
    refine g_get (a := p + 12) (v := .int (M.1 (p + 12) 5)) dX0_brokenBy_6 f_0_28 (shp_12 hp) rfl rfl ?_
    refine g_ic_ge (t := 48) dX0_brokenBy_9 (by decide) (fun c1 => ?_) (fun c1 => ?_)
    · replace h := z_ift c1 h
      refine g_iload_n dX0_brokenBy_48 rfl rfl ?_
      cases h
      exact g_iret dX0_brokenBy_49 rfl rfl hq
    · replace h := z_iff c1 h
      refine g_aload_n dX0_brokenBy_12 rfl rfl ?_
      refine g_get (a := p + 12) (v := .ref (p + 15)) dX0_brokenBy_13 f_0_11 (shp_12 hp) rfl rfl ?_
      refine g_iload_n dX0_brokenBy_16 rfl rfl ?_
      by_cases g2 : x3 < 0 ∨ 8 ≤ x3.toNatClampNeg
      · rw [if_pos g2] at h; cases h
      replace h := z_iff g2 h
      refine g_iald (a := p + 13) dX0_brokenBy_17 (shp_13 hp) g2 ?_
      refine g_iload_n dX0_brokenBy_18 rfl rfl ?_
      refine g_iand dX0_brokenBy_19 ?_
      refine g_if_ne (t := 42) dX0_brokenBy_20 (by decide) (fun c3 => ?_) (fun c3 => ?_)
      · replace h := z_iff c3 h
        refine g_iinc (v := x3 + (1 : Int32)) (ls' := [some (.ref (p + 14)), some (.int x1), some (.int x2), some (.int (x3 + (1 : Int32)))]) dX0_brokenBy_42 rfl rfl rfl ?_
        refine g_goto (t := 4) dX0_brokenBy_45 (by decide) ?_
        exact g_sub (z_sub_s (z_sub_s (z_sub_s (z_sub_s z_sub_nil)))) (ih _ _ _ _ _ _ _ h hq)
      · replace h := z_ift c3 h
        refine g_aload_n dX0_brokenBy_23 rfl rfl ?_
        refine g_get (a := p + 12) (v := .ref (p + 16)) dX0_brokenBy_24 f_0_15 (shp_12 hp) rfl rfl ?_
        refine g_iload_n dX0_brokenBy_27 rfl rfl ?_
        by_cases g4 : x3 < 0 ∨ 8 ≤ x3.toNatClampNeg
        · rw [if_pos g4] at h; cases h
        replace h := z_iff g4 h
        refine g_iald (a := p + 14) dX0_brokenBy_28 (shp_14 hp) g4 ?_
        refine g_iload_n dX0_brokenBy_29 rfl rfl ?_
        refine g_iconst (v := (-1 : Int32)) dX0_brokenBy_30 (by decide) ?_
        refine g_ixor dX0_brokenBy_31 ?_
        refine g_iand dX0_brokenBy_32 ?_
        refine g_if_ne (t := 42) dX0_brokenBy_33 (by decide) (fun c5 => ?_) (fun c5 => ?_)
        · replace h := z_iff c5 h
          refine g_iinc (v := x3 + (1 : Int32)) (ls' := [some (.ref (p + 14)), some (.int x1), some (.int x2), some (.int (x3 + (1 : Int32)))]) dX0_brokenBy_42 rfl rfl rfl ?_
          refine g_goto (t := 4) dX0_brokenBy_45 (by decide) ?_
          exact g_sub (z_sub_s (z_sub_s (z_sub_s (z_sub_s z_sub_nil)))) (ih _ _ _ _ _ _ _ h hq)
        · replace h := z_ift c5 h
          refine g_iload_n dX0_brokenBy_36 rfl rfl ?_
          refine g_iconst (v := (1 : Int32)) dX0_brokenBy_37 (by decide) ?_
          refine g_iload_n dX0_brokenBy_38 rfl rfl ?_
          refine g_ishl dX0_brokenBy_39 ?_
          refine g_ior dX0_brokenBy_40 ?_
          refine g_istore_n (ls' := [some (.ref (p + 14)), some (.int x1), some (.int (x2 ||| ((1 : Int32) <<< (x3 &&& 31)))), some (.int x3)]) dX0_brokenBy_41 rfl (Nat.le_of_ble_eq_true rfl) rfl ?_
          refine g_iinc (v := x3 + (1 : Int32)) (ls' := [some (.ref (p + 14)), some (.int x1), some (.int (x2 ||| ((1 : Int32) <<< (x3 &&& 31)))), some (.int (x3 + (1 : Int32)))]) dX0_brokenBy_42 rfl rfl rfl ?_
          refine g_goto (t := 4) dX0_brokenBy_45 (by decide) ?_
          exact g_sub (z_sub_s (z_sub_s (z_sub_s (z_sub_s z_sub_nil)))) (ih _ _ _ _ _ _ _ h hq)
def F_X0_brokenBy (w : Nat) (M : z_Mem) (p : Nat) (a1 : Int32) : Option (Int32 × z_Mem) :=
  L_X0_brokenBy w p w M a1 (0 : Int32) (0 : Int32)
set_option maxHeartbeats 4000000 in
theorem A_X0_brokenBy {w : Nat} {M : z_Mem} {p : Nat} (hp : z_par p) {a1 : Int32} {r : Int32} {M' : z_Mem} {Q : Option Value → z_Mem → Prop} (h : F_X0_brokenBy w M p a1 = some (r, M')) (hq : Q (some (.int r)) M') : z_Cl 0 mX0_brokenBy [.ref (p + 14), .int a1] M Q := by
  refine g_in (ls := [some (.ref (p + 14)), some (.int a1), none, none]) rfl ?_
  unfold F_X0_brokenBy at h
  refine g_iconst (v := (0 : Int32)) dX0_brokenBy_0 (by decide) ?_
  refine g_istore_n (ls' := [some (.ref (p + 14)), some (.int a1), some (.int (0 : Int32)), none]) dX0_brokenBy_1 rfl (Nat.le_of_ble_eq_true rfl) rfl ?_
  refine g_iconst (v := (0 : Int32)) dX0_brokenBy_2 (by decide) ?_
  refine g_istore_n (ls' := [some (.ref (p + 14)), some (.int a1), some (.int (0 : Int32)), some (.int (0 : Int32))]) dX0_brokenBy_3 rfl (Nat.le_of_ble_eq_true rfl) rfl ?_
  exact g_sub (z_sub_s (z_sub_s (z_sub_s (z_sub_s z_sub_nil)))) ((AL_X0_brokenBy (w := w) hp w) _ _ _ _ _ _ _ h hq)
theorem dX0_countRulings_0 : decode cX0_countRulings 0 = .ok (.iconst 0, 1) := by decide +kernel
theorem dX0_countRulings_1 : decode cX0_countRulings 1 = .ok (.istore_n 1, 1) := by decide +kernel
theorem dX0_countRulings_2 : decode cX0_countRulings 2 = .ok (.iconst 0, 1) := by decide +kernel
theorem dX0_countRulings_3 : decode cX0_countRulings 3 = .ok (.istore_n 2, 1) := by decide +kernel
theorem dX0_countRulings_4 : decode cX0_countRulings 4 = .ok (.iload_n 2, 1) := by decide +kernel
theorem dX0_countRulings_5 : decode cX0_countRulings 5 = .ok (.iconst 1, 1) := by decide +kernel
theorem dX0_countRulings_6 : decode cX0_countRulings 6 = .ok (.aload_n 0, 1) := by decide +kernel
theorem dX0_countRulings_7 : decode cX0_countRulings 7 = .ok (.getfield 24, 3) := by decide +kernel
theorem dX0_countRulings_10 : decode cX0_countRulings 10 = .ok (.ishl, 1) := by decide +kernel
theorem dX0_countRulings_11 : decode cX0_countRulings 11 = .ok (.if_icmp .ge 20, 3) := by decide +kernel
theorem dX0_countRulings_14 : decode cX0_countRulings 14 = .ok (.aload_n 0, 1) := by decide +kernel
theorem dX0_countRulings_15 : decode cX0_countRulings 15 = .ok (.iload_n 2, 1) := by decide +kernel
theorem dX0_countRulings_16 : decode cX0_countRulings 16 = .ok (.invokevirtual 34, 3) := by decide +kernel
theorem dX0_countRulings_19 : decode cX0_countRulings 19 = .ok (.ifCond .ne 6, 3) := by decide +kernel
theorem dX0_countRulings_22 : decode cX0_countRulings 22 = .ok (.iinc 1 1, 3) := by decide +kernel
theorem dX0_countRulings_25 : decode cX0_countRulings 25 = .ok (.iinc 2 1, 3) := by decide +kernel
theorem dX0_countRulings_28 : decode cX0_countRulings 28 = .ok (.goto (-24), 3) := by decide +kernel
theorem dX0_countRulings_31 : decode cX0_countRulings 31 = .ok (.iload_n 1, 1) := by decide +kernel
theorem dX0_countRulings_32 : decode cX0_countRulings 32 = .ok (.ireturn, 1) := by decide +kernel
def L_X0_countRulings (w : Nat) (p : Nat) : Nat → z_Mem → Int32 → Int32 → Option (Int32 × z_Mem)
  | 0, _, _, _ => none
  | c + 1, M, x1, x2 =>
    if ((1 : Int32) <<< ((M.1 (p + 12) 4) &&& 31)) ≤ x2 then
    some (x1, M)
    else
    (F_X0_brokenBy w M p x2).bind fun q2 =>
    if q2.1 = (0 : Int32) then
    L_X0_countRulings w p c q2.2 (x1 + (1 : Int32)) (x2 + (1 : Int32))
    else
    L_X0_countRulings w p c q2.2 x1 (x2 + (1 : Int32))
set_option maxHeartbeats 4000000 in
theorem AL_X0_countRulings {w : Nat} {p : Nat} (hp : z_par p) : ∀ (c : Nat), (∀ (M : z_Mem) (x1 : Int32) (x2 : Int32) (r : Int32) (M' : z_Mem) (Q : Option Value → z_Mem → Prop), L_X0_countRulings w p c M x1 x2 = some (r, M') → Q (some (.int r)) M' → z_G none 1 mX0_countRulings 4 [some (.ref (p + 14)), some (.int x1), some (.int x2)] [] M Q) := by
  intro c
  induction c with
  | zero => exact (fun M x1 x2 r M' Q h hq => by rw [L_X0_countRulings] at h; cases h)
  | succ c ih =>
    intro M x1 x2 r M' Q h hq
    rw [L_X0_countRulings] at h
    refine g_iload_n dX0_countRulings_4 rfl rfl ?_
    refine g_iconst (v := (1 : Int32)) dX0_countRulings_5 (by decide) ?_
    refine g_aload_n dX0_countRulings_6 rfl rfl ?_
    refine g_get (a := p + 12) (v := .int (M.1 (p + 12) 4)) dX0_countRulings_7 f_0_24 (shp_12 hp) rfl rfl ?_
    refine g_ishl dX0_countRulings_10 ?_
    refine g_ic_ge (t := 31) dX0_countRulings_11 (by decide) (fun c1 => ?_) (fun c1 => ?_)
    · replace h := z_ift c1 h
      refine g_iload_n dX0_countRulings_31 rfl rfl ?_
      cases h
      exact g_iret dX0_countRulings_32 rfl rfl hq
    · replace h := z_iff c1 h
      refine g_aload_n dX0_countRulings_14 rfl rfl ?_
      refine g_iload_n dX0_countRulings_15 rfl rfl ?_
      obtain ⟨q2, e3, h⟩ := z_bd h
      refine g_callV (a := p + 12) (as := [.int x2]) (rest := []) (c := mX0_brokenBy) (k1 := 0) dX0_countRulings_16 rfl rfl rfl (shp_12 hp) rfl rfl (Nat.le_of_ble_eq_true rfl) (Nat.le_of_ble_eq_true rfl) (by decide) ?_
      refine A_X0_brokenBy hp e3 ?_
      show z_G none 1 mX0_countRulings 19 [some (.ref (p + 14)), some (.int x1), some (.int x2)] [.int q2.1] q2.2 Q
      refine g_if_ne (t := 25) dX0_countRulings_19 (by decide) (fun c4 => ?_) (fun c4 => ?_)
      · replace h := z_iff c4 h
        refine g_iinc (v := x2 + (1 : Int32)) (ls' := [some (.ref (p + 14)), some (.int x1), some (.int (x2 + (1 : Int32)))]) dX0_countRulings_25 rfl rfl rfl ?_
        refine g_goto (t := 4) dX0_countRulings_28 (by decide) ?_
        exact g_sub (z_sub_s (z_sub_s (z_sub_s z_sub_nil))) (ih _ _ _ _ _ _ h hq)
      · replace h := z_ift c4 h
        refine g_iinc (v := x1 + (1 : Int32)) (ls' := [some (.ref (p + 14)), some (.int (x1 + (1 : Int32))), some (.int x2)]) dX0_countRulings_22 rfl rfl rfl ?_
        refine g_iinc (v := x2 + (1 : Int32)) (ls' := [some (.ref (p + 14)), some (.int (x1 + (1 : Int32))), some (.int (x2 + (1 : Int32)))]) dX0_countRulings_25 rfl rfl rfl ?_
        refine g_goto (t := 4) dX0_countRulings_28 (by decide) ?_
        exact g_sub (z_sub_s (z_sub_s (z_sub_s z_sub_nil))) (ih _ _ _ _ _ _ h hq)
def F_X0_countRulings (w : Nat) (M : z_Mem) (p : Nat) : Option (Int32 × z_Mem) :=
  L_X0_countRulings w p w M (0 : Int32) (0 : Int32)
set_option maxHeartbeats 4000000 in
theorem A_X0_countRulings {w : Nat} {M : z_Mem} {p : Nat} (hp : z_par p) {r : Int32} {M' : z_Mem} {Q : Option Value → z_Mem → Prop} (h : F_X0_countRulings w M p = some (r, M')) (hq : Q (some (.int r)) M') : z_Cl 1 mX0_countRulings [.ref (p + 14)] M Q := by
  refine g_in (ls := [some (.ref (p + 14)), none, none]) rfl ?_
  unfold F_X0_countRulings at h
  refine g_iconst (v := (0 : Int32)) dX0_countRulings_0 (by decide) ?_
  refine g_istore_n (ls' := [some (.ref (p + 14)), some (.int (0 : Int32)), none]) dX0_countRulings_1 rfl (Nat.le_of_ble_eq_true rfl) rfl ?_
  refine g_iconst (v := (0 : Int32)) dX0_countRulings_2 (by decide) ?_
  refine g_istore_n (ls' := [some (.ref (p + 14)), some (.int (0 : Int32)), some (.int (0 : Int32))]) dX0_countRulings_3 rfl (Nat.le_of_ble_eq_true rfl) rfl ?_
  exact g_sub (z_sub_s (z_sub_s (z_sub_s z_sub_nil))) ((AL_X0_countRulings (w := w) hp w) _ _ _ _ _ _ h hq)
theorem dX0_findRuling_0 : decode cX0_findRuling 0 = .ok (.iconst 0, 1) := by decide +kernel
theorem dX0_findRuling_1 : decode cX0_findRuling 1 = .ok (.istore_n 2, 1) := by decide +kernel
theorem dX0_findRuling_2 : decode cX0_findRuling 2 = .ok (.iconst 0, 1) := by decide +kernel
theorem dX0_findRuling_3 : decode cX0_findRuling 3 = .ok (.istore_n 3, 1) := by decide +kernel
theorem dX0_findRuling_4 : decode cX0_findRuling 4 = .ok (.iload_n 3, 1) := by decide +kernel
theorem dX0_findRuling_5 : decode cX0_findRuling 5 = .ok (.iconst 1, 1) := by decide +kernel
theorem dX0_findRuling_6 : decode cX0_findRuling 6 = .ok (.aload_n 0, 1) := by decide +kernel
theorem dX0_findRuling_7 : decode cX0_findRuling 7 = .ok (.getfield 24, 3) := by decide +kernel
theorem dX0_findRuling_10 : decode cX0_findRuling 10 = .ok (.ishl, 1) := by decide +kernel
theorem dX0_findRuling_11 : decode cX0_findRuling 11 = .ok (.if_icmp .ge 27, 3) := by decide +kernel
theorem dX0_findRuling_14 : decode cX0_findRuling 14 = .ok (.aload_n 0, 1) := by decide +kernel
theorem dX0_findRuling_15 : decode cX0_findRuling 15 = .ok (.iload_n 3, 1) := by decide +kernel
theorem dX0_findRuling_16 : decode cX0_findRuling 16 = .ok (.invokevirtual 34, 3) := by decide +kernel
theorem dX0_findRuling_19 : decode cX0_findRuling 19 = .ok (.ifCond .ne 13, 3) := by decide +kernel
theorem dX0_findRuling_22 : decode cX0_findRuling 22 = .ok (.iload_n 2, 1) := by decide +kernel
theorem dX0_findRuling_23 : decode cX0_findRuling 23 = .ok (.iload_n 1, 1) := by decide +kernel
theorem dX0_findRuling_24 : decode cX0_findRuling 24 = .ok (.if_icmp .ne 5, 3) := by decide +kernel
theorem dX0_findRuling_27 : decode cX0_findRuling 27 = .ok (.iload_n 3, 1) := by decide +kernel
theorem dX0_findRuling_28 : decode cX0_findRuling 28 = .ok (.ireturn, 1) := by decide +kernel
theorem dX0_findRuling_29 : decode cX0_findRuling 29 = .ok (.iinc 2 1, 3) := by decide +kernel
theorem dX0_findRuling_32 : decode cX0_findRuling 32 = .ok (.iinc 3 1, 3) := by decide +kernel
theorem dX0_findRuling_35 : decode cX0_findRuling 35 = .ok (.goto (-31), 3) := by decide +kernel
theorem dX0_findRuling_38 : decode cX0_findRuling 38 = .ok (.iconst (-1), 1) := by decide +kernel
theorem dX0_findRuling_39 : decode cX0_findRuling 39 = .ok (.ireturn, 1) := by decide +kernel
def L_X0_findRuling (w : Nat) (p : Nat) : Nat → z_Mem → Int32 → Int32 → Int32 → Option (Int32 × z_Mem)
  | 0, _, _, _, _ => none
  | c + 1, M, x1, x2, x3 =>
    if ((1 : Int32) <<< ((M.1 (p + 12) 4) &&& 31)) ≤ x3 then
    some ((-1 : Int32), M)
    else
    (F_X0_brokenBy w M p x3).bind fun q2 =>
    if q2.1 = (0 : Int32) then
    if x2 = x1 then
    some (x3, q2.2)
    else
    L_X0_findRuling w p c q2.2 x1 (x2 + (1 : Int32)) (x3 + (1 : Int32))
    else
    L_X0_findRuling w p c q2.2 x1 x2 (x3 + (1 : Int32))
set_option maxHeartbeats 4000000 in
theorem AL_X0_findRuling {w : Nat} {p : Nat} (hp : z_par p) : ∀ (c : Nat), (∀ (M : z_Mem) (x1 : Int32) (x2 : Int32) (x3 : Int32) (r : Int32) (M' : z_Mem) (Q : Option Value → z_Mem → Prop), L_X0_findRuling w p c M x1 x2 x3 = some (r, M') → Q (some (.int r)) M' → z_G none 1 mX0_findRuling 4 [some (.ref (p + 14)), some (.int x1), some (.int x2), some (.int x3)] [] M Q) := by
  intro c
  induction c with
  | zero => exact (fun M x1 x2 x3 r M' Q h hq => by rw [L_X0_findRuling] at h; cases h)
  | succ c ih =>
    intro M x1 x2 x3 r M' Q h hq
    rw [L_X0_findRuling] at h
    refine g_iload_n dX0_findRuling_4 rfl rfl ?_
    refine g_iconst (v := (1 : Int32)) dX0_findRuling_5 (by decide) ?_
    refine g_aload_n dX0_findRuling_6 rfl rfl ?_
    refine g_get (a := p + 12) (v := .int (M.1 (p + 12) 4)) dX0_findRuling_7 f_0_24 (shp_12 hp) rfl rfl ?_
    refine g_ishl dX0_findRuling_10 ?_
    refine g_ic_ge (t := 38) dX0_findRuling_11 (by decide) (fun c1 => ?_) (fun c1 => ?_)
    · replace h := z_ift c1 h
      refine g_iconst (v := (-1 : Int32)) dX0_findRuling_38 (by decide) ?_
      cases h
      exact g_iret dX0_findRuling_39 rfl rfl hq
    · replace h := z_iff c1 h
      refine g_aload_n dX0_findRuling_14 rfl rfl ?_
      refine g_iload_n dX0_findRuling_15 rfl rfl ?_
      obtain ⟨q2, e3, h⟩ := z_bd h
      refine g_callV (a := p + 12) (as := [.int x3]) (rest := []) (c := mX0_brokenBy) (k1 := 0) dX0_findRuling_16 rfl rfl rfl (shp_12 hp) rfl rfl (Nat.le_of_ble_eq_true rfl) (Nat.le_of_ble_eq_true rfl) (by decide) ?_
      refine A_X0_brokenBy hp e3 ?_
      show z_G none 1 mX0_findRuling 19 [some (.ref (p + 14)), some (.int x1), some (.int x2), some (.int x3)] [.int q2.1] q2.2 Q
      refine g_if_ne (t := 32) dX0_findRuling_19 (by decide) (fun c4 => ?_) (fun c4 => ?_)
      · replace h := z_iff c4 h
        refine g_iinc (v := x3 + (1 : Int32)) (ls' := [some (.ref (p + 14)), some (.int x1), some (.int x2), some (.int (x3 + (1 : Int32)))]) dX0_findRuling_32 rfl rfl rfl ?_
        refine g_goto (t := 4) dX0_findRuling_35 (by decide) ?_
        exact g_sub (z_sub_s (z_sub_s (z_sub_s (z_sub_s z_sub_nil)))) (ih _ _ _ _ _ _ _ h hq)
      · replace h := z_ift c4 h
        refine g_iload_n dX0_findRuling_22 rfl rfl ?_
        refine g_iload_n dX0_findRuling_23 rfl rfl ?_
        refine g_ic_ne (t := 29) dX0_findRuling_24 (by decide) (fun c5 => ?_) (fun c5 => ?_)
        · replace h := z_iff c5 h
          refine g_iinc (v := x2 + (1 : Int32)) (ls' := [some (.ref (p + 14)), some (.int x1), some (.int (x2 + (1 : Int32))), some (.int x3)]) dX0_findRuling_29 rfl rfl rfl ?_
          refine g_iinc (v := x3 + (1 : Int32)) (ls' := [some (.ref (p + 14)), some (.int x1), some (.int (x2 + (1 : Int32))), some (.int (x3 + (1 : Int32)))]) dX0_findRuling_32 rfl rfl rfl ?_
          refine g_goto (t := 4) dX0_findRuling_35 (by decide) ?_
          exact g_sub (z_sub_s (z_sub_s (z_sub_s (z_sub_s z_sub_nil)))) (ih _ _ _ _ _ _ _ h hq)
        · replace h := z_ift c5 h
          refine g_iload_n dX0_findRuling_27 rfl rfl ?_
          cases h
          exact g_iret dX0_findRuling_28 rfl rfl hq
def F_X0_findRuling (w : Nat) (M : z_Mem) (p : Nat) (a1 : Int32) : Option (Int32 × z_Mem) :=
  L_X0_findRuling w p w M a1 (0 : Int32) (0 : Int32)
set_option maxHeartbeats 4000000 in
theorem A_X0_findRuling {w : Nat} {M : z_Mem} {p : Nat} (hp : z_par p) {a1 : Int32} {r : Int32} {M' : z_Mem} {Q : Option Value → z_Mem → Prop} (h : F_X0_findRuling w M p a1 = some (r, M')) (hq : Q (some (.int r)) M') : z_Cl 1 mX0_findRuling [.ref (p + 14), .int a1] M Q := by
  refine g_in (ls := [some (.ref (p + 14)), some (.int a1), none, none]) rfl ?_
  unfold F_X0_findRuling at h
  refine g_iconst (v := (0 : Int32)) dX0_findRuling_0 (by decide) ?_
  refine g_istore_n (ls' := [some (.ref (p + 14)), some (.int a1), some (.int (0 : Int32)), none]) dX0_findRuling_1 rfl (Nat.le_of_ble_eq_true rfl) rfl ?_
  refine g_iconst (v := (0 : Int32)) dX0_findRuling_2 (by decide) ?_
  refine g_istore_n (ls' := [some (.ref (p + 14)), some (.int a1), some (.int (0 : Int32)), some (.int (0 : Int32))]) dX0_findRuling_3 rfl (Nat.le_of_ble_eq_true rfl) rfl ?_
  exact g_sub (z_sub_s (z_sub_s (z_sub_s (z_sub_s z_sub_nil)))) ((AL_X0_findRuling (w := w) hp w) _ _ _ _ _ _ _ h hq)
theorem dJ6_bitCount_0f7a4_0 : decode cJ6_bitCount_0f7a4 0 = .ok (.iload_n 0, 1) := by decide +kernel
theorem dJ6_bitCount_0f7a4_1 : decode cJ6_bitCount_0f7a4 1 = .ok (.iload_n 0, 1) := by decide +kernel
theorem dJ6_bitCount_0f7a4_2 : decode cJ6_bitCount_0f7a4 2 = .ok (.iconst 1, 1) := by decide +kernel
theorem dJ6_bitCount_0f7a4_3 : decode cJ6_bitCount_0f7a4 3 = .ok (.iushr, 1) := by decide +kernel
theorem dJ6_bitCount_0f7a4_4 : decode cJ6_bitCount_0f7a4 4 = .ok (.ldc_w 265, 3) := by decide +kernel
theorem dJ6_bitCount_0f7a4_7 : decode cJ6_bitCount_0f7a4 7 = .ok (.iand, 1) := by decide +kernel
theorem dJ6_bitCount_0f7a4_8 : decode cJ6_bitCount_0f7a4 8 = .ok (.isub, 1) := by decide +kernel
theorem dJ6_bitCount_0f7a4_9 : decode cJ6_bitCount_0f7a4 9 = .ok (.istore_n 0, 1) := by decide +kernel
theorem dJ6_bitCount_0f7a4_10 : decode cJ6_bitCount_0f7a4 10 = .ok (.iload_n 0, 1) := by decide +kernel
theorem dJ6_bitCount_0f7a4_11 : decode cJ6_bitCount_0f7a4 11 = .ok (.ldc_w 266, 3) := by decide +kernel
theorem dJ6_bitCount_0f7a4_14 : decode cJ6_bitCount_0f7a4 14 = .ok (.iand, 1) := by decide +kernel
theorem dJ6_bitCount_0f7a4_15 : decode cJ6_bitCount_0f7a4 15 = .ok (.iload_n 0, 1) := by decide +kernel
theorem dJ6_bitCount_0f7a4_16 : decode cJ6_bitCount_0f7a4 16 = .ok (.iconst 2, 1) := by decide +kernel
theorem dJ6_bitCount_0f7a4_17 : decode cJ6_bitCount_0f7a4 17 = .ok (.iushr, 1) := by decide +kernel
theorem dJ6_bitCount_0f7a4_18 : decode cJ6_bitCount_0f7a4 18 = .ok (.ldc_w 266, 3) := by decide +kernel
theorem dJ6_bitCount_0f7a4_21 : decode cJ6_bitCount_0f7a4 21 = .ok (.iand, 1) := by decide +kernel
theorem dJ6_bitCount_0f7a4_22 : decode cJ6_bitCount_0f7a4 22 = .ok (.iadd, 1) := by decide +kernel
theorem dJ6_bitCount_0f7a4_23 : decode cJ6_bitCount_0f7a4 23 = .ok (.istore_n 0, 1) := by decide +kernel
theorem dJ6_bitCount_0f7a4_24 : decode cJ6_bitCount_0f7a4 24 = .ok (.iload_n 0, 1) := by decide +kernel
theorem dJ6_bitCount_0f7a4_25 : decode cJ6_bitCount_0f7a4 25 = .ok (.iload_n 0, 1) := by decide +kernel
theorem dJ6_bitCount_0f7a4_26 : decode cJ6_bitCount_0f7a4 26 = .ok (.iconst 4, 1) := by decide +kernel
theorem dJ6_bitCount_0f7a4_27 : decode cJ6_bitCount_0f7a4 27 = .ok (.iushr, 1) := by decide +kernel
theorem dJ6_bitCount_0f7a4_28 : decode cJ6_bitCount_0f7a4 28 = .ok (.iadd, 1) := by decide +kernel
theorem dJ6_bitCount_0f7a4_29 : decode cJ6_bitCount_0f7a4 29 = .ok (.ldc_w 267, 3) := by decide +kernel
theorem dJ6_bitCount_0f7a4_32 : decode cJ6_bitCount_0f7a4 32 = .ok (.iand, 1) := by decide +kernel
theorem dJ6_bitCount_0f7a4_33 : decode cJ6_bitCount_0f7a4 33 = .ok (.istore_n 0, 1) := by decide +kernel
theorem dJ6_bitCount_0f7a4_34 : decode cJ6_bitCount_0f7a4 34 = .ok (.iload_n 0, 1) := by decide +kernel
theorem dJ6_bitCount_0f7a4_35 : decode cJ6_bitCount_0f7a4 35 = .ok (.iload_n 0, 1) := by decide +kernel
theorem dJ6_bitCount_0f7a4_36 : decode cJ6_bitCount_0f7a4 36 = .ok (.bipush 8, 2) := by decide +kernel
theorem dJ6_bitCount_0f7a4_38 : decode cJ6_bitCount_0f7a4 38 = .ok (.iushr, 1) := by decide +kernel
theorem dJ6_bitCount_0f7a4_39 : decode cJ6_bitCount_0f7a4 39 = .ok (.iadd, 1) := by decide +kernel
theorem dJ6_bitCount_0f7a4_40 : decode cJ6_bitCount_0f7a4 40 = .ok (.istore_n 0, 1) := by decide +kernel
theorem dJ6_bitCount_0f7a4_41 : decode cJ6_bitCount_0f7a4 41 = .ok (.iload_n 0, 1) := by decide +kernel
theorem dJ6_bitCount_0f7a4_42 : decode cJ6_bitCount_0f7a4 42 = .ok (.iload_n 0, 1) := by decide +kernel
theorem dJ6_bitCount_0f7a4_43 : decode cJ6_bitCount_0f7a4 43 = .ok (.bipush 16, 2) := by decide +kernel
theorem dJ6_bitCount_0f7a4_45 : decode cJ6_bitCount_0f7a4 45 = .ok (.iushr, 1) := by decide +kernel
theorem dJ6_bitCount_0f7a4_46 : decode cJ6_bitCount_0f7a4 46 = .ok (.iadd, 1) := by decide +kernel
theorem dJ6_bitCount_0f7a4_47 : decode cJ6_bitCount_0f7a4 47 = .ok (.istore_n 0, 1) := by decide +kernel
theorem dJ6_bitCount_0f7a4_48 : decode cJ6_bitCount_0f7a4 48 = .ok (.iload_n 0, 1) := by decide +kernel
theorem dJ6_bitCount_0f7a4_49 : decode cJ6_bitCount_0f7a4 49 = .ok (.bipush 63, 2) := by decide +kernel
theorem dJ6_bitCount_0f7a4_51 : decode cJ6_bitCount_0f7a4 51 = .ok (.iand, 1) := by decide +kernel
theorem dJ6_bitCount_0f7a4_52 : decode cJ6_bitCount_0f7a4 52 = .ok (.ireturn, 1) := by decide +kernel
def F_J6_bitCount_0f7a4 (w : Nat) (M : z_Mem) (a0 : Int32) : Option (Int32 × z_Mem) :=
  some ((((((((a0 - (((a0.toUInt32 >>> ((1 : Int32).toUInt32 &&& Int32.toUInt32 31)).toInt32) &&& (1431655765 : Int32))) &&& (858993459 : Int32)) + ((((a0 - (((a0.toUInt32 >>> ((1 : Int32).toUInt32 &&& Int32.toUInt32 31)).toInt32) &&& (1431655765 : Int32))).toUInt32 >>> ((2 : Int32).toUInt32 &&& Int32.toUInt32 31)).toInt32) &&& (858993459 : Int32))) + (((((a0 - (((a0.toUInt32 >>> ((1 : Int32).toUInt32 &&& Int32.toUInt32 31)).toInt32) &&& (1431655765 : Int32))) &&& (858993459 : Int32)) + ((((a0 - (((a0.toUInt32 >>> ((1 : Int32).toUInt32 &&& Int32.toUInt32 31)).toInt32) &&& (1431655765 : Int32))).toUInt32 >>> ((2 : Int32).toUInt32 &&& Int32.toUInt32 31)).toInt32) &&& (858993459 : Int32))).toUInt32 >>> ((4 : Int32).toUInt32 &&& Int32.toUInt32 31)).toInt32)) &&& (252645135 : Int32)) + (((((((a0 - (((a0.toUInt32 >>> ((1 : Int32).toUInt32 &&& Int32.toUInt32 31)).toInt32) &&& (1431655765 : Int32))) &&& (858993459 : Int32)) + ((((a0 - (((a0.toUInt32 >>> ((1 : Int32).toUInt32 &&& Int32.toUInt32 31)).toInt32) &&& (1431655765 : Int32))).toUInt32 >>> ((2 : Int32).toUInt32 &&& Int32.toUInt32 31)).toInt32) &&& (858993459 : Int32))) + (((((a0 - (((a0.toUInt32 >>> ((1 : Int32).toUInt32 &&& Int32.toUInt32 31)).toInt32) &&& (1431655765 : Int32))) &&& (858993459 : Int32)) + ((((a0 - (((a0.toUInt32 >>> ((1 : Int32).toUInt32 &&& Int32.toUInt32 31)).toInt32) &&& (1431655765 : Int32))).toUInt32 >>> ((2 : Int32).toUInt32 &&& Int32.toUInt32 31)).toInt32) &&& (858993459 : Int32))).toUInt32 >>> ((4 : Int32).toUInt32 &&& Int32.toUInt32 31)).toInt32)) &&& (252645135 : Int32)).toUInt32 >>> ((8 : Int32).toUInt32 &&& Int32.toUInt32 31)).toInt32)) + ((((((((a0 - (((a0.toUInt32 >>> ((1 : Int32).toUInt32 &&& Int32.toUInt32 31)).toInt32) &&& (1431655765 : Int32))) &&& (858993459 : Int32)) + ((((a0 - (((a0.toUInt32 >>> ((1 : Int32).toUInt32 &&& Int32.toUInt32 31)).toInt32) &&& (1431655765 : Int32))).toUInt32 >>> ((2 : Int32).toUInt32 &&& Int32.toUInt32 31)).toInt32) &&& (858993459 : Int32))) + (((((a0 - (((a0.toUInt32 >>> ((1 : Int32).toUInt32 &&& Int32.toUInt32 31)).toInt32) &&& (1431655765 : Int32))) &&& (858993459 : Int32)) + ((((a0 - (((a0.toUInt32 >>> ((1 : Int32).toUInt32 &&& Int32.toUInt32 31)).toInt32) &&& (1431655765 : Int32))).toUInt32 >>> ((2 : Int32).toUInt32 &&& Int32.toUInt32 31)).toInt32) &&& (858993459 : Int32))).toUInt32 >>> ((4 : Int32).toUInt32 &&& Int32.toUInt32 31)).toInt32)) &&& (252645135 : Int32)) + (((((((a0 - (((a0.toUInt32 >>> ((1 : Int32).toUInt32 &&& Int32.toUInt32 31)).toInt32) &&& (1431655765 : Int32))) &&& (858993459 : Int32)) + ((((a0 - (((a0.toUInt32 >>> ((1 : Int32).toUInt32 &&& Int32.toUInt32 31)).toInt32) &&& (1431655765 : Int32))).toUInt32 >>> ((2 : Int32).toUInt32 &&& Int32.toUInt32 31)).toInt32) &&& (858993459 : Int32))) + (((((a0 - (((a0.toUInt32 >>> ((1 : Int32).toUInt32 &&& Int32.toUInt32 31)).toInt32) &&& (1431655765 : Int32))) &&& (858993459 : Int32)) + ((((a0 - (((a0.toUInt32 >>> ((1 : Int32).toUInt32 &&& Int32.toUInt32 31)).toInt32) &&& (1431655765 : Int32))).toUInt32 >>> ((2 : Int32).toUInt32 &&& Int32.toUInt32 31)).toInt32) &&& (858993459 : Int32))).toUInt32 >>> ((4 : Int32).toUInt32 &&& Int32.toUInt32 31)).toInt32)) &&& (252645135 : Int32)).toUInt32 >>> ((8 : Int32).toUInt32 &&& Int32.toUInt32 31)).toInt32)).toUInt32 >>> ((16 : Int32).toUInt32 &&& Int32.toUInt32 31)).toInt32)) &&& (63 : Int32), M)
set_option maxHeartbeats 4000000 in
theorem A_J6_bitCount_0f7a4 {w : Nat} {M : z_Mem} {a0 : Int32} {r : Int32} {M' : z_Mem} {Q : Option Value → z_Mem → Prop} (h : F_J6_bitCount_0f7a4 w M a0 = some (r, M')) (hq : Q (some (.int r)) M') : z_Cl 0 mJ6_bitCount_0f7a4 [.int a0] M Q := by
  refine g_in (ls := [some (.int a0)]) rfl ?_
  unfold F_J6_bitCount_0f7a4 at h
  refine g_iload_n dJ6_bitCount_0f7a4_0 rfl rfl ?_
  refine g_iload_n dJ6_bitCount_0f7a4_1 rfl rfl ?_
  refine g_iconst (v := (1 : Int32)) dJ6_bitCount_0f7a4_2 (by decide) ?_
  refine g_iushr dJ6_bitCount_0f7a4_3 ?_
  refine g_ldc_w dJ6_bitCount_0f7a4_4 rfl ?_
  refine g_iand dJ6_bitCount_0f7a4_7 ?_
  refine g_isub dJ6_bitCount_0f7a4_8 ?_
  refine g_istore_n (ls' := [some (.int (a0 - (((a0.toUInt32 >>> ((1 : Int32).toUInt32 &&& Int32.toUInt32 31)).toInt32) &&& (1431655765 : Int32))))]) dJ6_bitCount_0f7a4_9 rfl (Nat.le_of_ble_eq_true rfl) rfl ?_
  refine g_iload_n dJ6_bitCount_0f7a4_10 rfl rfl ?_
  refine g_ldc_w dJ6_bitCount_0f7a4_11 rfl ?_
  refine g_iand dJ6_bitCount_0f7a4_14 ?_
  refine g_iload_n dJ6_bitCount_0f7a4_15 rfl rfl ?_
  refine g_iconst (v := (2 : Int32)) dJ6_bitCount_0f7a4_16 (by decide) ?_
  refine g_iushr dJ6_bitCount_0f7a4_17 ?_
  refine g_ldc_w dJ6_bitCount_0f7a4_18 rfl ?_
  refine g_iand dJ6_bitCount_0f7a4_21 ?_
  refine g_iadd dJ6_bitCount_0f7a4_22 ?_
  refine g_istore_n (ls' := [some (.int (((a0 - (((a0.toUInt32 >>> ((1 : Int32).toUInt32 &&& Int32.toUInt32 31)).toInt32) &&& (1431655765 : Int32))) &&& (858993459 : Int32)) + ((((a0 - (((a0.toUInt32 >>> ((1 : Int32).toUInt32 &&& Int32.toUInt32 31)).toInt32) &&& (1431655765 : Int32))).toUInt32 >>> ((2 : Int32).toUInt32 &&& Int32.toUInt32 31)).toInt32) &&& (858993459 : Int32))))]) dJ6_bitCount_0f7a4_23 rfl (Nat.le_of_ble_eq_true rfl) rfl ?_
  refine g_iload_n dJ6_bitCount_0f7a4_24 rfl rfl ?_
  refine g_iload_n dJ6_bitCount_0f7a4_25 rfl rfl ?_
  refine g_iconst (v := (4 : Int32)) dJ6_bitCount_0f7a4_26 (by decide) ?_
  refine g_iushr dJ6_bitCount_0f7a4_27 ?_
  refine g_iadd dJ6_bitCount_0f7a4_28 ?_
  refine g_ldc_w dJ6_bitCount_0f7a4_29 rfl ?_
  refine g_iand dJ6_bitCount_0f7a4_32 ?_
  refine g_istore_n (ls' := [some (.int (((((a0 - (((a0.toUInt32 >>> ((1 : Int32).toUInt32 &&& Int32.toUInt32 31)).toInt32) &&& (1431655765 : Int32))) &&& (858993459 : Int32)) + ((((a0 - (((a0.toUInt32 >>> ((1 : Int32).toUInt32 &&& Int32.toUInt32 31)).toInt32) &&& (1431655765 : Int32))).toUInt32 >>> ((2 : Int32).toUInt32 &&& Int32.toUInt32 31)).toInt32) &&& (858993459 : Int32))) + (((((a0 - (((a0.toUInt32 >>> ((1 : Int32).toUInt32 &&& Int32.toUInt32 31)).toInt32) &&& (1431655765 : Int32))) &&& (858993459 : Int32)) + ((((a0 - (((a0.toUInt32 >>> ((1 : Int32).toUInt32 &&& Int32.toUInt32 31)).toInt32) &&& (1431655765 : Int32))).toUInt32 >>> ((2 : Int32).toUInt32 &&& Int32.toUInt32 31)).toInt32) &&& (858993459 : Int32))).toUInt32 >>> ((4 : Int32).toUInt32 &&& Int32.toUInt32 31)).toInt32)) &&& (252645135 : Int32)))]) dJ6_bitCount_0f7a4_33 rfl (Nat.le_of_ble_eq_true rfl) rfl ?_
  refine g_iload_n dJ6_bitCount_0f7a4_34 rfl rfl ?_
  refine g_iload_n dJ6_bitCount_0f7a4_35 rfl rfl ?_
  refine g_bipush (v := (8 : Int32)) dJ6_bitCount_0f7a4_36 (by decide) ?_
  refine g_iushr dJ6_bitCount_0f7a4_38 ?_
  refine g_iadd dJ6_bitCount_0f7a4_39 ?_
  refine g_istore_n (ls' := [some (.int ((((((a0 - (((a0.toUInt32 >>> ((1 : Int32).toUInt32 &&& Int32.toUInt32 31)).toInt32) &&& (1431655765 : Int32))) &&& (858993459 : Int32)) + ((((a0 - (((a0.toUInt32 >>> ((1 : Int32).toUInt32 &&& Int32.toUInt32 31)).toInt32) &&& (1431655765 : Int32))).toUInt32 >>> ((2 : Int32).toUInt32 &&& Int32.toUInt32 31)).toInt32) &&& (858993459 : Int32))) + (((((a0 - (((a0.toUInt32 >>> ((1 : Int32).toUInt32 &&& Int32.toUInt32 31)).toInt32) &&& (1431655765 : Int32))) &&& (858993459 : Int32)) + ((((a0 - (((a0.toUInt32 >>> ((1 : Int32).toUInt32 &&& Int32.toUInt32 31)).toInt32) &&& (1431655765 : Int32))).toUInt32 >>> ((2 : Int32).toUInt32 &&& Int32.toUInt32 31)).toInt32) &&& (858993459 : Int32))).toUInt32 >>> ((4 : Int32).toUInt32 &&& Int32.toUInt32 31)).toInt32)) &&& (252645135 : Int32)) + (((((((a0 - (((a0.toUInt32 >>> ((1 : Int32).toUInt32 &&& Int32.toUInt32 31)).toInt32) &&& (1431655765 : Int32))) &&& (858993459 : Int32)) + ((((a0 - (((a0.toUInt32 >>> ((1 : Int32).toUInt32 &&& Int32.toUInt32 31)).toInt32) &&& (1431655765 : Int32))).toUInt32 >>> ((2 : Int32).toUInt32 &&& Int32.toUInt32 31)).toInt32) &&& (858993459 : Int32))) + (((((a0 - (((a0.toUInt32 >>> ((1 : Int32).toUInt32 &&& Int32.toUInt32 31)).toInt32) &&& (1431655765 : Int32))) &&& (858993459 : Int32)) + ((((a0 - (((a0.toUInt32 >>> ((1 : Int32).toUInt32 &&& Int32.toUInt32 31)).toInt32) &&& (1431655765 : Int32))).toUInt32 >>> ((2 : Int32).toUInt32 &&& Int32.toUInt32 31)).toInt32) &&& (858993459 : Int32))).toUInt32 >>> ((4 : Int32).toUInt32 &&& Int32.toUInt32 31)).toInt32)) &&& (252645135 : Int32)).toUInt32 >>> ((8 : Int32).toUInt32 &&& Int32.toUInt32 31)).toInt32)))]) dJ6_bitCount_0f7a4_40 rfl (Nat.le_of_ble_eq_true rfl) rfl ?_
  refine g_iload_n dJ6_bitCount_0f7a4_41 rfl rfl ?_
  refine g_iload_n dJ6_bitCount_0f7a4_42 rfl rfl ?_
  refine g_bipush (v := (16 : Int32)) dJ6_bitCount_0f7a4_43 (by decide) ?_
  refine g_iushr dJ6_bitCount_0f7a4_45 ?_
  refine g_iadd dJ6_bitCount_0f7a4_46 ?_
  refine g_istore_n (ls' := [some (.int (((((((a0 - (((a0.toUInt32 >>> ((1 : Int32).toUInt32 &&& Int32.toUInt32 31)).toInt32) &&& (1431655765 : Int32))) &&& (858993459 : Int32)) + ((((a0 - (((a0.toUInt32 >>> ((1 : Int32).toUInt32 &&& Int32.toUInt32 31)).toInt32) &&& (1431655765 : Int32))).toUInt32 >>> ((2 : Int32).toUInt32 &&& Int32.toUInt32 31)).toInt32) &&& (858993459 : Int32))) + (((((a0 - (((a0.toUInt32 >>> ((1 : Int32).toUInt32 &&& Int32.toUInt32 31)).toInt32) &&& (1431655765 : Int32))) &&& (858993459 : Int32)) + ((((a0 - (((a0.toUInt32 >>> ((1 : Int32).toUInt32 &&& Int32.toUInt32 31)).toInt32) &&& (1431655765 : Int32))).toUInt32 >>> ((2 : Int32).toUInt32 &&& Int32.toUInt32 31)).toInt32) &&& (858993459 : Int32))).toUInt32 >>> ((4 : Int32).toUInt32 &&& Int32.toUInt32 31)).toInt32)) &&& (252645135 : Int32)) + (((((((a0 - (((a0.toUInt32 >>> ((1 : Int32).toUInt32 &&& Int32.toUInt32 31)).toInt32) &&& (1431655765 : Int32))) &&& (858993459 : Int32)) + ((((a0 - (((a0.toUInt32 >>> ((1 : Int32).toUInt32 &&& Int32.toUInt32 31)).toInt32) &&& (1431655765 : Int32))).toUInt32 >>> ((2 : Int32).toUInt32 &&& Int32.toUInt32 31)).toInt32) &&& (858993459 : Int32))) + (((((a0 - (((a0.toUInt32 >>> ((1 : Int32).toUInt32 &&& Int32.toUInt32 31)).toInt32) &&& (1431655765 : Int32))) &&& (858993459 : Int32)) + ((((a0 - (((a0.toUInt32 >>> ((1 : Int32).toUInt32 &&& Int32.toUInt32 31)).toInt32) &&& (1431655765 : Int32))).toUInt32 >>> ((2 : Int32).toUInt32 &&& Int32.toUInt32 31)).toInt32) &&& (858993459 : Int32))).toUInt32 >>> ((4 : Int32).toUInt32 &&& Int32.toUInt32 31)).toInt32)) &&& (252645135 : Int32)).toUInt32 >>> ((8 : Int32).toUInt32 &&& Int32.toUInt32 31)).toInt32)) + ((((((((a0 - (((a0.toUInt32 >>> ((1 : Int32).toUInt32 &&& Int32.toUInt32 31)).toInt32) &&& (1431655765 : Int32))) &&& (858993459 : Int32)) + ((((a0 - (((a0.toUInt32 >>> ((1 : Int32).toUInt32 &&& Int32.toUInt32 31)).toInt32) &&& (1431655765 : Int32))).toUInt32 >>> ((2 : Int32).toUInt32 &&& Int32.toUInt32 31)).toInt32) &&& (858993459 : Int32))) + (((((a0 - (((a0.toUInt32 >>> ((1 : Int32).toUInt32 &&& Int32.toUInt32 31)).toInt32) &&& (1431655765 : Int32))) &&& (858993459 : Int32)) + ((((a0 - (((a0.toUInt32 >>> ((1 : Int32).toUInt32 &&& Int32.toUInt32 31)).toInt32) &&& (1431655765 : Int32))).toUInt32 >>> ((2 : Int32).toUInt32 &&& Int32.toUInt32 31)).toInt32) &&& (858993459 : Int32))).toUInt32 >>> ((4 : Int32).toUInt32 &&& Int32.toUInt32 31)).toInt32)) &&& (252645135 : Int32)) + (((((((a0 - (((a0.toUInt32 >>> ((1 : Int32).toUInt32 &&& Int32.toUInt32 31)).toInt32) &&& (1431655765 : Int32))) &&& (858993459 : Int32)) + ((((a0 - (((a0.toUInt32 >>> ((1 : Int32).toUInt32 &&& Int32.toUInt32 31)).toInt32) &&& (1431655765 : Int32))).toUInt32 >>> ((2 : Int32).toUInt32 &&& Int32.toUInt32 31)).toInt32) &&& (858993459 : Int32))) + (((((a0 - (((a0.toUInt32 >>> ((1 : Int32).toUInt32 &&& Int32.toUInt32 31)).toInt32) &&& (1431655765 : Int32))) &&& (858993459 : Int32)) + ((((a0 - (((a0.toUInt32 >>> ((1 : Int32).toUInt32 &&& Int32.toUInt32 31)).toInt32) &&& (1431655765 : Int32))).toUInt32 >>> ((2 : Int32).toUInt32 &&& Int32.toUInt32 31)).toInt32) &&& (858993459 : Int32))).toUInt32 >>> ((4 : Int32).toUInt32 &&& Int32.toUInt32 31)).toInt32)) &&& (252645135 : Int32)).toUInt32 >>> ((8 : Int32).toUInt32 &&& Int32.toUInt32 31)).toInt32)).toUInt32 >>> ((16 : Int32).toUInt32 &&& Int32.toUInt32 31)).toInt32)))]) dJ6_bitCount_0f7a4_47 rfl (Nat.le_of_ble_eq_true rfl) rfl ?_
  refine g_iload_n dJ6_bitCount_0f7a4_48 rfl rfl ?_
  refine g_bipush (v := (63 : Int32)) dJ6_bitCount_0f7a4_49 (by decide) ?_
  refine g_iand dJ6_bitCount_0f7a4_51 ?_
  cases h
  exact g_iret dJ6_bitCount_0f7a4_52 rfl rfl hq
theorem dX0_leastStrike_0 : decode cX0_leastStrike 0 = .ok (.aload_n 0, 1) := by decide +kernel
theorem dX0_leastStrike_1 : decode cX0_leastStrike 1 = .ok (.iconst 0, 1) := by decide +kernel
theorem dX0_leastStrike_2 : decode cX0_leastStrike 2 = .ok (.invokevirtual 34, 3) := by decide +kernel
theorem dX0_leastStrike_5 : decode cX0_leastStrike 5 = .ok (.istore_n 1, 1) := by decide +kernel
theorem dX0_leastStrike_6 : decode cX0_leastStrike 6 = .ok (.iconst 1, 1) := by decide +kernel
theorem dX0_leastStrike_7 : decode cX0_leastStrike 7 = .ok (.istore_n 2, 1) := by decide +kernel
theorem dX0_leastStrike_8 : decode cX0_leastStrike 8 = .ok (.iload_n 2, 1) := by decide +kernel
theorem dX0_leastStrike_9 : decode cX0_leastStrike 9 = .ok (.iconst 1, 1) := by decide +kernel
theorem dX0_leastStrike_10 : decode cX0_leastStrike 10 = .ok (.aload_n 0, 1) := by decide +kernel
theorem dX0_leastStrike_11 : decode cX0_leastStrike 11 = .ok (.getfield 24, 3) := by decide +kernel
theorem dX0_leastStrike_14 : decode cX0_leastStrike 14 = .ok (.ishl, 1) := by decide +kernel
theorem dX0_leastStrike_15 : decode cX0_leastStrike 15 = .ok (.if_icmp .ge 43, 3) := by decide +kernel
theorem dX0_leastStrike_18 : decode cX0_leastStrike 18 = .ok (.aload_n 0, 1) := by decide +kernel
theorem dX0_leastStrike_19 : decode cX0_leastStrike 19 = .ok (.iload_n 2, 1) := by decide +kernel
theorem dX0_leastStrike_20 : decode cX0_leastStrike 20 = .ok (.invokevirtual 34, 3) := by decide +kernel
theorem dX0_leastStrike_23 : decode cX0_leastStrike 23 = .ok (.istore_n 3, 1) := by decide +kernel
theorem dX0_leastStrike_24 : decode cX0_leastStrike 24 = .ok (.iload_n 1, 1) := by decide +kernel
theorem dX0_leastStrike_25 : decode cX0_leastStrike 25 = .ok (.invokestatic 38, 3) := by decide +kernel
theorem dX0_leastStrike_28 : decode cX0_leastStrike 28 = .ok (.iload_n 3, 1) := by decide +kernel
theorem dX0_leastStrike_29 : decode cX0_leastStrike 29 = .ok (.invokestatic 38, 3) := by decide +kernel
theorem dX0_leastStrike_32 : decode cX0_leastStrike 32 = .ok (.isub, 1) := by decide +kernel
theorem dX0_leastStrike_33 : decode cX0_leastStrike 33 = .ok (.istore 4, 2) := by decide +kernel
theorem dX0_leastStrike_35 : decode cX0_leastStrike 35 = .ok (.iload 4, 2) := by decide +kernel
theorem dX0_leastStrike_37 : decode cX0_leastStrike 37 = .ok (.ifCond .gt 13, 3) := by decide +kernel
theorem dX0_leastStrike_40 : decode cX0_leastStrike 40 = .ok (.iload 4, 2) := by decide +kernel
theorem dX0_leastStrike_42 : decode cX0_leastStrike 42 = .ok (.ifCond .ne 10, 3) := by decide +kernel
theorem dX0_leastStrike_45 : decode cX0_leastStrike 45 = .ok (.iload_n 3, 1) := by decide +kernel
theorem dX0_leastStrike_46 : decode cX0_leastStrike 46 = .ok (.iload_n 1, 1) := by decide +kernel
theorem dX0_leastStrike_47 : decode cX0_leastStrike 47 = .ok (.if_icmp .ge 5, 3) := by decide +kernel
theorem dX0_leastStrike_50 : decode cX0_leastStrike 50 = .ok (.iload_n 3, 1) := by decide +kernel
theorem dX0_leastStrike_51 : decode cX0_leastStrike 51 = .ok (.istore_n 1, 1) := by decide +kernel
theorem dX0_leastStrike_52 : decode cX0_leastStrike 52 = .ok (.iinc 2 1, 3) := by decide +kernel
theorem dX0_leastStrike_55 : decode cX0_leastStrike 55 = .ok (.goto (-47), 3) := by decide +kernel
theorem dX0_leastStrike_58 : decode cX0_leastStrike 58 = .ok (.iload_n 1, 1) := by decide +kernel
theorem dX0_leastStrike_59 : decode cX0_leastStrike 59 = .ok (.ireturn, 1) := by decide +kernel
def L_X0_leastStrike (w : Nat) (p : Nat) : Nat → z_Mem → Int32 → Int32 → Option (Int32 × z_Mem)
  | 0, _, _, _ => none
  | c + 1, M, x1, x2 =>
    if ((1 : Int32) <<< ((M.1 (p + 12) 4) &&& 31)) ≤ x2 then
    some (x1, M)
    else
    (F_X0_brokenBy w M p x2).bind fun q2 =>
    (F_J6_bitCount_0f7a4 w q2.2 x1).bind fun q4 =>
    (F_J6_bitCount_0f7a4 w q4.2 q2.1).bind fun q6 =>
    if (0 : Int32) < (q4.1 - q6.1) then
    L_X0_leastStrike w p c q6.2 q2.1 (x2 + (1 : Int32))
    else
    if (q4.1 - q6.1) = (0 : Int32) then
    if x1 ≤ q2.1 then
    L_X0_leastStrike w p c q6.2 x1 (x2 + (1 : Int32))
    else
    L_X0_leastStrike w p c q6.2 q2.1 (x2 + (1 : Int32))
    else
    L_X0_leastStrike w p c q6.2 x1 (x2 + (1 : Int32))
set_option maxHeartbeats 4000000 in
theorem AL_X0_leastStrike {w : Nat} {p : Nat} (hp : z_par p) : ∀ (c : Nat), (∀ (M : z_Mem) (x1 : Int32) (x2 : Int32) (r : Int32) (M' : z_Mem) (Q : Option Value → z_Mem → Prop), L_X0_leastStrike w p c M x1 x2 = some (r, M') → Q (some (.int r)) M' → z_G none 1 mX0_leastStrike 8 [some (.ref (p + 14)), some (.int x1), some (.int x2), none, none] [] M Q) := by
  intro c
  induction c with
  | zero => exact (fun M x1 x2 r M' Q h hq => by rw [L_X0_leastStrike] at h; cases h)
  | succ c ih =>
    intro M x1 x2 r M' Q h hq
    rw [L_X0_leastStrike] at h
    refine g_iload_n dX0_leastStrike_8 rfl rfl ?_
    refine g_iconst (v := (1 : Int32)) dX0_leastStrike_9 (by decide) ?_
    refine g_aload_n dX0_leastStrike_10 rfl rfl ?_
    refine g_get (a := p + 12) (v := .int (M.1 (p + 12) 4)) dX0_leastStrike_11 f_0_24 (shp_12 hp) rfl rfl ?_
    refine g_ishl dX0_leastStrike_14 ?_
    refine g_ic_ge (t := 58) dX0_leastStrike_15 (by decide) (fun c1 => ?_) (fun c1 => ?_)
    · replace h := z_ift c1 h
      refine g_iload_n dX0_leastStrike_58 rfl rfl ?_
      cases h
      exact g_iret dX0_leastStrike_59 rfl rfl hq
    · replace h := z_iff c1 h
      refine g_aload_n dX0_leastStrike_18 rfl rfl ?_
      refine g_iload_n dX0_leastStrike_19 rfl rfl ?_
      obtain ⟨q2, e3, h⟩ := z_bd h
      refine g_callV (a := p + 12) (as := [.int x2]) (rest := []) (c := mX0_brokenBy) (k1 := 0) dX0_leastStrike_20 rfl rfl rfl (shp_12 hp) rfl rfl (Nat.le_of_ble_eq_true rfl) (Nat.le_of_ble_eq_true rfl) (by decide) ?_
      refine A_X0_brokenBy hp e3 ?_
      show z_G none 1 mX0_leastStrike 23 [some (.ref (p + 14)), some (.int x1), some (.int x2), none, none] [.int q2.1] q2.2 Q
      refine g_istore_n (ls' := [some (.ref (p + 14)), some (.int x1), some (.int x2), some (.int q2.1), none]) dX0_leastStrike_23 rfl (Nat.le_of_ble_eq_true rfl) rfl ?_
      refine g_iload_n dX0_leastStrike_24 rfl rfl ?_
      obtain ⟨q4, e5, h⟩ := z_bd h
      refine g_callS (as := [.int x1]) (rest := []) (c := mJ6_bitCount_0f7a4) (k1 := 0) dX0_leastStrike_25 rfl rfl rfl rfl rfl (Nat.le_of_ble_eq_true rfl) (Nat.le_of_ble_eq_true rfl) (by decide) ?_
      refine A_J6_bitCount_0f7a4 e5 ?_
      show z_G none 1 mX0_leastStrike 28 [some (.ref (p + 14)), some (.int x1), some (.int x2), some (.int q2.1), none] [.int q4.1] q4.2 Q
      refine g_iload_n dX0_leastStrike_28 rfl rfl ?_
      obtain ⟨q6, e7, h⟩ := z_bd h
      refine g_callS (as := [.int q2.1]) (rest := [.int q4.1]) (c := mJ6_bitCount_0f7a4) (k1 := 0) dX0_leastStrike_29 rfl rfl rfl rfl rfl (Nat.le_of_ble_eq_true rfl) (Nat.le_of_ble_eq_true rfl) (by decide) ?_
      refine A_J6_bitCount_0f7a4 e7 ?_
      show z_G none 1 mX0_leastStrike 32 [some (.ref (p + 14)), some (.int x1), some (.int x2), some (.int q2.1), none] [.int q6.1, .int q4.1] q6.2 Q
      refine g_isub dX0_leastStrike_32 ?_
      refine g_istore (ls' := [some (.ref (p + 14)), some (.int x1), some (.int x2), some (.int q2.1), some (.int (q4.1 - q6.1))]) dX0_leastStrike_33 (Nat.le_of_ble_eq_true rfl) rfl ?_
      refine g_iload dX0_leastStrike_35 rfl ?_
      refine g_if_gt (t := 50) dX0_leastStrike_37 (by decide) (fun c8 => ?_) (fun c8 => ?_)
      · replace h := z_ift c8 h
        refine g_iload_n dX0_leastStrike_50 rfl rfl ?_
        refine g_istore_n (ls' := [some (.ref (p + 14)), some (.int q2.1), some (.int x2), some (.int q2.1), some (.int (q4.1 - q6.1))]) dX0_leastStrike_51 rfl (Nat.le_of_ble_eq_true rfl) rfl ?_
        refine g_iinc (v := x2 + (1 : Int32)) (ls' := [some (.ref (p + 14)), some (.int q2.1), some (.int (x2 + (1 : Int32))), some (.int q2.1), some (.int (q4.1 - q6.1))]) dX0_leastStrike_52 rfl rfl rfl ?_
        refine g_goto (t := 8) dX0_leastStrike_55 (by decide) ?_
        exact g_sub (z_sub_s (z_sub_s (z_sub_s (z_sub_n (z_sub_n z_sub_nil))))) (ih _ _ _ _ _ _ h hq)
      · replace h := z_iff c8 h
        refine g_iload dX0_leastStrike_40 rfl ?_
        refine g_if_ne (t := 52) dX0_leastStrike_42 (by decide) (fun c9 => ?_) (fun c9 => ?_)
        · replace h := z_iff c9 h
          refine g_iinc (v := x2 + (1 : Int32)) (ls' := [some (.ref (p + 14)), some (.int x1), some (.int (x2 + (1 : Int32))), some (.int q2.1), some (.int (q4.1 - q6.1))]) dX0_leastStrike_52 rfl rfl rfl ?_
          refine g_goto (t := 8) dX0_leastStrike_55 (by decide) ?_
          exact g_sub (z_sub_s (z_sub_s (z_sub_s (z_sub_n (z_sub_n z_sub_nil))))) (ih _ _ _ _ _ _ h hq)
        · replace h := z_ift c9 h
          refine g_iload_n dX0_leastStrike_45 rfl rfl ?_
          refine g_iload_n dX0_leastStrike_46 rfl rfl ?_
          refine g_ic_ge (t := 52) dX0_leastStrike_47 (by decide) (fun c10 => ?_) (fun c10 => ?_)
          · replace h := z_ift c10 h
            refine g_iinc (v := x2 + (1 : Int32)) (ls' := [some (.ref (p + 14)), some (.int x1), some (.int (x2 + (1 : Int32))), some (.int q2.1), some (.int (q4.1 - q6.1))]) dX0_leastStrike_52 rfl rfl rfl ?_
            refine g_goto (t := 8) dX0_leastStrike_55 (by decide) ?_
            exact g_sub (z_sub_s (z_sub_s (z_sub_s (z_sub_n (z_sub_n z_sub_nil))))) (ih _ _ _ _ _ _ h hq)
          · replace h := z_iff c10 h
            refine g_iload_n dX0_leastStrike_50 rfl rfl ?_
            refine g_istore_n (ls' := [some (.ref (p + 14)), some (.int q2.1), some (.int x2), some (.int q2.1), some (.int (q4.1 - q6.1))]) dX0_leastStrike_51 rfl (Nat.le_of_ble_eq_true rfl) rfl ?_
            refine g_iinc (v := x2 + (1 : Int32)) (ls' := [some (.ref (p + 14)), some (.int q2.1), some (.int (x2 + (1 : Int32))), some (.int q2.1), some (.int (q4.1 - q6.1))]) dX0_leastStrike_52 rfl rfl rfl ?_
            refine g_goto (t := 8) dX0_leastStrike_55 (by decide) ?_
            exact g_sub (z_sub_s (z_sub_s (z_sub_s (z_sub_n (z_sub_n z_sub_nil))))) (ih _ _ _ _ _ _ h hq)
def F_X0_leastStrike (w : Nat) (M : z_Mem) (p : Nat) : Option (Int32 × z_Mem) :=
  (F_X0_brokenBy w M p (0 : Int32)).bind fun q11 =>
  L_X0_leastStrike w p w q11.2 q11.1 (1 : Int32)
set_option maxHeartbeats 4000000 in
theorem A_X0_leastStrike {w : Nat} {M : z_Mem} {p : Nat} (hp : z_par p) {r : Int32} {M' : z_Mem} {Q : Option Value → z_Mem → Prop} (h : F_X0_leastStrike w M p = some (r, M')) (hq : Q (some (.int r)) M') : z_Cl 1 mX0_leastStrike [.ref (p + 14)] M Q := by
  refine g_in (ls := [some (.ref (p + 14)), none, none, none, none]) rfl ?_
  unfold F_X0_leastStrike at h
  refine g_aload_n dX0_leastStrike_0 rfl rfl ?_
  refine g_iconst (v := (0 : Int32)) dX0_leastStrike_1 (by decide) ?_
  obtain ⟨q11, e12, h⟩ := z_bd h
  refine g_callV (a := p + 12) (as := [.int (0 : Int32)]) (rest := []) (c := mX0_brokenBy) (k1 := 0) dX0_leastStrike_2 rfl rfl rfl (shp_12 hp) rfl rfl (Nat.le_of_ble_eq_true rfl) (Nat.le_of_ble_eq_true rfl) (by decide) ?_
  refine A_X0_brokenBy hp e12 ?_
  show z_G none 1 mX0_leastStrike 5 [some (.ref (p + 14)), none, none, none, none] [.int q11.1] q11.2 Q
  refine g_istore_n (ls' := [some (.ref (p + 14)), some (.int q11.1), none, none, none]) dX0_leastStrike_5 rfl (Nat.le_of_ble_eq_true rfl) rfl ?_
  refine g_iconst (v := (1 : Int32)) dX0_leastStrike_6 (by decide) ?_
  refine g_istore_n (ls' := [some (.ref (p + 14)), some (.int q11.1), some (.int (1 : Int32)), none, none]) dX0_leastStrike_7 rfl (Nat.le_of_ble_eq_true rfl) rfl ?_
  exact g_sub (z_sub_s (z_sub_s (z_sub_s (z_sub_n (z_sub_n z_sub_nil))))) ((AL_X0_leastStrike (w := w) hp w) _ _ _ _ _ _ h hq)
theorem dX0_sureTruth_0 : decode cX0_sureTruth 0 = .ok (.iconst (-1), 1) := by decide +kernel
theorem dX0_sureTruth_1 : decode cX0_sureTruth 1 = .ok (.istore_n 2, 1) := by decide +kernel
theorem dX0_sureTruth_2 : decode cX0_sureTruth 2 = .ok (.iconst 0, 1) := by decide +kernel
theorem dX0_sureTruth_3 : decode cX0_sureTruth 3 = .ok (.istore_n 3, 1) := by decide +kernel
theorem dX0_sureTruth_4 : decode cX0_sureTruth 4 = .ok (.iload_n 3, 1) := by decide +kernel
theorem dX0_sureTruth_5 : decode cX0_sureTruth 5 = .ok (.iconst 1, 1) := by decide +kernel
theorem dX0_sureTruth_6 : decode cX0_sureTruth 6 = .ok (.aload_n 0, 1) := by decide +kernel
theorem dX0_sureTruth_7 : decode cX0_sureTruth 7 = .ok (.getfield 24, 3) := by decide +kernel
theorem dX0_sureTruth_10 : decode cX0_sureTruth 10 = .ok (.ishl, 1) := by decide +kernel
theorem dX0_sureTruth_11 : decode cX0_sureTruth 11 = .ok (.if_icmp .ge 40, 3) := by decide +kernel
theorem dX0_sureTruth_14 : decode cX0_sureTruth 14 = .ok (.aload_n 0, 1) := by decide +kernel
theorem dX0_sureTruth_15 : decode cX0_sureTruth 15 = .ok (.iload_n 3, 1) := by decide +kernel
theorem dX0_sureTruth_16 : decode cX0_sureTruth 16 = .ok (.invokevirtual 34, 3) := by decide +kernel
theorem dX0_sureTruth_19 : decode cX0_sureTruth 19 = .ok (.ifCond .ne 26, 3) := by decide +kernel
theorem dX0_sureTruth_22 : decode cX0_sureTruth 22 = .ok (.iload_n 3, 1) := by decide +kernel
theorem dX0_sureTruth_23 : decode cX0_sureTruth 23 = .ok (.iload_n 1, 1) := by decide +kernel
theorem dX0_sureTruth_24 : decode cX0_sureTruth 24 = .ok (.ishr, 1) := by decide +kernel
theorem dX0_sureTruth_25 : decode cX0_sureTruth 25 = .ok (.iconst 1, 1) := by decide +kernel
theorem dX0_sureTruth_26 : decode cX0_sureTruth 26 = .ok (.iand, 1) := by decide +kernel
theorem dX0_sureTruth_27 : decode cX0_sureTruth 27 = .ok (.istore 4, 2) := by decide +kernel
theorem dX0_sureTruth_29 : decode cX0_sureTruth 29 = .ok (.iload_n 2, 1) := by decide +kernel
theorem dX0_sureTruth_30 : decode cX0_sureTruth 30 = .ok (.iconst (-1), 1) := by decide +kernel
theorem dX0_sureTruth_31 : decode cX0_sureTruth 31 = .ok (.if_icmp .eq 11, 3) := by decide +kernel
theorem dX0_sureTruth_34 : decode cX0_sureTruth 34 = .ok (.iload_n 2, 1) := by decide +kernel
theorem dX0_sureTruth_35 : decode cX0_sureTruth 35 = .ok (.iload 4, 2) := by decide +kernel
theorem dX0_sureTruth_37 : decode cX0_sureTruth 37 = .ok (.if_icmp .eq 5, 3) := by decide +kernel
theorem dX0_sureTruth_40 : decode cX0_sureTruth 40 = .ok (.iconst (-1), 1) := by decide +kernel
theorem dX0_sureTruth_41 : decode cX0_sureTruth 41 = .ok (.ireturn, 1) := by decide +kernel
theorem dX0_sureTruth_42 : decode cX0_sureTruth 42 = .ok (.iload 4, 2) := by decide +kernel
theorem dX0_sureTruth_44 : decode cX0_sureTruth 44 = .ok (.istore_n 2, 1) := by decide +kernel
theorem dX0_sureTruth_45 : decode cX0_sureTruth 45 = .ok (.iinc 3 1, 3) := by decide +kernel
theorem dX0_sureTruth_48 : decode cX0_sureTruth 48 = .ok (.goto (-44), 3) := by decide +kernel
theorem dX0_sureTruth_51 : decode cX0_sureTruth 51 = .ok (.iload_n 2, 1) := by decide +kernel
theorem dX0_sureTruth_52 : decode cX0_sureTruth 52 = .ok (.ireturn, 1) := by decide +kernel
def L_X0_sureTruth (w : Nat) (p : Nat) : Nat → z_Mem → Int32 → Int32 → Int32 → Option (Int32 × z_Mem)
  | 0, _, _, _, _ => none
  | c + 1, M, x1, x2, x3 =>
    if ((1 : Int32) <<< ((M.1 (p + 12) 4) &&& 31)) ≤ x3 then
    some (x2, M)
    else
    (F_X0_brokenBy w M p x3).bind fun q2 =>
    if q2.1 = (0 : Int32) then
    if x2 = (-1 : Int32) then
    L_X0_sureTruth w p c q2.2 x1 ((x3 >>> (x1 &&& 31)) &&& (1 : Int32)) (x3 + (1 : Int32))
    else
    if x2 = ((x3 >>> (x1 &&& 31)) &&& (1 : Int32)) then
    L_X0_sureTruth w p c q2.2 x1 ((x3 >>> (x1 &&& 31)) &&& (1 : Int32)) (x3 + (1 : Int32))
    else
    some ((-1 : Int32), q2.2)
    else
    L_X0_sureTruth w p c q2.2 x1 x2 (x3 + (1 : Int32))
set_option maxHeartbeats 4000000 in
theorem AL_X0_sureTruth {w : Nat} {p : Nat} (hp : z_par p) : ∀ (c : Nat), (∀ (M : z_Mem) (x1 : Int32) (x2 : Int32) (x3 : Int32) (r : Int32) (M' : z_Mem) (Q : Option Value → z_Mem → Prop), L_X0_sureTruth w p c M x1 x2 x3 = some (r, M') → Q (some (.int r)) M' → z_G none 1 mX0_sureTruth 4 [some (.ref (p + 14)), some (.int x1), some (.int x2), some (.int x3), none] [] M Q) := by
  intro c
  induction c with
  | zero => exact (fun M x1 x2 x3 r M' Q h hq => by rw [L_X0_sureTruth] at h; cases h)
  | succ c ih =>
    intro M x1 x2 x3 r M' Q h hq
    rw [L_X0_sureTruth] at h
    refine g_iload_n dX0_sureTruth_4 rfl rfl ?_
    refine g_iconst (v := (1 : Int32)) dX0_sureTruth_5 (by decide) ?_
    refine g_aload_n dX0_sureTruth_6 rfl rfl ?_
    refine g_get (a := p + 12) (v := .int (M.1 (p + 12) 4)) dX0_sureTruth_7 f_0_24 (shp_12 hp) rfl rfl ?_
    refine g_ishl dX0_sureTruth_10 ?_
    refine g_ic_ge (t := 51) dX0_sureTruth_11 (by decide) (fun c1 => ?_) (fun c1 => ?_)
    · replace h := z_ift c1 h
      refine g_iload_n dX0_sureTruth_51 rfl rfl ?_
      cases h
      exact g_iret dX0_sureTruth_52 rfl rfl hq
    · replace h := z_iff c1 h
      refine g_aload_n dX0_sureTruth_14 rfl rfl ?_
      refine g_iload_n dX0_sureTruth_15 rfl rfl ?_
      obtain ⟨q2, e3, h⟩ := z_bd h
      refine g_callV (a := p + 12) (as := [.int x3]) (rest := []) (c := mX0_brokenBy) (k1 := 0) dX0_sureTruth_16 rfl rfl rfl (shp_12 hp) rfl rfl (Nat.le_of_ble_eq_true rfl) (Nat.le_of_ble_eq_true rfl) (by decide) ?_
      refine A_X0_brokenBy hp e3 ?_
      show z_G none 1 mX0_sureTruth 19 [some (.ref (p + 14)), some (.int x1), some (.int x2), some (.int x3), none] [.int q2.1] q2.2 Q
      refine g_if_ne (t := 45) dX0_sureTruth_19 (by decide) (fun c4 => ?_) (fun c4 => ?_)
      · replace h := z_iff c4 h
        refine g_iinc (v := x3 + (1 : Int32)) (ls' := [some (.ref (p + 14)), some (.int x1), some (.int x2), some (.int (x3 + (1 : Int32))), none]) dX0_sureTruth_45 rfl rfl rfl ?_
        refine g_goto (t := 4) dX0_sureTruth_48 (by decide) ?_
        exact g_sub (z_sub_s (z_sub_s (z_sub_s (z_sub_s (z_sub_n z_sub_nil))))) (ih _ _ _ _ _ _ _ h hq)
      · replace h := z_ift c4 h
        refine g_iload_n dX0_sureTruth_22 rfl rfl ?_
        refine g_iload_n dX0_sureTruth_23 rfl rfl ?_
        refine g_ishr dX0_sureTruth_24 ?_
        refine g_iconst (v := (1 : Int32)) dX0_sureTruth_25 (by decide) ?_
        refine g_iand dX0_sureTruth_26 ?_
        refine g_istore (ls' := [some (.ref (p + 14)), some (.int x1), some (.int x2), some (.int x3), some (.int ((x3 >>> (x1 &&& 31)) &&& (1 : Int32)))]) dX0_sureTruth_27 (Nat.le_of_ble_eq_true rfl) rfl ?_
        refine g_iload_n dX0_sureTruth_29 rfl rfl ?_
        refine g_iconst (v := (-1 : Int32)) dX0_sureTruth_30 (by decide) ?_
        refine g_ic_eq (t := 42) dX0_sureTruth_31 (by decide) (fun c5 => ?_) (fun c5 => ?_)
        · replace h := z_ift c5 h
          refine g_iload dX0_sureTruth_42 rfl ?_
          refine g_istore_n (ls' := [some (.ref (p + 14)), some (.int x1), some (.int ((x3 >>> (x1 &&& 31)) &&& (1 : Int32))), some (.int x3), some (.int ((x3 >>> (x1 &&& 31)) &&& (1 : Int32)))]) dX0_sureTruth_44 rfl (Nat.le_of_ble_eq_true rfl) rfl ?_
          refine g_iinc (v := x3 + (1 : Int32)) (ls' := [some (.ref (p + 14)), some (.int x1), some (.int ((x3 >>> (x1 &&& 31)) &&& (1 : Int32))), some (.int (x3 + (1 : Int32))), some (.int ((x3 >>> (x1 &&& 31)) &&& (1 : Int32)))]) dX0_sureTruth_45 rfl rfl rfl ?_
          refine g_goto (t := 4) dX0_sureTruth_48 (by decide) ?_
          exact g_sub (z_sub_s (z_sub_s (z_sub_s (z_sub_s (z_sub_n z_sub_nil))))) (ih _ _ _ _ _ _ _ h hq)
        · replace h := z_iff c5 h
          refine g_iload_n dX0_sureTruth_34 rfl rfl ?_
          refine g_iload dX0_sureTruth_35 rfl ?_
          refine g_ic_eq (t := 42) dX0_sureTruth_37 (by decide) (fun c6 => ?_) (fun c6 => ?_)
          · replace h := z_ift c6 h
            refine g_iload dX0_sureTruth_42 rfl ?_
            refine g_istore_n (ls' := [some (.ref (p + 14)), some (.int x1), some (.int ((x3 >>> (x1 &&& 31)) &&& (1 : Int32))), some (.int x3), some (.int ((x3 >>> (x1 &&& 31)) &&& (1 : Int32)))]) dX0_sureTruth_44 rfl (Nat.le_of_ble_eq_true rfl) rfl ?_
            refine g_iinc (v := x3 + (1 : Int32)) (ls' := [some (.ref (p + 14)), some (.int x1), some (.int ((x3 >>> (x1 &&& 31)) &&& (1 : Int32))), some (.int (x3 + (1 : Int32))), some (.int ((x3 >>> (x1 &&& 31)) &&& (1 : Int32)))]) dX0_sureTruth_45 rfl rfl rfl ?_
            refine g_goto (t := 4) dX0_sureTruth_48 (by decide) ?_
            exact g_sub (z_sub_s (z_sub_s (z_sub_s (z_sub_s (z_sub_n z_sub_nil))))) (ih _ _ _ _ _ _ _ h hq)
          · replace h := z_iff c6 h
            refine g_iconst (v := (-1 : Int32)) dX0_sureTruth_40 (by decide) ?_
            cases h
            exact g_iret dX0_sureTruth_41 rfl rfl hq
def F_X0_sureTruth (w : Nat) (M : z_Mem) (p : Nat) (a1 : Int32) : Option (Int32 × z_Mem) :=
  L_X0_sureTruth w p w M a1 (-1 : Int32) (0 : Int32)
set_option maxHeartbeats 4000000 in
theorem A_X0_sureTruth {w : Nat} {M : z_Mem} {p : Nat} (hp : z_par p) {a1 : Int32} {r : Int32} {M' : z_Mem} {Q : Option Value → z_Mem → Prop} (h : F_X0_sureTruth w M p a1 = some (r, M')) (hq : Q (some (.int r)) M') : z_Cl 1 mX0_sureTruth [.ref (p + 14), .int a1] M Q := by
  refine g_in (ls := [some (.ref (p + 14)), some (.int a1), none, none, none]) rfl ?_
  unfold F_X0_sureTruth at h
  refine g_iconst (v := (-1 : Int32)) dX0_sureTruth_0 (by decide) ?_
  refine g_istore_n (ls' := [some (.ref (p + 14)), some (.int a1), some (.int (-1 : Int32)), none, none]) dX0_sureTruth_1 rfl (Nat.le_of_ble_eq_true rfl) rfl ?_
  refine g_iconst (v := (0 : Int32)) dX0_sureTruth_2 (by decide) ?_
  refine g_istore_n (ls' := [some (.ref (p + 14)), some (.int a1), some (.int (-1 : Int32)), some (.int (0 : Int32)), none]) dX0_sureTruth_3 rfl (Nat.le_of_ble_eq_true rfl) rfl ?_
  exact g_sub (z_sub_s (z_sub_s (z_sub_s (z_sub_s (z_sub_n z_sub_nil))))) ((AL_X0_sureTruth (w := w) hp w) _ _ _ _ _ _ _ h hq)
theorem dX0_copyFrom_0 : decode cX0_copyFrom 0 = .ok (.aload_n 0, 1) := by decide +kernel
theorem dX0_copyFrom_1 : decode cX0_copyFrom 1 = .ok (.aload_n 1, 1) := by decide +kernel
theorem dX0_copyFrom_2 : decode cX0_copyFrom 2 = .ok (.getfield 24, 3) := by decide +kernel
theorem dX0_copyFrom_5 : decode cX0_copyFrom 5 = .ok (.putfield 24, 3) := by decide +kernel
theorem dX0_copyFrom_8 : decode cX0_copyFrom 8 = .ok (.aload_n 0, 1) := by decide +kernel
theorem dX0_copyFrom_9 : decode cX0_copyFrom 9 = .ok (.aload_n 1, 1) := by decide +kernel
theorem dX0_copyFrom_10 : decode cX0_copyFrom 10 = .ok (.getfield 28, 3) := by decide +kernel
theorem dX0_copyFrom_13 : decode cX0_copyFrom 13 = .ok (.putfield 28, 3) := by decide +kernel
theorem dX0_copyFrom_16 : decode cX0_copyFrom 16 = .ok (.aload_n 0, 1) := by decide +kernel
theorem dX0_copyFrom_17 : decode cX0_copyFrom 17 = .ok (.aload_n 1, 1) := by decide +kernel
theorem dX0_copyFrom_18 : decode cX0_copyFrom 18 = .ok (.getfield 31, 3) := by decide +kernel
theorem dX0_copyFrom_21 : decode cX0_copyFrom 21 = .ok (.putfield 31, 3) := by decide +kernel
theorem dX0_copyFrom_24 : decode cX0_copyFrom 24 = .ok (.iconst 0, 1) := by decide +kernel
theorem dX0_copyFrom_25 : decode cX0_copyFrom 25 = .ok (.istore_n 2, 1) := by decide +kernel
theorem dX0_copyFrom_26 : decode cX0_copyFrom 26 = .ok (.iload_n 2, 1) := by decide +kernel
theorem dX0_copyFrom_27 : decode cX0_copyFrom 27 = .ok (.aload_n 0, 1) := by decide +kernel
theorem dX0_copyFrom_28 : decode cX0_copyFrom 28 = .ok (.getfield 28, 3) := by decide +kernel
theorem dX0_copyFrom_31 : decode cX0_copyFrom 31 = .ok (.if_icmp .ge 33, 3) := by decide +kernel
theorem dX0_copyFrom_34 : decode cX0_copyFrom 34 = .ok (.aload_n 0, 1) := by decide +kernel
theorem dX0_copyFrom_35 : decode cX0_copyFrom 35 = .ok (.getfield 11, 3) := by decide +kernel
theorem dX0_copyFrom_38 : decode cX0_copyFrom 38 = .ok (.iload_n 2, 1) := by decide +kernel
theorem dX0_copyFrom_39 : decode cX0_copyFrom 39 = .ok (.aload_n 1, 1) := by decide +kernel
theorem dX0_copyFrom_40 : decode cX0_copyFrom 40 = .ok (.getfield 11, 3) := by decide +kernel
theorem dX0_copyFrom_43 : decode cX0_copyFrom 43 = .ok (.iload_n 2, 1) := by decide +kernel
theorem dX0_copyFrom_44 : decode cX0_copyFrom 44 = .ok (.iaload, 1) := by decide +kernel
theorem dX0_copyFrom_45 : decode cX0_copyFrom 45 = .ok (.iastore, 1) := by decide +kernel
theorem dX0_copyFrom_46 : decode cX0_copyFrom 46 = .ok (.aload_n 0, 1) := by decide +kernel
theorem dX0_copyFrom_47 : decode cX0_copyFrom 47 = .ok (.getfield 15, 3) := by decide +kernel
theorem dX0_copyFrom_50 : decode cX0_copyFrom 50 = .ok (.iload_n 2, 1) := by decide +kernel
theorem dX0_copyFrom_51 : decode cX0_copyFrom 51 = .ok (.aload_n 1, 1) := by decide +kernel
theorem dX0_copyFrom_52 : decode cX0_copyFrom 52 = .ok (.getfield 15, 3) := by decide +kernel
theorem dX0_copyFrom_55 : decode cX0_copyFrom 55 = .ok (.iload_n 2, 1) := by decide +kernel
theorem dX0_copyFrom_56 : decode cX0_copyFrom 56 = .ok (.iaload, 1) := by decide +kernel
theorem dX0_copyFrom_57 : decode cX0_copyFrom 57 = .ok (.iastore, 1) := by decide +kernel
theorem dX0_copyFrom_58 : decode cX0_copyFrom 58 = .ok (.iinc 2 1, 3) := by decide +kernel
theorem dX0_copyFrom_61 : decode cX0_copyFrom 61 = .ok (.goto (-35), 3) := by decide +kernel
theorem dX0_copyFrom_64 : decode cX0_copyFrom 64 = .ok (.iconst 0, 1) := by decide +kernel
theorem dX0_copyFrom_65 : decode cX0_copyFrom 65 = .ok (.istore_n 2, 1) := by decide +kernel
theorem dX0_copyFrom_66 : decode cX0_copyFrom 66 = .ok (.iload_n 2, 1) := by decide +kernel
theorem dX0_copyFrom_67 : decode cX0_copyFrom 67 = .ok (.aload_n 0, 1) := by decide +kernel
theorem dX0_copyFrom_68 : decode cX0_copyFrom 68 = .ok (.getfield 31, 3) := by decide +kernel
theorem dX0_copyFrom_71 : decode cX0_copyFrom 71 = .ok (.if_icmp .ge 33, 3) := by decide +kernel
theorem dX0_copyFrom_74 : decode cX0_copyFrom 74 = .ok (.aload_n 0, 1) := by decide +kernel
theorem dX0_copyFrom_75 : decode cX0_copyFrom 75 = .ok (.getfield 18, 3) := by decide +kernel
theorem dX0_copyFrom_78 : decode cX0_copyFrom 78 = .ok (.iload_n 2, 1) := by decide +kernel
theorem dX0_copyFrom_79 : decode cX0_copyFrom 79 = .ok (.aload_n 1, 1) := by decide +kernel
theorem dX0_copyFrom_80 : decode cX0_copyFrom 80 = .ok (.getfield 18, 3) := by decide +kernel
theorem dX0_copyFrom_83 : decode cX0_copyFrom 83 = .ok (.iload_n 2, 1) := by decide +kernel
theorem dX0_copyFrom_84 : decode cX0_copyFrom 84 = .ok (.iaload, 1) := by decide +kernel
theorem dX0_copyFrom_85 : decode cX0_copyFrom 85 = .ok (.iastore, 1) := by decide +kernel
theorem dX0_copyFrom_86 : decode cX0_copyFrom 86 = .ok (.aload_n 0, 1) := by decide +kernel
theorem dX0_copyFrom_87 : decode cX0_copyFrom 87 = .ok (.getfield 21, 3) := by decide +kernel
theorem dX0_copyFrom_90 : decode cX0_copyFrom 90 = .ok (.iload_n 2, 1) := by decide +kernel
theorem dX0_copyFrom_91 : decode cX0_copyFrom 91 = .ok (.aload_n 1, 1) := by decide +kernel
theorem dX0_copyFrom_92 : decode cX0_copyFrom 92 = .ok (.getfield 21, 3) := by decide +kernel
theorem dX0_copyFrom_95 : decode cX0_copyFrom 95 = .ok (.iload_n 2, 1) := by decide +kernel
theorem dX0_copyFrom_96 : decode cX0_copyFrom 96 = .ok (.iaload, 1) := by decide +kernel
theorem dX0_copyFrom_97 : decode cX0_copyFrom 97 = .ok (.iastore, 1) := by decide +kernel
theorem dX0_copyFrom_98 : decode cX0_copyFrom 98 = .ok (.iinc 2 1, 3) := by decide +kernel
theorem dX0_copyFrom_101 : decode cX0_copyFrom 101 = .ok (.goto (-35), 3) := by decide +kernel
theorem dX0_copyFrom_104 : decode cX0_copyFrom 104 = .ok (.return_, 1) := by decide +kernel
def L_X0_copyFrom (w : Nat) (p : Nat) (q : Nat) : Nat → Nat → z_Mem → Int32 → Option (Unit × z_Mem)
  | 0, _, _, _ => none
  | c + 1, hd, M, x2 =>
    if hd = 0 then
      if (M.1 (p + 12) 5) ≤ x2 then
      L_X0_copyFrom w p q c 1 M (0 : Int32)
      else
      if x2 < 0 ∨ 8 ≤ x2.toNatClampNeg then none else
      if x2 < 0 ∨ 8 ≤ x2.toNatClampNeg then none else
      if x2 < 0 ∨ 8 ≤ x2.toNatClampNeg then none else
      if x2 < 0 ∨ 8 ≤ x2.toNatClampNeg then none else
      L_X0_copyFrom w p q c 0 (z_wI (z_wI M (p + 13) x2.toNatClampNeg (M.1 (q + 13) x2.toNatClampNeg)) (p + 14) x2.toNatClampNeg ((z_wI M (p + 13) x2.toNatClampNeg (M.1 (q + 13) x2.toNatClampNeg)).1 (q + 14) x2.toNatClampNeg)) (x2 + (1 : Int32))
    else
    if hd = 1 then
      if (M.1 (p + 12) 6) ≤ x2 then
      some ((), M)
      else
      if x2 < 0 ∨ 6 ≤ x2.toNatClampNeg then none else
      if x2 < 0 ∨ 6 ≤ x2.toNatClampNeg then none else
      if x2 < 0 ∨ 6 ≤ x2.toNatClampNeg then none else
      if x2 < 0 ∨ 6 ≤ x2.toNatClampNeg then none else
      L_X0_copyFrom w p q c 1 (z_wI (z_wI M (p + 15) x2.toNatClampNeg (M.1 (q + 15) x2.toNatClampNeg)) (p + 16) x2.toNatClampNeg ((z_wI M (p + 15) x2.toNatClampNeg (M.1 (q + 15) x2.toNatClampNeg)).1 (q + 16) x2.toNatClampNeg)) (x2 + (1 : Int32))
    else
    none
set_option maxHeartbeats 4000000 in
theorem AL_X0_copyFrom {w : Nat} {p : Nat} (hp : z_par p) {q : Nat} (hq2 : z_par q) : ∀ (c : Nat), (∀ (M : z_Mem) (x2 : Int32) (r : Unit) (M' : z_Mem) (Q : Option Value → z_Mem → Prop), L_X0_copyFrom w p q c 0 M x2 = some (r, M') → Q none M' → z_G none 0 mX0_copyFrom 26 [some (.ref (p + 14)), some (.ref (q + 14)), some (.int x2)] [] M Q) ∧ (∀ (M : z_Mem) (x2 : Int32) (r : Unit) (M' : z_Mem) (Q : Option Value → z_Mem → Prop), L_X0_copyFrom w p q c 1 M x2 = some (r, M') → Q none M' → z_G none 0 mX0_copyFrom 66 [some (.ref (p + 14)), some (.ref (q + 14)), some (.int x2)] [] M Q) := by
  intro c
  induction c with
  | zero => exact ⟨(fun M x2 r M' Q h hq => by rw [L_X0_copyFrom] at h; cases h), (fun M x2 r M' Q h hq => by rw [L_X0_copyFrom] at h; cases h)⟩
  | succ c ih =>
    refine ⟨fun M x2 r M' Q h hq => ?_, fun M x2 r M' Q h hq => ?_⟩
    · rw [L_X0_copyFrom] at h
      replace h := z_ift rfl h
      refine g_iload_n dX0_copyFrom_26 rfl rfl ?_
      refine g_aload_n dX0_copyFrom_27 rfl rfl ?_
      refine g_get (a := p + 12) (v := .int (M.1 (p + 12) 5)) dX0_copyFrom_28 f_0_28 (shp_12 hp) rfl rfl ?_
      refine g_ic_ge (t := 64) dX0_copyFrom_31 (by decide) (fun c1 => ?_) (fun c1 => ?_)
      · replace h := z_ift c1 h
        refine g_iconst (v := (0 : Int32)) dX0_copyFrom_64 (by decide) ?_
        refine g_istore_n (ls' := [some (.ref (p + 14)), some (.ref (q + 14)), some (.int (0 : Int32))]) dX0_copyFrom_65 rfl (Nat.le_of_ble_eq_true rfl) rfl ?_
        exact g_sub (z_sub_s (z_sub_s (z_sub_s z_sub_nil))) (ih.2 _ _ _ _ _ h hq)
      · replace h := z_iff c1 h
        refine g_aload_n dX0_copyFrom_34 rfl rfl ?_
        refine g_get (a := p + 12) (v := .ref (p + 15)) dX0_copyFrom_35 f_0_11 (shp_12 hp) rfl rfl ?_
        refine g_iload_n dX0_copyFrom_38 rfl rfl ?_
        refine g_aload_n dX0_copyFrom_39 rfl rfl ?_
        refine g_get (a := q + 12) (v := .ref (q + 15)) dX0_copyFrom_40 f_0_11 (shp_12 hq2) rfl rfl ?_
        refine g_iload_n dX0_copyFrom_43 rfl rfl ?_
        by_cases g2 : x2 < 0 ∨ 8 ≤ x2.toNatClampNeg
        · rw [if_pos g2] at h; cases h
        replace h := z_iff g2 h
        refine g_iald (a := q + 13) dX0_copyFrom_44 (shp_13 hq2) g2 ?_
        by_cases g3 : x2 < 0 ∨ 8 ≤ x2.toNatClampNeg
        · rw [if_pos g3] at h; cases h
        replace h := z_iff g3 h
        refine g_iast (a := p + 13) dX0_copyFrom_45 (shp_13 hp) g3 ?_
        refine g_aload_n dX0_copyFrom_46 rfl rfl ?_
        refine g_get (a := p + 12) (v := .ref (p + 16)) dX0_copyFrom_47 f_0_15 (shp_12 hp) rfl rfl ?_
        refine g_iload_n dX0_copyFrom_50 rfl rfl ?_
        refine g_aload_n dX0_copyFrom_51 rfl rfl ?_
        refine g_get (a := q + 12) (v := .ref (q + 16)) dX0_copyFrom_52 f_0_15 (shp_12 hq2) rfl rfl ?_
        refine g_iload_n dX0_copyFrom_55 rfl rfl ?_
        by_cases g4 : x2 < 0 ∨ 8 ≤ x2.toNatClampNeg
        · rw [if_pos g4] at h; cases h
        replace h := z_iff g4 h
        refine g_iald (a := q + 14) dX0_copyFrom_56 (shp_14 hq2) g4 ?_
        by_cases g5 : x2 < 0 ∨ 8 ≤ x2.toNatClampNeg
        · rw [if_pos g5] at h; cases h
        replace h := z_iff g5 h
        refine g_iast (a := p + 14) dX0_copyFrom_57 (shp_14 hp) g5 ?_
        refine g_iinc (v := x2 + (1 : Int32)) (ls' := [some (.ref (p + 14)), some (.ref (q + 14)), some (.int (x2 + (1 : Int32)))]) dX0_copyFrom_58 rfl rfl rfl ?_
        refine g_goto (t := 26) dX0_copyFrom_61 (by decide) ?_
        exact g_sub (z_sub_s (z_sub_s (z_sub_s z_sub_nil))) (ih.1 _ _ _ _ _ h hq)
    · rw [L_X0_copyFrom] at h
      replace h := z_iff (by decide) h
      replace h := z_ift rfl h
      refine g_iload_n dX0_copyFrom_66 rfl rfl ?_
      refine g_aload_n dX0_copyFrom_67 rfl rfl ?_
      refine g_get (a := p + 12) (v := .int (M.1 (p + 12) 6)) dX0_copyFrom_68 f_0_31 (shp_12 hp) rfl rfl ?_
      refine g_ic_ge (t := 104) dX0_copyFrom_71 (by decide) (fun c6 => ?_) (fun c6 => ?_)
      · replace h := z_ift c6 h
        cases h
        exact g_vret dX0_copyFrom_104 rfl hq
      · replace h := z_iff c6 h
        refine g_aload_n dX0_copyFrom_74 rfl rfl ?_
        refine g_get (a := p + 12) (v := .ref (p + 17)) dX0_copyFrom_75 f_0_18 (shp_12 hp) rfl rfl ?_
        refine g_iload_n dX0_copyFrom_78 rfl rfl ?_
        refine g_aload_n dX0_copyFrom_79 rfl rfl ?_
        refine g_get (a := q + 12) (v := .ref (q + 17)) dX0_copyFrom_80 f_0_18 (shp_12 hq2) rfl rfl ?_
        refine g_iload_n dX0_copyFrom_83 rfl rfl ?_
        by_cases g7 : x2 < 0 ∨ 6 ≤ x2.toNatClampNeg
        · rw [if_pos g7] at h; cases h
        replace h := z_iff g7 h
        refine g_iald (a := q + 15) dX0_copyFrom_84 (shp_15 hq2) g7 ?_
        by_cases g8 : x2 < 0 ∨ 6 ≤ x2.toNatClampNeg
        · rw [if_pos g8] at h; cases h
        replace h := z_iff g8 h
        refine g_iast (a := p + 15) dX0_copyFrom_85 (shp_15 hp) g8 ?_
        refine g_aload_n dX0_copyFrom_86 rfl rfl ?_
        refine g_get (a := p + 12) (v := .ref (p + 18)) dX0_copyFrom_87 f_0_21 (shp_12 hp) rfl rfl ?_
        refine g_iload_n dX0_copyFrom_90 rfl rfl ?_
        refine g_aload_n dX0_copyFrom_91 rfl rfl ?_
        refine g_get (a := q + 12) (v := .ref (q + 18)) dX0_copyFrom_92 f_0_21 (shp_12 hq2) rfl rfl ?_
        refine g_iload_n dX0_copyFrom_95 rfl rfl ?_
        by_cases g9 : x2 < 0 ∨ 6 ≤ x2.toNatClampNeg
        · rw [if_pos g9] at h; cases h
        replace h := z_iff g9 h
        refine g_iald (a := q + 16) dX0_copyFrom_96 (shp_16 hq2) g9 ?_
        by_cases g10 : x2 < 0 ∨ 6 ≤ x2.toNatClampNeg
        · rw [if_pos g10] at h; cases h
        replace h := z_iff g10 h
        refine g_iast (a := p + 16) dX0_copyFrom_97 (shp_16 hp) g10 ?_
        refine g_iinc (v := x2 + (1 : Int32)) (ls' := [some (.ref (p + 14)), some (.ref (q + 14)), some (.int (x2 + (1 : Int32)))]) dX0_copyFrom_98 rfl rfl rfl ?_
        refine g_goto (t := 66) dX0_copyFrom_101 (by decide) ?_
        exact g_sub (z_sub_s (z_sub_s (z_sub_s z_sub_nil))) (ih.2 _ _ _ _ _ h hq)
def F_X0_copyFrom (w : Nat) (M : z_Mem) (p : Nat) (q : Nat) : Option (Unit × z_Mem) :=
  L_X0_copyFrom w p q w 0 (z_wI (z_wI (z_wI M (p + 12) 4 (M.1 (q + 12) 4)) (p + 12) 5 ((z_wI M (p + 12) 4 (M.1 (q + 12) 4)).1 (q + 12) 5)) (p + 12) 6 ((z_wI (z_wI M (p + 12) 4 (M.1 (q + 12) 4)) (p + 12) 5 ((z_wI M (p + 12) 4 (M.1 (q + 12) 4)).1 (q + 12) 5)).1 (q + 12) 6)) (0 : Int32)
set_option maxHeartbeats 4000000 in
theorem A_X0_copyFrom {w : Nat} {M : z_Mem} {p : Nat} (hp : z_par p) {q : Nat} (hq2 : z_par q) {r : Unit} {M' : z_Mem} {Q : Option Value → z_Mem → Prop} (h : F_X0_copyFrom w M p q = some (r, M')) (hq : Q none M') : z_Cl 0 mX0_copyFrom [.ref (p + 14), .ref (q + 14)] M Q := by
  refine g_in (ls := [some (.ref (p + 14)), some (.ref (q + 14)), none]) rfl ?_
  unfold F_X0_copyFrom at h
  refine g_aload_n dX0_copyFrom_0 rfl rfl ?_
  refine g_aload_n dX0_copyFrom_1 rfl rfl ?_
  refine g_get (a := q + 12) (v := .int (M.1 (q + 12) 4)) dX0_copyFrom_2 f_0_24 (shp_12 hq2) rfl rfl ?_
  refine g_putI (a := p + 12) dX0_copyFrom_5 f_0_24 (shp_12 hp) rfl rfl rfl ?_
  refine g_aload_n dX0_copyFrom_8 rfl rfl ?_
  refine g_aload_n dX0_copyFrom_9 rfl rfl ?_
  refine g_get (a := q + 12) (v := .int ((z_wI M (p + 12) 4 (M.1 (q + 12) 4)).1 (q + 12) 5)) dX0_copyFrom_10 f_0_28 (shp_12 hq2) rfl (by simp [z_fv, z_wI, z_wL, z_wLs, upd, vp_updL]) ?_
  refine g_putI (a := p + 12) dX0_copyFrom_13 f_0_28 (shp_12 hp) rfl rfl rfl ?_
  refine g_aload_n dX0_copyFrom_16 rfl rfl ?_
  refine g_aload_n dX0_copyFrom_17 rfl rfl ?_
  refine g_get (a := q + 12) (v := .int ((z_wI (z_wI M (p + 12) 4 (M.1 (q + 12) 4)) (p + 12) 5 ((z_wI M (p + 12) 4 (M.1 (q + 12) 4)).1 (q + 12) 5)).1 (q + 12) 6)) dX0_copyFrom_18 f_0_31 (shp_12 hq2) rfl (by simp [z_fv, z_wI, z_wL, z_wLs, upd, vp_updL]) ?_
  refine g_putI (a := p + 12) dX0_copyFrom_21 f_0_31 (shp_12 hp) rfl rfl rfl ?_
  refine g_iconst (v := (0 : Int32)) dX0_copyFrom_24 (by decide) ?_
  refine g_istore_n (ls' := [some (.ref (p + 14)), some (.ref (q + 14)), some (.int (0 : Int32))]) dX0_copyFrom_25 rfl (Nat.le_of_ble_eq_true rfl) rfl ?_
  exact g_sub (z_sub_s (z_sub_s (z_sub_s z_sub_nil))) ((AL_X0_copyFrom (w := w) hp hq2 w).1 _ _ _ _ _ h hq)
theorem dX1_isThere_0 : decode cX1_isThere 0 = .ok (.iload_n 1, 1) := by decide +kernel
theorem dX1_isThere_1 : decode cX1_isThere 1 = .ok (.ifCond .lt 15, 3) := by decide +kernel
theorem dX1_isThere_4 : decode cX1_isThere 4 = .ok (.iload_n 1, 1) := by decide +kernel
theorem dX1_isThere_5 : decode cX1_isThere 5 = .ok (.aload_n 0, 1) := by decide +kernel
theorem dX1_isThere_6 : decode cX1_isThere 6 = .ok (.getfield 19, 3) := by decide +kernel
theorem dX1_isThere_9 : decode cX1_isThere 9 = .ok (.if_icmp .ge 7, 3) := by decide +kernel
theorem dX1_isThere_12 : decode cX1_isThere 12 = .ok (.iconst 1, 1) := by decide +kernel
theorem dX1_isThere_13 : decode cX1_isThere 13 = .ok (.goto 4, 3) := by decide +kernel
theorem dX1_isThere_16 : decode cX1_isThere 16 = .ok (.iconst 0, 1) := by decide +kernel
theorem dX1_isThere_17 : decode cX1_isThere 17 = .ok (.ireturn, 1) := by decide +kernel
def F_X1_isThere (w : Nat) (M : z_Mem) (p : Nat) (a1 : Int32) : Option (Bool × z_Mem) :=
  if a1 < (0 : Int32) then
  some (false, M)
  else
  if (M.1 (p + 8) 3) ≤ a1 then
  some (false, M)
  else
  some (true, M)
set_option maxHeartbeats 4000000 in
theorem A_X1_isThere {w : Nat} {M : z_Mem} {p : Nat} (hp : z_par p) {a1 : Int32} {r : Bool} {M' : z_Mem} {Q : Option Value → z_Mem → Prop} (h : F_X1_isThere w M p a1 = some (r, M')) (hq : Q (some (.int (z_tb r))) M') : z_Cl 0 mX1_isThere [.ref (p + 10), .int a1] M Q := by
  refine g_in (ls := [some (.ref (p + 10)), some (.int a1)]) rfl ?_
  unfold F_X1_isThere at h
  refine g_iload_n dX1_isThere_0 rfl rfl ?_
  refine g_if_lt (t := 16) dX1_isThere_1 (by decide) (fun c1 => ?_) (fun c1 => ?_)
  · replace h := z_ift c1 h
    refine g_iconst (v := (0 : Int32)) dX1_isThere_16 (by decide) ?_
    cases h
    exact g_iret dX1_isThere_17 rfl rfl hq
  · replace h := z_iff c1 h
    refine g_iload_n dX1_isThere_4 rfl rfl ?_
    refine g_aload_n dX1_isThere_5 rfl rfl ?_
    refine g_get (a := p + 8) (v := .int (M.1 (p + 8) 3)) dX1_isThere_6 f_1_19 (shp_8 hp) rfl rfl ?_
    refine g_ic_ge (t := 16) dX1_isThere_9 (by decide) (fun c2 => ?_) (fun c2 => ?_)
    · replace h := z_ift c2 h
      refine g_iconst (v := (0 : Int32)) dX1_isThere_16 (by decide) ?_
      cases h
      exact g_iret dX1_isThere_17 rfl rfl hq
    · replace h := z_iff c2 h
      refine g_iconst (v := (1 : Int32)) dX1_isThere_12 (by decide) ?_
      refine g_goto (t := 17) dX1_isThere_13 (by decide) ?_
      cases h
      exact g_iret dX1_isThere_17 rfl rfl hq
theorem dX1_add_0 : decode cX1_add 0 = .ok (.aload_n 0, 1) := by decide +kernel
theorem dX1_add_1 : decode cX1_add 1 = .ok (.getfield 19, 3) := by decide +kernel
theorem dX1_add_4 : decode cX1_add 4 = .ok (.iconst 5, 1) := by decide +kernel
theorem dX1_add_5 : decode cX1_add 5 = .ok (.if_icmp .lt 5, 3) := by decide +kernel
theorem dX1_add_8 : decode cX1_add 8 = .ok (.iconst 0, 1) := by decide +kernel
theorem dX1_add_9 : decode cX1_add 9 = .ok (.ireturn, 1) := by decide +kernel
theorem dX1_add_10 : decode cX1_add 10 = .ok (.aload_n 0, 1) := by decide +kernel
theorem dX1_add_11 : decode cX1_add 11 = .ok (.getfield 9, 3) := by decide +kernel
theorem dX1_add_14 : decode cX1_add 14 = .ok (.aload_n 0, 1) := by decide +kernel
theorem dX1_add_15 : decode cX1_add 15 = .ok (.getfield 19, 3) := by decide +kernel
theorem dX1_add_18 : decode cX1_add 18 = .ok (.iload_n 1, 1) := by decide +kernel
theorem dX1_add_19 : decode cX1_add 19 = .ok (.iastore, 1) := by decide +kernel
theorem dX1_add_20 : decode cX1_add 20 = .ok (.aload_n 0, 1) := by decide +kernel
theorem dX1_add_21 : decode cX1_add 21 = .ok (.getfield 13, 3) := by decide +kernel
theorem dX1_add_24 : decode cX1_add 24 = .ok (.aload_n 0, 1) := by decide +kernel
theorem dX1_add_25 : decode cX1_add 25 = .ok (.getfield 19, 3) := by decide +kernel
theorem dX1_add_28 : decode cX1_add 28 = .ok (.iload_n 2, 1) := by decide +kernel
theorem dX1_add_29 : decode cX1_add 29 = .ok (.iastore, 1) := by decide +kernel
theorem dX1_add_30 : decode cX1_add 30 = .ok (.aload_n 0, 1) := by decide +kernel
theorem dX1_add_31 : decode cX1_add 31 = .ok (.getfield 16, 3) := by decide +kernel
theorem dX1_add_34 : decode cX1_add 34 = .ok (.aload_n 0, 1) := by decide +kernel
theorem dX1_add_35 : decode cX1_add 35 = .ok (.getfield 19, 3) := by decide +kernel
theorem dX1_add_38 : decode cX1_add 38 = .ok (.iload_n 3, 1) := by decide +kernel
theorem dX1_add_39 : decode cX1_add 39 = .ok (.iastore, 1) := by decide +kernel
theorem dX1_add_40 : decode cX1_add 40 = .ok (.aload_n 0, 1) := by decide +kernel
theorem dX1_add_41 : decode cX1_add 41 = .ok (.dup, 1) := by decide +kernel
theorem dX1_add_42 : decode cX1_add 42 = .ok (.getfield 19, 3) := by decide +kernel
theorem dX1_add_45 : decode cX1_add 45 = .ok (.iconst 1, 1) := by decide +kernel
theorem dX1_add_46 : decode cX1_add 46 = .ok (.iadd, 1) := by decide +kernel
theorem dX1_add_47 : decode cX1_add 47 = .ok (.putfield 19, 3) := by decide +kernel
theorem dX1_add_50 : decode cX1_add 50 = .ok (.iconst 1, 1) := by decide +kernel
theorem dX1_add_51 : decode cX1_add 51 = .ok (.ireturn, 1) := by decide +kernel
def F_X1_add (w : Nat) (M : z_Mem) (p : Nat) (a1 : Int32) (a2 : Int32) (a3 : Int32) : Option (Bool × z_Mem) :=
  if (M.1 (p + 8) 3) < (5 : Int32) then
  if (M.1 (p + 8) 3) < 0 ∨ 5 ≤ (M.1 (p + 8) 3).toNatClampNeg then none else
  if (M.1 (p + 8) 3) < 0 ∨ 5 ≤ (M.1 (p + 8) 3).toNatClampNeg then none else
  if (M.1 (p + 8) 3) < 0 ∨ 5 ≤ (M.1 (p + 8) 3).toNatClampNeg then none else
  some (true, (z_wI (z_wI (z_wI (z_wI M (p + 9) ((M.1 (p + 8) 3).toNatClampNeg) a1) (p + 10) ((M.1 (p + 8) 3).toNatClampNeg) a2) (p + 11) ((M.1 (p + 8) 3).toNatClampNeg) a3) (p + 8) 3 ((M.1 (p + 8) 3) + (1 : Int32))))
  else
  some (false, M)
set_option maxHeartbeats 4000000 in
theorem A_X1_add {w : Nat} {M : z_Mem} {p : Nat} (hp : z_par p) {a1 : Int32} {a2 : Int32} {a3 : Int32} {r : Bool} {M' : z_Mem} {Q : Option Value → z_Mem → Prop} (h : F_X1_add w M p a1 a2 a3 = some (r, M')) (hq : Q (some (.int (z_tb r))) M') : z_Cl 0 mX1_add [.ref (p + 10), .int a1, .int a2, .int a3] M Q := by
  refine g_in (ls := [some (.ref (p + 10)), some (.int a1), some (.int a2), some (.int a3)]) rfl ?_
  unfold F_X1_add at h
  refine g_aload_n dX1_add_0 rfl rfl ?_
  refine g_get (a := p + 8) (v := .int (M.1 (p + 8) 3)) dX1_add_1 f_1_19 (shp_8 hp) rfl rfl ?_
  refine g_iconst (v := (5 : Int32)) dX1_add_4 (by decide) ?_
  refine g_ic_lt (t := 10) dX1_add_5 (by decide) (fun c1 => ?_) (fun c1 => ?_)
  · replace h := z_ift c1 h
    refine g_aload_n dX1_add_10 rfl rfl ?_
    refine g_get (a := p + 8) (v := .ref (p + 11)) dX1_add_11 f_1_9 (shp_8 hp) rfl rfl ?_
    refine g_aload_n dX1_add_14 rfl rfl ?_
    refine g_get (a := p + 8) (v := .int (M.1 (p + 8) 3)) dX1_add_15 f_1_19 (shp_8 hp) rfl rfl ?_
    refine g_iload_n dX1_add_18 rfl rfl ?_
    by_cases g2 : (M.1 (p + 8) 3) < 0 ∨ 5 ≤ (M.1 (p + 8) 3).toNatClampNeg
    · rw [if_pos g2] at h; cases h
    replace h := z_iff g2 h
    refine g_iast (a := p + 9) dX1_add_19 (shp_9 hp) g2 ?_
    refine g_aload_n dX1_add_20 rfl rfl ?_
    refine g_get (a := p + 8) (v := .ref (p + 12)) dX1_add_21 f_1_13 (shp_8 hp) rfl rfl ?_
    refine g_aload_n dX1_add_24 rfl rfl ?_
    refine g_get (a := p + 8) (v := .int (M.1 (p + 8) 3)) dX1_add_25 f_1_19 (shp_8 hp) rfl (by simp [z_fv, z_wI, z_wL, z_wLs, upd, vp_updL]) ?_
    refine g_iload_n dX1_add_28 rfl rfl ?_
    by_cases g3 : (M.1 (p + 8) 3) < 0 ∨ 5 ≤ (M.1 (p + 8) 3).toNatClampNeg
    · rw [if_pos g3] at h; cases h
    replace h := z_iff g3 h
    refine g_iast (a := p + 10) dX1_add_29 (shp_10 hp) g3 ?_
    refine g_aload_n dX1_add_30 rfl rfl ?_
    refine g_get (a := p + 8) (v := .ref (p + 13)) dX1_add_31 f_1_16 (shp_8 hp) rfl rfl ?_
    refine g_aload_n dX1_add_34 rfl rfl ?_
    refine g_get (a := p + 8) (v := .int (M.1 (p + 8) 3)) dX1_add_35 f_1_19 (shp_8 hp) rfl (by simp [z_fv, z_wI, z_wL, z_wLs, upd, vp_updL]) ?_
    refine g_iload_n dX1_add_38 rfl rfl ?_
    by_cases g4 : (M.1 (p + 8) 3) < 0 ∨ 5 ≤ (M.1 (p + 8) 3).toNatClampNeg
    · rw [if_pos g4] at h; cases h
    replace h := z_iff g4 h
    refine g_iast (a := p + 11) dX1_add_39 (shp_11 hp) g4 ?_
    refine g_aload_n dX1_add_40 rfl rfl ?_
    refine g_dup dX1_add_41 rfl ?_
    refine g_get (a := p + 8) (v := .int (M.1 (p + 8) 3)) dX1_add_42 f_1_19 (shp_8 hp) rfl (by simp [z_fv, z_wI, z_wL, z_wLs, upd, vp_updL]) ?_
    refine g_iconst (v := (1 : Int32)) dX1_add_45 (by decide) ?_
    refine g_iadd dX1_add_46 ?_
    refine g_putI (a := p + 8) dX1_add_47 f_1_19 (shp_8 hp) rfl rfl rfl ?_
    refine g_iconst (v := (1 : Int32)) dX1_add_50 (by decide) ?_
    cases h
    exact g_iret dX1_add_51 rfl rfl hq
  · replace h := z_iff c1 h
    refine g_iconst (v := (0 : Int32)) dX1_add_8 (by decide) ?_
    cases h
    exact g_iret dX1_add_9 rfl rfl hq
theorem dX1_copyOne_0 : decode cX1_copyOne 0 = .ok (.aload_n 0, 1) := by decide +kernel
theorem dX1_copyOne_1 : decode cX1_copyOne 1 = .ok (.getfield 9, 3) := by decide +kernel
theorem dX1_copyOne_4 : decode cX1_copyOne 4 = .ok (.iload_n 3, 1) := by decide +kernel
theorem dX1_copyOne_5 : decode cX1_copyOne 5 = .ok (.aload_n 1, 1) := by decide +kernel
theorem dX1_copyOne_6 : decode cX1_copyOne 6 = .ok (.getfield 9, 3) := by decide +kernel
theorem dX1_copyOne_9 : decode cX1_copyOne 9 = .ok (.iload_n 2, 1) := by decide +kernel
theorem dX1_copyOne_10 : decode cX1_copyOne 10 = .ok (.iaload, 1) := by decide +kernel
theorem dX1_copyOne_11 : decode cX1_copyOne 11 = .ok (.iastore, 1) := by decide +kernel
theorem dX1_copyOne_12 : decode cX1_copyOne 12 = .ok (.aload_n 0, 1) := by decide +kernel
theorem dX1_copyOne_13 : decode cX1_copyOne 13 = .ok (.getfield 13, 3) := by decide +kernel
theorem dX1_copyOne_16 : decode cX1_copyOne 16 = .ok (.iload_n 3, 1) := by decide +kernel
theorem dX1_copyOne_17 : decode cX1_copyOne 17 = .ok (.aload_n 1, 1) := by decide +kernel
theorem dX1_copyOne_18 : decode cX1_copyOne 18 = .ok (.getfield 13, 3) := by decide +kernel
theorem dX1_copyOne_21 : decode cX1_copyOne 21 = .ok (.iload_n 2, 1) := by decide +kernel
theorem dX1_copyOne_22 : decode cX1_copyOne 22 = .ok (.iaload, 1) := by decide +kernel
theorem dX1_copyOne_23 : decode cX1_copyOne 23 = .ok (.iastore, 1) := by decide +kernel
theorem dX1_copyOne_24 : decode cX1_copyOne 24 = .ok (.aload_n 0, 1) := by decide +kernel
theorem dX1_copyOne_25 : decode cX1_copyOne 25 = .ok (.getfield 16, 3) := by decide +kernel
theorem dX1_copyOne_28 : decode cX1_copyOne 28 = .ok (.iload_n 3, 1) := by decide +kernel
theorem dX1_copyOne_29 : decode cX1_copyOne 29 = .ok (.aload_n 1, 1) := by decide +kernel
theorem dX1_copyOne_30 : decode cX1_copyOne 30 = .ok (.getfield 16, 3) := by decide +kernel
theorem dX1_copyOne_33 : decode cX1_copyOne 33 = .ok (.iload_n 2, 1) := by decide +kernel
theorem dX1_copyOne_34 : decode cX1_copyOne 34 = .ok (.iaload, 1) := by decide +kernel
theorem dX1_copyOne_35 : decode cX1_copyOne 35 = .ok (.iastore, 1) := by decide +kernel
theorem dX1_copyOne_36 : decode cX1_copyOne 36 = .ok (.return_, 1) := by decide +kernel
def F_X1_copyOne (w : Nat) (M : z_Mem) (p : Nat) (q : Nat) (a2 : Int32) (a3 : Int32) : Option (Unit × z_Mem) :=
  if a2 < 0 ∨ 5 ≤ a2.toNatClampNeg then none else
  if a3 < 0 ∨ 5 ≤ a3.toNatClampNeg then none else
  if a2 < 0 ∨ 5 ≤ a2.toNatClampNeg then none else
  if a3 < 0 ∨ 5 ≤ a3.toNatClampNeg then none else
  if a2 < 0 ∨ 5 ≤ a2.toNatClampNeg then none else
  if a3 < 0 ∨ 5 ≤ a3.toNatClampNeg then none else
  some ((), (z_wI (z_wI (z_wI M (p + 9) a3.toNatClampNeg (M.1 (q + 9) a2.toNatClampNeg)) (p + 10) a3.toNatClampNeg ((z_wI M (p + 9) a3.toNatClampNeg (M.1 (q + 9) a2.toNatClampNeg)).1 (q + 10) a2.toNatClampNeg)) (p + 11) a3.toNatClampNeg ((z_wI (z_wI M (p + 9) a3.toNatClampNeg (M.1 (q + 9) a2.toNatClampNeg)) (p + 10) a3.toNatClampNeg ((z_wI M (p + 9) a3.toNatClampNeg (M.1 (q + 9) a2.toNatClampNeg)).1 (q + 10) a2.toNatClampNeg)).1 (q + 11) a2.toNatClampNeg)))
set_option maxHeartbeats 4000000 in
theorem A_X1_copyOne {w : Nat} {M : z_Mem} {p : Nat} (hp : z_par p) {q : Nat} (hq2 : z_par q) {a2 : Int32} {a3 : Int32} {r : Unit} {M' : z_Mem} {Q : Option Value → z_Mem → Prop} (h : F_X1_copyOne w M p q a2 a3 = some (r, M')) (hq : Q none M') : z_Cl 0 mX1_copyOne [.ref (p + 10), .ref (q + 10), .int a2, .int a3] M Q := by
  refine g_in (ls := [some (.ref (p + 10)), some (.ref (q + 10)), some (.int a2), some (.int a3)]) rfl ?_
  unfold F_X1_copyOne at h
  refine g_aload_n dX1_copyOne_0 rfl rfl ?_
  refine g_get (a := p + 8) (v := .ref (p + 11)) dX1_copyOne_1 f_1_9 (shp_8 hp) rfl rfl ?_
  refine g_iload_n dX1_copyOne_4 rfl rfl ?_
  refine g_aload_n dX1_copyOne_5 rfl rfl ?_
  refine g_get (a := q + 8) (v := .ref (q + 11)) dX1_copyOne_6 f_1_9 (shp_8 hq2) rfl rfl ?_
  refine g_iload_n dX1_copyOne_9 rfl rfl ?_
  by_cases g1 : a2 < 0 ∨ 5 ≤ a2.toNatClampNeg
  · rw [if_pos g1] at h; cases h
  replace h := z_iff g1 h
  refine g_iald (a := q + 9) dX1_copyOne_10 (shp_9 hq2) g1 ?_
  by_cases g2 : a3 < 0 ∨ 5 ≤ a3.toNatClampNeg
  · rw [if_pos g2] at h; cases h
  replace h := z_iff g2 h
  refine g_iast (a := p + 9) dX1_copyOne_11 (shp_9 hp) g2 ?_
  refine g_aload_n dX1_copyOne_12 rfl rfl ?_
  refine g_get (a := p + 8) (v := .ref (p + 12)) dX1_copyOne_13 f_1_13 (shp_8 hp) rfl rfl ?_
  refine g_iload_n dX1_copyOne_16 rfl rfl ?_
  refine g_aload_n dX1_copyOne_17 rfl rfl ?_
  refine g_get (a := q + 8) (v := .ref (q + 12)) dX1_copyOne_18 f_1_13 (shp_8 hq2) rfl rfl ?_
  refine g_iload_n dX1_copyOne_21 rfl rfl ?_
  by_cases g3 : a2 < 0 ∨ 5 ≤ a2.toNatClampNeg
  · rw [if_pos g3] at h; cases h
  replace h := z_iff g3 h
  refine g_iald (a := q + 10) dX1_copyOne_22 (shp_10 hq2) g3 ?_
  by_cases g4 : a3 < 0 ∨ 5 ≤ a3.toNatClampNeg
  · rw [if_pos g4] at h; cases h
  replace h := z_iff g4 h
  refine g_iast (a := p + 10) dX1_copyOne_23 (shp_10 hp) g4 ?_
  refine g_aload_n dX1_copyOne_24 rfl rfl ?_
  refine g_get (a := p + 8) (v := .ref (p + 13)) dX1_copyOne_25 f_1_16 (shp_8 hp) rfl rfl ?_
  refine g_iload_n dX1_copyOne_28 rfl rfl ?_
  refine g_aload_n dX1_copyOne_29 rfl rfl ?_
  refine g_get (a := q + 8) (v := .ref (q + 13)) dX1_copyOne_30 f_1_16 (shp_8 hq2) rfl rfl ?_
  refine g_iload_n dX1_copyOne_33 rfl rfl ?_
  by_cases g5 : a2 < 0 ∨ 5 ≤ a2.toNatClampNeg
  · rw [if_pos g5] at h; cases h
  replace h := z_iff g5 h
  refine g_iald (a := q + 11) dX1_copyOne_34 (shp_11 hq2) g5 ?_
  by_cases g6 : a3 < 0 ∨ 5 ≤ a3.toNatClampNeg
  · rw [if_pos g6] at h; cases h
  replace h := z_iff g6 h
  refine g_iast (a := p + 11) dX1_copyOne_35 (shp_11 hp) g6 ?_
  cases h
  exact g_vret dX1_copyOne_36 rfl hq
theorem dX1_drop_0 : decode cX1_drop 0 = .ok (.iload_n 1, 1) := by decide +kernel
theorem dX1_drop_1 : decode cX1_drop 1 = .ok (.istore_n 2, 1) := by decide +kernel
theorem dX1_drop_2 : decode cX1_drop 2 = .ok (.iload_n 2, 1) := by decide +kernel
theorem dX1_drop_3 : decode cX1_drop 3 = .ok (.iconst 1, 1) := by decide +kernel
theorem dX1_drop_4 : decode cX1_drop 4 = .ok (.iadd, 1) := by decide +kernel
theorem dX1_drop_5 : decode cX1_drop 5 = .ok (.aload_n 0, 1) := by decide +kernel
theorem dX1_drop_6 : decode cX1_drop 6 = .ok (.getfield 19, 3) := by decide +kernel
theorem dX1_drop_9 : decode cX1_drop 9 = .ok (.if_icmp .ge 18, 3) := by decide +kernel
theorem dX1_drop_12 : decode cX1_drop 12 = .ok (.aload_n 0, 1) := by decide +kernel
theorem dX1_drop_13 : decode cX1_drop 13 = .ok (.aload_n 0, 1) := by decide +kernel
theorem dX1_drop_14 : decode cX1_drop 14 = .ok (.iload_n 2, 1) := by decide +kernel
theorem dX1_drop_15 : decode cX1_drop 15 = .ok (.iconst 1, 1) := by decide +kernel
theorem dX1_drop_16 : decode cX1_drop 16 = .ok (.iadd, 1) := by decide +kernel
theorem dX1_drop_17 : decode cX1_drop 17 = .ok (.iload_n 2, 1) := by decide +kernel
theorem dX1_drop_18 : decode cX1_drop 18 = .ok (.invokevirtual 23, 3) := by decide +kernel
theorem dX1_drop_21 : decode cX1_drop 21 = .ok (.iinc 2 1, 3) := by decide +kernel
theorem dX1_drop_24 : decode cX1_drop 24 = .ok (.goto (-22), 3) := by decide +kernel
theorem dX1_drop_27 : decode cX1_drop 27 = .ok (.aload_n 0, 1) := by decide +kernel
theorem dX1_drop_28 : decode cX1_drop 28 = .ok (.dup, 1) := by decide +kernel
theorem dX1_drop_29 : decode cX1_drop 29 = .ok (.getfield 19, 3) := by decide +kernel
theorem dX1_drop_32 : decode cX1_drop 32 = .ok (.iconst 1, 1) := by decide +kernel
theorem dX1_drop_33 : decode cX1_drop 33 = .ok (.isub, 1) := by decide +kernel
theorem dX1_drop_34 : decode cX1_drop 34 = .ok (.putfield 19, 3) := by decide +kernel
theorem dX1_drop_37 : decode cX1_drop 37 = .ok (.return_, 1) := by decide +kernel
def L_X1_drop (w : Nat) (p : Nat) : Nat → z_Mem → Int32 → Option (Unit × z_Mem)
  | 0, _, _ => none
  | c + 1, M, x2 =>
    if (M.1 (p + 8) 3) ≤ (x2 + (1 : Int32)) then
    some ((), (z_wI M (p + 8) 3 ((M.1 (p + 8) 3) - (1 : Int32))))
    else
    (F_X1_copyOne w M p p (x2 + (1 : Int32)) x2).bind fun q2 =>
    L_X1_drop w p c q2.2 (x2 + (1 : Int32))
set_option maxHeartbeats 4000000 in
theorem AL_X1_drop {w : Nat} {p : Nat} (hp : z_par p) : ∀ (c : Nat), (∀ (M : z_Mem) (x2 : Int32) (r : Unit) (M' : z_Mem) (Q : Option Value → z_Mem → Prop), L_X1_drop w p c M x2 = some (r, M') → Q none M' → z_G none 1 mX1_drop 2 [some (.ref (p + 10)), none, some (.int x2)] [] M Q) := by
  intro c
  induction c with
  | zero => exact (fun M x2 r M' Q h hq => by rw [L_X1_drop] at h; cases h)
  | succ c ih =>
    intro M x2 r M' Q h hq
    rw [L_X1_drop] at h
    refine g_iload_n dX1_drop_2 rfl rfl ?_
    refine g_iconst (v := (1 : Int32)) dX1_drop_3 (by decide) ?_
    refine g_iadd dX1_drop_4 ?_
    refine g_aload_n dX1_drop_5 rfl rfl ?_
    refine g_get (a := p + 8) (v := .int (M.1 (p + 8) 3)) dX1_drop_6 f_1_19 (shp_8 hp) rfl rfl ?_
    refine g_ic_ge (t := 27) dX1_drop_9 (by decide) (fun c1 => ?_) (fun c1 => ?_)
    · replace h := z_ift c1 h
      refine g_aload_n dX1_drop_27 rfl rfl ?_
      refine g_dup dX1_drop_28 rfl ?_
      refine g_get (a := p + 8) (v := .int (M.1 (p + 8) 3)) dX1_drop_29 f_1_19 (shp_8 hp) rfl rfl ?_
      refine g_iconst (v := (1 : Int32)) dX1_drop_32 (by decide) ?_
      refine g_isub dX1_drop_33 ?_
      refine g_putI (a := p + 8) dX1_drop_34 f_1_19 (shp_8 hp) rfl rfl rfl ?_
      cases h
      exact g_vret dX1_drop_37 rfl hq
    · replace h := z_iff c1 h
      refine g_aload_n dX1_drop_12 rfl rfl ?_
      refine g_aload_n dX1_drop_13 rfl rfl ?_
      refine g_iload_n dX1_drop_14 rfl rfl ?_
      refine g_iconst (v := (1 : Int32)) dX1_drop_15 (by decide) ?_
      refine g_iadd dX1_drop_16 ?_
      refine g_iload_n dX1_drop_17 rfl rfl ?_
      obtain ⟨q2, e3, h⟩ := z_bd h
      refine g_callV (a := p + 8) (as := [.ref (p + 10), .int (x2 + (1 : Int32)), .int x2]) (rest := []) (c := mX1_copyOne) (k1 := 0) dX1_drop_18 rfl rfl rfl (shp_8 hp) rfl rfl (Nat.le_of_ble_eq_true rfl) (Nat.le_of_ble_eq_true rfl) (by decide) ?_
      refine A_X1_copyOne hp hp e3 ?_
      show z_G none 1 mX1_drop 21 [some (.ref (p + 10)), none, some (.int x2)] [] q2.2 Q
      refine g_iinc (v := x2 + (1 : Int32)) (ls' := [some (.ref (p + 10)), none, some (.int (x2 + (1 : Int32)))]) dX1_drop_21 rfl rfl rfl ?_
      refine g_goto (t := 2) dX1_drop_24 (by decide) ?_
      exact g_sub (z_sub_s (z_sub_n (z_sub_s z_sub_nil))) (ih _ _ _ _ _ h hq)
def F_X1_drop (w : Nat) (M : z_Mem) (p : Nat) (a1 : Int32) : Option (Unit × z_Mem) :=
  L_X1_drop w p w M a1
set_option maxHeartbeats 4000000 in
theorem A_X1_drop {w : Nat} {M : z_Mem} {p : Nat} (hp : z_par p) {a1 : Int32} {r : Unit} {M' : z_Mem} {Q : Option Value → z_Mem → Prop} (h : F_X1_drop w M p a1 = some (r, M')) (hq : Q none M') : z_Cl 1 mX1_drop [.ref (p + 10), .int a1] M Q := by
  refine g_in (ls := [some (.ref (p + 10)), some (.int a1), none]) rfl ?_
  unfold F_X1_drop at h
  refine g_iload_n dX1_drop_0 rfl rfl ?_
  refine g_istore_n (ls' := [some (.ref (p + 10)), some (.int a1), some (.int a1)]) dX1_drop_1 rfl (Nat.le_of_ble_eq_true rfl) rfl ?_
  exact g_sub (z_sub_s (z_sub_n (z_sub_s z_sub_nil))) ((AL_X1_drop (w := w) hp w) _ _ _ _ _ h hq)
theorem dX1_age_0 : decode cX1_age 0 = .ok (.iconst 0, 1) := by decide +kernel
theorem dX1_age_1 : decode cX1_age 1 = .ok (.istore_n 1, 1) := by decide +kernel
theorem dX1_age_2 : decode cX1_age 2 = .ok (.iconst 0, 1) := by decide +kernel
theorem dX1_age_3 : decode cX1_age 3 = .ok (.istore_n 2, 1) := by decide +kernel
theorem dX1_age_4 : decode cX1_age 4 = .ok (.iload_n 2, 1) := by decide +kernel
theorem dX1_age_5 : decode cX1_age 5 = .ok (.aload_n 0, 1) := by decide +kernel
theorem dX1_age_6 : decode cX1_age 6 = .ok (.getfield 19, 3) := by decide +kernel
theorem dX1_age_9 : decode cX1_age 9 = .ok (.if_icmp .ge 39, 3) := by decide +kernel
theorem dX1_age_12 : decode cX1_age 12 = .ok (.aload_n 0, 1) := by decide +kernel
theorem dX1_age_13 : decode cX1_age 13 = .ok (.getfield 16, 3) := by decide +kernel
theorem dX1_age_16 : decode cX1_age 16 = .ok (.iload_n 2, 1) := by decide +kernel
theorem dX1_age_17 : decode cX1_age 17 = .ok (.iaload, 1) := by decide +kernel
theorem dX1_age_18 : decode cX1_age 18 = .ok (.iconst 1, 1) := by decide +kernel
theorem dX1_age_19 : decode cX1_age 19 = .ok (.if_icmp .le 23, 3) := by decide +kernel
theorem dX1_age_22 : decode cX1_age 22 = .ok (.aload_n 0, 1) := by decide +kernel
theorem dX1_age_23 : decode cX1_age 23 = .ok (.aload_n 0, 1) := by decide +kernel
theorem dX1_age_24 : decode cX1_age 24 = .ok (.iload_n 2, 1) := by decide +kernel
theorem dX1_age_25 : decode cX1_age 25 = .ok (.iload_n 1, 1) := by decide +kernel
theorem dX1_age_26 : decode cX1_age 26 = .ok (.invokevirtual 23, 3) := by decide +kernel
theorem dX1_age_29 : decode cX1_age 29 = .ok (.aload_n 0, 1) := by decide +kernel
theorem dX1_age_30 : decode cX1_age 30 = .ok (.getfield 16, 3) := by decide +kernel
theorem dX1_age_33 : decode cX1_age 33 = .ok (.iload_n 1, 1) := by decide +kernel
theorem dX1_age_34 : decode cX1_age 34 = .ok (.dup2, 1) := by decide +kernel
theorem dX1_age_35 : decode cX1_age 35 = .ok (.iaload, 1) := by decide +kernel
theorem dX1_age_36 : decode cX1_age 36 = .ok (.iconst 1, 1) := by decide +kernel
theorem dX1_age_37 : decode cX1_age 37 = .ok (.isub, 1) := by decide +kernel
theorem dX1_age_38 : decode cX1_age 38 = .ok (.iastore, 1) := by decide +kernel
theorem dX1_age_39 : decode cX1_age 39 = .ok (.iinc 1 1, 3) := by decide +kernel
theorem dX1_age_42 : decode cX1_age 42 = .ok (.iinc 2 1, 3) := by decide +kernel
theorem dX1_age_45 : decode cX1_age 45 = .ok (.goto (-41), 3) := by decide +kernel
theorem dX1_age_48 : decode cX1_age 48 = .ok (.aload_n 0, 1) := by decide +kernel
theorem dX1_age_49 : decode cX1_age 49 = .ok (.dup, 1) := by decide +kernel
theorem dX1_age_50 : decode cX1_age 50 = .ok (.getfield 27, 3) := by decide +kernel
theorem dX1_age_53 : decode cX1_age 53 = .ok (.aload_n 0, 1) := by decide +kernel
theorem dX1_age_54 : decode cX1_age 54 = .ok (.getfield 19, 3) := by decide +kernel
theorem dX1_age_57 : decode cX1_age 57 = .ok (.iload_n 1, 1) := by decide +kernel
theorem dX1_age_58 : decode cX1_age 58 = .ok (.isub, 1) := by decide +kernel
theorem dX1_age_59 : decode cX1_age 59 = .ok (.iadd, 1) := by decide +kernel
theorem dX1_age_60 : decode cX1_age 60 = .ok (.putfield 27, 3) := by decide +kernel
theorem dX1_age_63 : decode cX1_age 63 = .ok (.aload_n 0, 1) := by decide +kernel
theorem dX1_age_64 : decode cX1_age 64 = .ok (.iload_n 1, 1) := by decide +kernel
theorem dX1_age_65 : decode cX1_age 65 = .ok (.putfield 19, 3) := by decide +kernel
theorem dX1_age_68 : decode cX1_age 68 = .ok (.return_, 1) := by decide +kernel
def L_X1_age (w : Nat) (p : Nat) : Nat → z_Mem → Int32 → Int32 → Option (Unit × z_Mem)
  | 0, _, _, _ => none
  | c + 1, M, x1, x2 =>
    if (M.1 (p + 8) 3) ≤ x2 then
    some ((), (z_wI (z_wI M (p + 8) 4 ((M.1 (p + 8) 4) + ((M.1 (p + 8) 3) - x1))) (p + 8) 3 x1))
    else
    if x2 < 0 ∨ 5 ≤ x2.toNatClampNeg then none else
    if (M.1 (p + 11) x2.toNatClampNeg) ≤ (1 : Int32) then
    L_X1_age w p c M x1 (x2 + (1 : Int32))
    else
    (F_X1_copyOne w M p p x2 x1).bind fun q4 =>
    if x1 < 0 ∨ 5 ≤ x1.toNatClampNeg then none else
    if x1 < 0 ∨ 5 ≤ x1.toNatClampNeg then none else
    L_X1_age w p c (z_wI q4.2 (p + 11) x1.toNatClampNeg ((q4.2.1 (p + 11) x1.toNatClampNeg) - (1 : Int32))) (x1 + (1 : Int32)) (x2 + (1 : Int32))
set_option maxHeartbeats 4000000 in
theorem AL_X1_age {w : Nat} {p : Nat} (hp : z_par p) : ∀ (c : Nat), (∀ (M : z_Mem) (x1 : Int32) (x2 : Int32) (r : Unit) (M' : z_Mem) (Q : Option Value → z_Mem → Prop), L_X1_age w p c M x1 x2 = some (r, M') → Q none M' → z_G none 1 mX1_age 4 [some (.ref (p + 10)), some (.int x1), some (.int x2)] [] M Q) := by
  intro c
  induction c with
  | zero => exact (fun M x1 x2 r M' Q h hq => by rw [L_X1_age] at h; cases h)
  | succ c ih =>
    intro M x1 x2 r M' Q h hq
    rw [L_X1_age] at h
    refine g_iload_n dX1_age_4 rfl rfl ?_
    refine g_aload_n dX1_age_5 rfl rfl ?_
    refine g_get (a := p + 8) (v := .int (M.1 (p + 8) 3)) dX1_age_6 f_1_19 (shp_8 hp) rfl rfl ?_
    refine g_ic_ge (t := 48) dX1_age_9 (by decide) (fun c1 => ?_) (fun c1 => ?_)
    · replace h := z_ift c1 h
      refine g_aload_n dX1_age_48 rfl rfl ?_
      refine g_dup dX1_age_49 rfl ?_
      refine g_get (a := p + 8) (v := .int (M.1 (p + 8) 4)) dX1_age_50 f_1_27 (shp_8 hp) rfl rfl ?_
      refine g_aload_n dX1_age_53 rfl rfl ?_
      refine g_get (a := p + 8) (v := .int (M.1 (p + 8) 3)) dX1_age_54 f_1_19 (shp_8 hp) rfl rfl ?_
      refine g_iload_n dX1_age_57 rfl rfl ?_
      refine g_isub dX1_age_58 ?_
      refine g_iadd dX1_age_59 ?_
      refine g_putI (a := p + 8) dX1_age_60 f_1_27 (shp_8 hp) rfl rfl rfl ?_
      refine g_aload_n dX1_age_63 rfl rfl ?_
      refine g_iload_n dX1_age_64 rfl rfl ?_
      refine g_putI (a := p + 8) dX1_age_65 f_1_19 (shp_8 hp) rfl rfl rfl ?_
      cases h
      exact g_vret dX1_age_68 rfl hq
    · replace h := z_iff c1 h
      refine g_aload_n dX1_age_12 rfl rfl ?_
      refine g_get (a := p + 8) (v := .ref (p + 13)) dX1_age_13 f_1_16 (shp_8 hp) rfl rfl ?_
      refine g_iload_n dX1_age_16 rfl rfl ?_
      by_cases g2 : x2 < 0 ∨ 5 ≤ x2.toNatClampNeg
      · rw [if_pos g2] at h; cases h
      replace h := z_iff g2 h
      refine g_iald (a := p + 11) dX1_age_17 (shp_11 hp) g2 ?_
      refine g_iconst (v := (1 : Int32)) dX1_age_18 (by decide) ?_
      refine g_ic_le (t := 42) dX1_age_19 (by decide) (fun c3 => ?_) (fun c3 => ?_)
      · replace h := z_ift c3 h
        refine g_iinc (v := x2 + (1 : Int32)) (ls' := [some (.ref (p + 10)), some (.int x1), some (.int (x2 + (1 : Int32)))]) dX1_age_42 rfl rfl rfl ?_
        refine g_goto (t := 4) dX1_age_45 (by decide) ?_
        exact g_sub (z_sub_s (z_sub_s (z_sub_s z_sub_nil))) (ih _ _ _ _ _ _ h hq)
      · replace h := z_iff c3 h
        refine g_aload_n dX1_age_22 rfl rfl ?_
        refine g_aload_n dX1_age_23 rfl rfl ?_
        refine g_iload_n dX1_age_24 rfl rfl ?_
        refine g_iload_n dX1_age_25 rfl rfl ?_
        obtain ⟨q4, e5, h⟩ := z_bd h
        refine g_callV (a := p + 8) (as := [.ref (p + 10), .int x2, .int x1]) (rest := []) (c := mX1_copyOne) (k1 := 0) dX1_age_26 rfl rfl rfl (shp_8 hp) rfl rfl (Nat.le_of_ble_eq_true rfl) (Nat.le_of_ble_eq_true rfl) (by decide) ?_
        refine A_X1_copyOne hp hp e5 ?_
        show z_G none 1 mX1_age 29 [some (.ref (p + 10)), some (.int x1), some (.int x2)] [] q4.2 Q
        refine g_aload_n dX1_age_29 rfl rfl ?_
        refine g_get (a := p + 8) (v := .ref (p + 13)) dX1_age_30 f_1_16 (shp_8 hp) rfl rfl ?_
        refine g_iload_n dX1_age_33 rfl rfl ?_
        refine g_dup2 dX1_age_34 rfl rfl ?_
        by_cases g6 : x1 < 0 ∨ 5 ≤ x1.toNatClampNeg
        · rw [if_pos g6] at h; cases h
        replace h := z_iff g6 h
        refine g_iald (a := p + 11) dX1_age_35 (shp_11 hp) g6 ?_
        refine g_iconst (v := (1 : Int32)) dX1_age_36 (by decide) ?_
        refine g_isub dX1_age_37 ?_
        by_cases g7 : x1 < 0 ∨ 5 ≤ x1.toNatClampNeg
        · rw [if_pos g7] at h; cases h
        replace h := z_iff g7 h
        refine g_iast (a := p + 11) dX1_age_38 (shp_11 hp) g7 ?_
        refine g_iinc (v := x1 + (1 : Int32)) (ls' := [some (.ref (p + 10)), some (.int (x1 + (1 : Int32))), some (.int x2)]) dX1_age_39 rfl rfl rfl ?_
        refine g_iinc (v := x2 + (1 : Int32)) (ls' := [some (.ref (p + 10)), some (.int (x1 + (1 : Int32))), some (.int (x2 + (1 : Int32)))]) dX1_age_42 rfl rfl rfl ?_
        refine g_goto (t := 4) dX1_age_45 (by decide) ?_
        exact g_sub (z_sub_s (z_sub_s (z_sub_s z_sub_nil))) (ih _ _ _ _ _ _ h hq)
def F_X1_age (w : Nat) (M : z_Mem) (p : Nat) : Option (Unit × z_Mem) :=
  L_X1_age w p w M (0 : Int32) (0 : Int32)
set_option maxHeartbeats 4000000 in
theorem A_X1_age {w : Nat} {M : z_Mem} {p : Nat} (hp : z_par p) {r : Unit} {M' : z_Mem} {Q : Option Value → z_Mem → Prop} (h : F_X1_age w M p = some (r, M')) (hq : Q none M') : z_Cl 1 mX1_age [.ref (p + 10)] M Q := by
  refine g_in (ls := [some (.ref (p + 10)), none, none]) rfl ?_
  unfold F_X1_age at h
  refine g_iconst (v := (0 : Int32)) dX1_age_0 (by decide) ?_
  refine g_istore_n (ls' := [some (.ref (p + 10)), some (.int (0 : Int32)), none]) dX1_age_1 rfl (Nat.le_of_ble_eq_true rfl) rfl ?_
  refine g_iconst (v := (0 : Int32)) dX1_age_2 (by decide) ?_
  refine g_istore_n (ls' := [some (.ref (p + 10)), some (.int (0 : Int32)), some (.int (0 : Int32))]) dX1_age_3 rfl (Nat.le_of_ble_eq_true rfl) rfl ?_
  exact g_sub (z_sub_s (z_sub_s (z_sub_s z_sub_nil))) ((AL_X1_age (w := w) hp w) _ _ _ _ _ _ h hq)
theorem dX1_lapseAll_0 : decode cX1_lapseAll 0 = .ok (.aload_n 0, 1) := by decide +kernel
theorem dX1_lapseAll_1 : decode cX1_lapseAll 1 = .ok (.dup, 1) := by decide +kernel
theorem dX1_lapseAll_2 : decode cX1_lapseAll 2 = .ok (.getfield 27, 3) := by decide +kernel
theorem dX1_lapseAll_5 : decode cX1_lapseAll 5 = .ok (.aload_n 0, 1) := by decide +kernel
theorem dX1_lapseAll_6 : decode cX1_lapseAll 6 = .ok (.getfield 19, 3) := by decide +kernel
theorem dX1_lapseAll_9 : decode cX1_lapseAll 9 = .ok (.iadd, 1) := by decide +kernel
theorem dX1_lapseAll_10 : decode cX1_lapseAll 10 = .ok (.putfield 27, 3) := by decide +kernel
theorem dX1_lapseAll_13 : decode cX1_lapseAll 13 = .ok (.aload_n 0, 1) := by decide +kernel
theorem dX1_lapseAll_14 : decode cX1_lapseAll 14 = .ok (.iconst 0, 1) := by decide +kernel
theorem dX1_lapseAll_15 : decode cX1_lapseAll 15 = .ok (.putfield 19, 3) := by decide +kernel
theorem dX1_lapseAll_18 : decode cX1_lapseAll 18 = .ok (.return_, 1) := by decide +kernel
def F_X1_lapseAll (w : Nat) (M : z_Mem) (p : Nat) : Option (Unit × z_Mem) :=
  some ((), (z_wI (z_wI M (p + 8) 4 ((M.1 (p + 8) 4) + (M.1 (p + 8) 3))) (p + 8) 3 (0 : Int32)))
set_option maxHeartbeats 4000000 in
theorem A_X1_lapseAll {w : Nat} {M : z_Mem} {p : Nat} (hp : z_par p) {r : Unit} {M' : z_Mem} {Q : Option Value → z_Mem → Prop} (h : F_X1_lapseAll w M p = some (r, M')) (hq : Q none M') : z_Cl 0 mX1_lapseAll [.ref (p + 10)] M Q := by
  refine g_in (ls := [some (.ref (p + 10))]) rfl ?_
  unfold F_X1_lapseAll at h
  refine g_aload_n dX1_lapseAll_0 rfl rfl ?_
  refine g_dup dX1_lapseAll_1 rfl ?_
  refine g_get (a := p + 8) (v := .int (M.1 (p + 8) 4)) dX1_lapseAll_2 f_1_27 (shp_8 hp) rfl rfl ?_
  refine g_aload_n dX1_lapseAll_5 rfl rfl ?_
  refine g_get (a := p + 8) (v := .int (M.1 (p + 8) 3)) dX1_lapseAll_6 f_1_19 (shp_8 hp) rfl rfl ?_
  refine g_iadd dX1_lapseAll_9 ?_
  refine g_putI (a := p + 8) dX1_lapseAll_10 f_1_27 (shp_8 hp) rfl rfl rfl ?_
  refine g_aload_n dX1_lapseAll_13 rfl rfl ?_
  refine g_iconst (v := (0 : Int32)) dX1_lapseAll_14 (by decide) ?_
  refine g_putI (a := p + 8) dX1_lapseAll_15 f_1_19 (shp_8 hp) rfl rfl rfl ?_
  cases h
  exact g_vret dX1_lapseAll_18 rfl hq
theorem dX1_owedBy_0 : decode cX1_owedBy 0 = .ok (.iconst 0, 1) := by decide +kernel
theorem dX1_owedBy_1 : decode cX1_owedBy 1 = .ok (.istore_n 2, 1) := by decide +kernel
theorem dX1_owedBy_2 : decode cX1_owedBy 2 = .ok (.iconst 0, 1) := by decide +kernel
theorem dX1_owedBy_3 : decode cX1_owedBy 3 = .ok (.istore_n 3, 1) := by decide +kernel
theorem dX1_owedBy_4 : decode cX1_owedBy 4 = .ok (.iload_n 3, 1) := by decide +kernel
theorem dX1_owedBy_5 : decode cX1_owedBy 5 = .ok (.aload_n 0, 1) := by decide +kernel
theorem dX1_owedBy_6 : decode cX1_owedBy 6 = .ok (.getfield 19, 3) := by decide +kernel
theorem dX1_owedBy_9 : decode cX1_owedBy 9 = .ok (.if_icmp .ge 28, 3) := by decide +kernel
theorem dX1_owedBy_12 : decode cX1_owedBy 12 = .ok (.aload_n 0, 1) := by decide +kernel
theorem dX1_owedBy_13 : decode cX1_owedBy 13 = .ok (.getfield 9, 3) := by decide +kernel
theorem dX1_owedBy_16 : decode cX1_owedBy 16 = .ok (.iload_n 3, 1) := by decide +kernel
theorem dX1_owedBy_17 : decode cX1_owedBy 17 = .ok (.iaload, 1) := by decide +kernel
theorem dX1_owedBy_18 : decode cX1_owedBy 18 = .ok (.iload_n 1, 1) := by decide +kernel
theorem dX1_owedBy_19 : decode cX1_owedBy 19 = .ok (.if_icmp .ne 12, 3) := by decide +kernel
theorem dX1_owedBy_22 : decode cX1_owedBy 22 = .ok (.iload_n 2, 1) := by decide +kernel
theorem dX1_owedBy_23 : decode cX1_owedBy 23 = .ok (.aload_n 0, 1) := by decide +kernel
theorem dX1_owedBy_24 : decode cX1_owedBy 24 = .ok (.getfield 13, 3) := by decide +kernel
theorem dX1_owedBy_27 : decode cX1_owedBy 27 = .ok (.iload_n 3, 1) := by decide +kernel
theorem dX1_owedBy_28 : decode cX1_owedBy 28 = .ok (.iaload, 1) := by decide +kernel
theorem dX1_owedBy_29 : decode cX1_owedBy 29 = .ok (.iadd, 1) := by decide +kernel
theorem dX1_owedBy_30 : decode cX1_owedBy 30 = .ok (.istore_n 2, 1) := by decide +kernel
theorem dX1_owedBy_31 : decode cX1_owedBy 31 = .ok (.iinc 3 1, 3) := by decide +kernel
theorem dX1_owedBy_34 : decode cX1_owedBy 34 = .ok (.goto (-30), 3) := by decide +kernel
theorem dX1_owedBy_37 : decode cX1_owedBy 37 = .ok (.iload_n 2, 1) := by decide +kernel
theorem dX1_owedBy_38 : decode cX1_owedBy 38 = .ok (.ireturn, 1) := by decide +kernel
def L_X1_owedBy (w : Nat) (p : Nat) : Nat → z_Mem → Int32 → Int32 → Int32 → Option (Int32 × z_Mem)
  | 0, _, _, _, _ => none
  | c + 1, M, x1, x2, x3 =>
    if (M.1 (p + 8) 3) ≤ x3 then
    some (x2, M)
    else
    if x3 < 0 ∨ 5 ≤ x3.toNatClampNeg then none else
    if (M.1 (p + 9) x3.toNatClampNeg) = x1 then
    if x3 < 0 ∨ 5 ≤ x3.toNatClampNeg then none else
    L_X1_owedBy w p c M x1 (x2 + (M.1 (p + 10) x3.toNatClampNeg)) (x3 + (1 : Int32))
    else
    L_X1_owedBy w p c M x1 x2 (x3 + (1 : Int32))
set_option maxHeartbeats 4000000 in
theorem AL_X1_owedBy {w : Nat} {p : Nat} (hp : z_par p) : ∀ (c : Nat), (∀ (M : z_Mem) (x1 : Int32) (x2 : Int32) (x3 : Int32) (r : Int32) (M' : z_Mem) (Q : Option Value → z_Mem → Prop), L_X1_owedBy w p c M x1 x2 x3 = some (r, M') → Q (some (.int r)) M' → z_G none 0 mX1_owedBy 4 [some (.ref (p + 10)), some (.int x1), some (.int x2), some (.int x3)] [] M Q) := by
  intro c
  induction c with
  | zero => exact (fun M x1 x2 x3 r M' Q h hq => by rw [L_X1_owedBy] at h; cases h)
  | succ c ih =>
    intro M x1 x2 x3 r M' Q h hq
    rw [L_X1_owedBy] at h
    refine g_iload_n dX1_owedBy_4 rfl rfl ?_
    refine g_aload_n dX1_owedBy_5 rfl rfl ?_
    refine g_get (a := p + 8) (v := .int (M.1 (p + 8) 3)) dX1_owedBy_6 f_1_19 (shp_8 hp) rfl rfl ?_
    refine g_ic_ge (t := 37) dX1_owedBy_9 (by decide) (fun c1 => ?_) (fun c1 => ?_)
    · replace h := z_ift c1 h
      refine g_iload_n dX1_owedBy_37 rfl rfl ?_
      cases h
      exact g_iret dX1_owedBy_38 rfl rfl hq
    · replace h := z_iff c1 h
      refine g_aload_n dX1_owedBy_12 rfl rfl ?_
      refine g_get (a := p + 8) (v := .ref (p + 11)) dX1_owedBy_13 f_1_9 (shp_8 hp) rfl rfl ?_
      refine g_iload_n dX1_owedBy_16 rfl rfl ?_
      by_cases g2 : x3 < 0 ∨ 5 ≤ x3.toNatClampNeg
      · rw [if_pos g2] at h; cases h
      replace h := z_iff g2 h
      refine g_iald (a := p + 9) dX1_owedBy_17 (shp_9 hp) g2 ?_
      refine g_iload_n dX1_owedBy_18 rfl rfl ?_
      refine g_ic_ne (t := 31) dX1_owedBy_19 (by decide) (fun c3 => ?_) (fun c3 => ?_)
      · replace h := z_iff c3 h
        refine g_iinc (v := x3 + (1 : Int32)) (ls' := [some (.ref (p + 10)), some (.int x1), some (.int x2), some (.int (x3 + (1 : Int32)))]) dX1_owedBy_31 rfl rfl rfl ?_
        refine g_goto (t := 4) dX1_owedBy_34 (by decide) ?_
        exact g_sub (z_sub_s (z_sub_s (z_sub_s (z_sub_s z_sub_nil)))) (ih _ _ _ _ _ _ _ h hq)
      · replace h := z_ift c3 h
        refine g_iload_n dX1_owedBy_22 rfl rfl ?_
        refine g_aload_n dX1_owedBy_23 rfl rfl ?_
        refine g_get (a := p + 8) (v := .ref (p + 12)) dX1_owedBy_24 f_1_13 (shp_8 hp) rfl rfl ?_
        refine g_iload_n dX1_owedBy_27 rfl rfl ?_
        by_cases g4 : x3 < 0 ∨ 5 ≤ x3.toNatClampNeg
        · rw [if_pos g4] at h; cases h
        replace h := z_iff g4 h
        refine g_iald (a := p + 10) dX1_owedBy_28 (shp_10 hp) g4 ?_
        refine g_iadd dX1_owedBy_29 ?_
        refine g_istore_n (ls' := [some (.ref (p + 10)), some (.int x1), some (.int (x2 + (M.1 (p + 10) x3.toNatClampNeg))), some (.int x3)]) dX1_owedBy_30 rfl (Nat.le_of_ble_eq_true rfl) rfl ?_
        refine g_iinc (v := x3 + (1 : Int32)) (ls' := [some (.ref (p + 10)), some (.int x1), some (.int (x2 + (M.1 (p + 10) x3.toNatClampNeg))), some (.int (x3 + (1 : Int32)))]) dX1_owedBy_31 rfl rfl rfl ?_
        refine g_goto (t := 4) dX1_owedBy_34 (by decide) ?_
        exact g_sub (z_sub_s (z_sub_s (z_sub_s (z_sub_s z_sub_nil)))) (ih _ _ _ _ _ _ _ h hq)
def F_X1_owedBy (w : Nat) (M : z_Mem) (p : Nat) (a1 : Int32) : Option (Int32 × z_Mem) :=
  L_X1_owedBy w p w M a1 (0 : Int32) (0 : Int32)
set_option maxHeartbeats 4000000 in
theorem A_X1_owedBy {w : Nat} {M : z_Mem} {p : Nat} (hp : z_par p) {a1 : Int32} {r : Int32} {M' : z_Mem} {Q : Option Value → z_Mem → Prop} (h : F_X1_owedBy w M p a1 = some (r, M')) (hq : Q (some (.int r)) M') : z_Cl 0 mX1_owedBy [.ref (p + 10), .int a1] M Q := by
  refine g_in (ls := [some (.ref (p + 10)), some (.int a1), none, none]) rfl ?_
  unfold F_X1_owedBy at h
  refine g_iconst (v := (0 : Int32)) dX1_owedBy_0 (by decide) ?_
  refine g_istore_n (ls' := [some (.ref (p + 10)), some (.int a1), some (.int (0 : Int32)), none]) dX1_owedBy_1 rfl (Nat.le_of_ble_eq_true rfl) rfl ?_
  refine g_iconst (v := (0 : Int32)) dX1_owedBy_2 (by decide) ?_
  refine g_istore_n (ls' := [some (.ref (p + 10)), some (.int a1), some (.int (0 : Int32)), some (.int (0 : Int32))]) dX1_owedBy_3 rfl (Nat.le_of_ble_eq_true rfl) rfl ?_
  exact g_sub (z_sub_s (z_sub_s (z_sub_s (z_sub_s z_sub_nil)))) ((AL_X1_owedBy (w := w) hp w) _ _ _ _ _ _ _ h hq)
theorem dX1_copyFrom_0 : decode cX1_copyFrom 0 = .ok (.aload_n 0, 1) := by decide +kernel
theorem dX1_copyFrom_1 : decode cX1_copyFrom 1 = .ok (.aload_n 1, 1) := by decide +kernel
theorem dX1_copyFrom_2 : decode cX1_copyFrom 2 = .ok (.getfield 19, 3) := by decide +kernel
theorem dX1_copyFrom_5 : decode cX1_copyFrom 5 = .ok (.putfield 19, 3) := by decide +kernel
theorem dX1_copyFrom_8 : decode cX1_copyFrom 8 = .ok (.aload_n 0, 1) := by decide +kernel
theorem dX1_copyFrom_9 : decode cX1_copyFrom 9 = .ok (.aload_n 1, 1) := by decide +kernel
theorem dX1_copyFrom_10 : decode cX1_copyFrom 10 = .ok (.getfield 27, 3) := by decide +kernel
theorem dX1_copyFrom_13 : decode cX1_copyFrom 13 = .ok (.putfield 27, 3) := by decide +kernel
theorem dX1_copyFrom_16 : decode cX1_copyFrom 16 = .ok (.iconst 0, 1) := by decide +kernel
theorem dX1_copyFrom_17 : decode cX1_copyFrom 17 = .ok (.istore_n 2, 1) := by decide +kernel
theorem dX1_copyFrom_18 : decode cX1_copyFrom 18 = .ok (.iload_n 2, 1) := by decide +kernel
theorem dX1_copyFrom_19 : decode cX1_copyFrom 19 = .ok (.aload_n 0, 1) := by decide +kernel
theorem dX1_copyFrom_20 : decode cX1_copyFrom 20 = .ok (.getfield 19, 3) := by decide +kernel
theorem dX1_copyFrom_23 : decode cX1_copyFrom 23 = .ok (.if_icmp .ge 16, 3) := by decide +kernel
theorem dX1_copyFrom_26 : decode cX1_copyFrom 26 = .ok (.aload_n 0, 1) := by decide +kernel
theorem dX1_copyFrom_27 : decode cX1_copyFrom 27 = .ok (.aload_n 1, 1) := by decide +kernel
theorem dX1_copyFrom_28 : decode cX1_copyFrom 28 = .ok (.iload_n 2, 1) := by decide +kernel
theorem dX1_copyFrom_29 : decode cX1_copyFrom 29 = .ok (.iload_n 2, 1) := by decide +kernel
theorem dX1_copyFrom_30 : decode cX1_copyFrom 30 = .ok (.invokevirtual 23, 3) := by decide +kernel
theorem dX1_copyFrom_33 : decode cX1_copyFrom 33 = .ok (.iinc 2 1, 3) := by decide +kernel
theorem dX1_copyFrom_36 : decode cX1_copyFrom 36 = .ok (.goto (-18), 3) := by decide +kernel
theorem dX1_copyFrom_39 : decode cX1_copyFrom 39 = .ok (.return_, 1) := by decide +kernel
def L_X1_copyFrom (w : Nat) (p : Nat) (q : Nat) : Nat → z_Mem → Int32 → Option (Unit × z_Mem)
  | 0, _, _ => none
  | c + 1, M, x2 =>
    if (M.1 (p + 8) 3) ≤ x2 then
    some ((), M)
    else
    (F_X1_copyOne w M p q x2 x2).bind fun q2 =>
    L_X1_copyFrom w p q c q2.2 (x2 + (1 : Int32))
set_option maxHeartbeats 4000000 in
theorem AL_X1_copyFrom {w : Nat} {p : Nat} (hp : z_par p) {q : Nat} (hq2 : z_par q) : ∀ (c : Nat), (∀ (M : z_Mem) (x2 : Int32) (r : Unit) (M' : z_Mem) (Q : Option Value → z_Mem → Prop), L_X1_copyFrom w p q c M x2 = some (r, M') → Q none M' → z_G none 1 mX1_copyFrom 18 [some (.ref (p + 10)), some (.ref (q + 10)), some (.int x2)] [] M Q) := by
  intro c
  induction c with
  | zero => exact (fun M x2 r M' Q h hq => by rw [L_X1_copyFrom] at h; cases h)
  | succ c ih =>
    intro M x2 r M' Q h hq
    rw [L_X1_copyFrom] at h
    refine g_iload_n dX1_copyFrom_18 rfl rfl ?_
    refine g_aload_n dX1_copyFrom_19 rfl rfl ?_
    refine g_get (a := p + 8) (v := .int (M.1 (p + 8) 3)) dX1_copyFrom_20 f_1_19 (shp_8 hp) rfl rfl ?_
    refine g_ic_ge (t := 39) dX1_copyFrom_23 (by decide) (fun c1 => ?_) (fun c1 => ?_)
    · replace h := z_ift c1 h
      cases h
      exact g_vret dX1_copyFrom_39 rfl hq
    · replace h := z_iff c1 h
      refine g_aload_n dX1_copyFrom_26 rfl rfl ?_
      refine g_aload_n dX1_copyFrom_27 rfl rfl ?_
      refine g_iload_n dX1_copyFrom_28 rfl rfl ?_
      refine g_iload_n dX1_copyFrom_29 rfl rfl ?_
      obtain ⟨q2, e3, h⟩ := z_bd h
      refine g_callV (a := p + 8) (as := [.ref (q + 10), .int x2, .int x2]) (rest := []) (c := mX1_copyOne) (k1 := 0) dX1_copyFrom_30 rfl rfl rfl (shp_8 hp) rfl rfl (Nat.le_of_ble_eq_true rfl) (Nat.le_of_ble_eq_true rfl) (by decide) ?_
      refine A_X1_copyOne hp hq2 e3 ?_
      show z_G none 1 mX1_copyFrom 33 [some (.ref (p + 10)), some (.ref (q + 10)), some (.int x2)] [] q2.2 Q
      refine g_iinc (v := x2 + (1 : Int32)) (ls' := [some (.ref (p + 10)), some (.ref (q + 10)), some (.int (x2 + (1 : Int32)))]) dX1_copyFrom_33 rfl rfl rfl ?_
      refine g_goto (t := 18) dX1_copyFrom_36 (by decide) ?_
      exact g_sub (z_sub_s (z_sub_s (z_sub_s z_sub_nil))) (ih _ _ _ _ _ h hq)
def F_X1_copyFrom (w : Nat) (M : z_Mem) (p : Nat) (q : Nat) : Option (Unit × z_Mem) :=
  L_X1_copyFrom w p q w (z_wI (z_wI M (p + 8) 3 (M.1 (q + 8) 3)) (p + 8) 4 ((z_wI M (p + 8) 3 (M.1 (q + 8) 3)).1 (q + 8) 4)) (0 : Int32)
set_option maxHeartbeats 4000000 in
theorem A_X1_copyFrom {w : Nat} {M : z_Mem} {p : Nat} (hp : z_par p) {q : Nat} (hq2 : z_par q) {r : Unit} {M' : z_Mem} {Q : Option Value → z_Mem → Prop} (h : F_X1_copyFrom w M p q = some (r, M')) (hq : Q none M') : z_Cl 1 mX1_copyFrom [.ref (p + 10), .ref (q + 10)] M Q := by
  refine g_in (ls := [some (.ref (p + 10)), some (.ref (q + 10)), none]) rfl ?_
  unfold F_X1_copyFrom at h
  refine g_aload_n dX1_copyFrom_0 rfl rfl ?_
  refine g_aload_n dX1_copyFrom_1 rfl rfl ?_
  refine g_get (a := q + 8) (v := .int (M.1 (q + 8) 3)) dX1_copyFrom_2 f_1_19 (shp_8 hq2) rfl rfl ?_
  refine g_putI (a := p + 8) dX1_copyFrom_5 f_1_19 (shp_8 hp) rfl rfl rfl ?_
  refine g_aload_n dX1_copyFrom_8 rfl rfl ?_
  refine g_aload_n dX1_copyFrom_9 rfl rfl ?_
  refine g_get (a := q + 8) (v := .int ((z_wI M (p + 8) 3 (M.1 (q + 8) 3)).1 (q + 8) 4)) dX1_copyFrom_10 f_1_27 (shp_8 hq2) rfl (by simp [z_fv, z_wI, z_wL, z_wLs, upd, vp_updL]) ?_
  refine g_putI (a := p + 8) dX1_copyFrom_13 f_1_27 (shp_8 hp) rfl rfl rfl ?_
  refine g_iconst (v := (0 : Int32)) dX1_copyFrom_16 (by decide) ?_
  refine g_istore_n (ls' := [some (.ref (p + 10)), some (.ref (q + 10)), some (.int (0 : Int32))]) dX1_copyFrom_17 rfl (Nat.le_of_ble_eq_true rfl) rfl ?_
  exact g_sub (z_sub_s (z_sub_s (z_sub_s z_sub_nil))) ((AL_X1_copyFrom (w := w) hp hq2 w) _ _ _ _ _ h hq)
theorem dX2_begin_0 : decode cX2_begin 0 = .ok (.aload_n 0, 1) := by decide +kernel
theorem dX2_begin_1 : decode cX2_begin 1 = .ok (.iload_n 2, 1) := by decide +kernel
theorem dX2_begin_2 : decode cX2_begin 2 = .ok (.putfield 60, 3) := by decide +kernel
theorem dX2_begin_5 : decode cX2_begin 5 = .ok (.aload_n 0, 1) := by decide +kernel
theorem dX2_begin_6 : decode cX2_begin 6 = .ok (.iconst 0, 1) := by decide +kernel
theorem dX2_begin_7 : decode cX2_begin 7 = .ok (.putfield 42, 3) := by decide +kernel
theorem dX2_begin_10 : decode cX2_begin 10 = .ok (.aload_n 0, 1) := by decide +kernel
theorem dX2_begin_11 : decode cX2_begin 11 = .ok (.iconst 0, 1) := by decide +kernel
theorem dX2_begin_12 : decode cX2_begin 12 = .ok (.putfield 49, 3) := by decide +kernel
theorem dX2_begin_15 : decode cX2_begin 15 = .ok (.aload_n 0, 1) := by decide +kernel
theorem dX2_begin_16 : decode cX2_begin 16 = .ok (.iconst 0, 1) := by decide +kernel
theorem dX2_begin_17 : decode cX2_begin 17 = .ok (.putfield 30, 3) := by decide +kernel
theorem dX2_begin_20 : decode cX2_begin 20 = .ok (.aload_n 0, 1) := by decide +kernel
theorem dX2_begin_21 : decode cX2_begin 21 = .ok (.iconst 1, 1) := by decide +kernel
theorem dX2_begin_22 : decode cX2_begin 22 = .ok (.putfield 63, 3) := by decide +kernel
theorem dX2_begin_25 : decode cX2_begin 25 = .ok (.aload_n 0, 1) := by decide +kernel
theorem dX2_begin_26 : decode cX2_begin 26 = .ok (.aload_n 1, 1) := by decide +kernel
theorem dX2_begin_27 : decode cX2_begin 27 = .ok (.getfield 67, 3) := by decide +kernel
theorem dX2_begin_30 : decode cX2_begin 30 = .ok (.ineg, 1) := by decide +kernel
theorem dX2_begin_31 : decode cX2_begin 31 = .ok (.putfield 70, 3) := by decide +kernel
theorem dX2_begin_34 : decode cX2_begin 34 = .ok (.aload_n 0, 1) := by decide +kernel
theorem dX2_begin_35 : decode cX2_begin 35 = .ok (.aload_n 1, 1) := by decide +kernel
theorem dX2_begin_36 : decode cX2_begin 36 = .ok (.getfield 73, 3) := by decide +kernel
theorem dX2_begin_39 : decode cX2_begin 39 = .ok (.ineg, 1) := by decide +kernel
theorem dX2_begin_40 : decode cX2_begin 40 = .ok (.putfield 76, 3) := by decide +kernel
theorem dX2_begin_43 : decode cX2_begin 43 = .ok (.aload_n 0, 1) := by decide +kernel
theorem dX2_begin_44 : decode cX2_begin 44 = .ok (.aload_n 1, 1) := by decide +kernel
theorem dX2_begin_45 : decode cX2_begin 45 = .ok (.getfield 77, 3) := by decide +kernel
theorem dX2_begin_48 : decode cX2_begin 48 = .ok (.getfield 81, 3) := by decide +kernel
theorem dX2_begin_51 : decode cX2_begin 51 = .ok (.ineg, 1) := by decide +kernel
theorem dX2_begin_52 : decode cX2_begin 52 = .ok (.putfield 86, 3) := by decide +kernel
theorem dX2_begin_55 : decode cX2_begin 55 = .ok (.return_, 1) := by decide +kernel
def F_X2_begin (w : Nat) (M : z_Mem) (l : Nat) (p : Nat) (a2 : Int32) : Option (Unit × z_Mem) :=
  some ((), (z_wI (z_wI (z_wI (z_wI (z_wI (z_wI (z_wI (z_wI M l 1 a2) l 2 (0 : Int32)) l 3 (0 : Int32)) l 7 (0 : Int32)) l 8 (1 : Int32)) l 4 (-((z_wI (z_wI (z_wI (z_wI (z_wI M l 1 a2) l 2 (0 : Int32)) l 3 (0 : Int32)) l 7 (0 : Int32)) l 8 (1 : Int32)).1 p 10))) l 5 (-((z_wI (z_wI (z_wI (z_wI (z_wI (z_wI M l 1 a2) l 2 (0 : Int32)) l 3 (0 : Int32)) l 7 (0 : Int32)) l 8 (1 : Int32)) l 4 (-((z_wI (z_wI (z_wI (z_wI (z_wI M l 1 a2) l 2 (0 : Int32)) l 3 (0 : Int32)) l 7 (0 : Int32)) l 8 (1 : Int32)).1 p 10))).1 p 11))) l 6 (-((z_wI (z_wI (z_wI (z_wI (z_wI (z_wI (z_wI M l 1 a2) l 2 (0 : Int32)) l 3 (0 : Int32)) l 7 (0 : Int32)) l 8 (1 : Int32)) l 4 (-((z_wI (z_wI (z_wI (z_wI (z_wI M l 1 a2) l 2 (0 : Int32)) l 3 (0 : Int32)) l 7 (0 : Int32)) l 8 (1 : Int32)).1 p 10))) l 5 (-((z_wI (z_wI (z_wI (z_wI (z_wI (z_wI M l 1 a2) l 2 (0 : Int32)) l 3 (0 : Int32)) l 7 (0 : Int32)) l 8 (1 : Int32)) l 4 (-((z_wI (z_wI (z_wI (z_wI (z_wI M l 1 a2) l 2 (0 : Int32)) l 3 (0 : Int32)) l 7 (0 : Int32)) l 8 (1 : Int32)).1 p 10))).1 p 11))).1 (p + 8) 4))))
set_option maxHeartbeats 4000000 in
theorem A_X2_begin {w : Nat} {M : z_Mem} {l : Nat} (hl : z_lif l) {p : Nat} (hp : z_par p) {a2 : Int32} {r : Unit} {M' : z_Mem} {Q : Option Value → z_Mem → Prop} (h : F_X2_begin w M l p a2 = some (r, M')) (hq : Q none M') : z_Cl 0 mX2_begin [.ref (l + 2), .ref (p + 2), .int a2] M Q := by
  refine g_in (ls := [some (.ref (l + 2)), some (.ref (p + 2)), some (.int a2)]) rfl ?_
  unfold F_X2_begin at h
  refine g_aload_n dX2_begin_0 rfl rfl ?_
  refine g_iload_n dX2_begin_1 rfl rfl ?_
  refine g_putI (a := l) dX2_begin_2 f_2_60 (shl_0 hl) rfl rfl rfl ?_
  refine g_aload_n dX2_begin_5 rfl rfl ?_
  refine g_iconst (v := (0 : Int32)) dX2_begin_6 (by decide) ?_
  refine g_putI (a := l) dX2_begin_7 f_2_42 (shl_0 hl) rfl rfl rfl ?_
  refine g_aload_n dX2_begin_10 rfl rfl ?_
  refine g_iconst (v := (0 : Int32)) dX2_begin_11 (by decide) ?_
  refine g_putI (a := l) dX2_begin_12 f_2_49 (shl_0 hl) rfl rfl rfl ?_
  refine g_aload_n dX2_begin_15 rfl rfl ?_
  refine g_iconst (v := (0 : Int32)) dX2_begin_16 (by decide) ?_
  refine g_putI (a := l) dX2_begin_17 f_2_30 (shl_0 hl) rfl rfl rfl ?_
  refine g_aload_n dX2_begin_20 rfl rfl ?_
  refine g_iconst (v := (1 : Int32)) dX2_begin_21 (by decide) ?_
  refine g_putZ (a := l) dX2_begin_22 f_2_63 (shl_0 hl) rfl rfl rfl (by first | exact Or.inl rfl | exact Or.inr rfl | exact z_tb01) ?_
  refine g_aload_n dX2_begin_25 rfl rfl ?_
  refine g_aload_n dX2_begin_26 rfl rfl ?_
  refine g_get (a := p) (v := .int ((z_wI (z_wI (z_wI (z_wI (z_wI M l 1 a2) l 2 (0 : Int32)) l 3 (0 : Int32)) l 7 (0 : Int32)) l 8 (1 : Int32)).1 p 10)) dX2_begin_27 f_2_67 (shp_0 hp) rfl (by simp [z_fv, z_wI, z_wL, z_wLs, upd, vp_updL]) ?_
  refine g_ineg dX2_begin_30 ?_
  refine g_putI (a := l) dX2_begin_31 f_2_70 (shl_0 hl) rfl rfl rfl ?_
  refine g_aload_n dX2_begin_34 rfl rfl ?_
  refine g_aload_n dX2_begin_35 rfl rfl ?_
  refine g_get (a := p) (v := .int ((z_wI (z_wI (z_wI (z_wI (z_wI (z_wI M l 1 a2) l 2 (0 : Int32)) l 3 (0 : Int32)) l 7 (0 : Int32)) l 8 (1 : Int32)) l 4 (-((z_wI (z_wI (z_wI (z_wI (z_wI M l 1 a2) l 2 (0 : Int32)) l 3 (0 : Int32)) l 7 (0 : Int32)) l 8 (1 : Int32)).1 p 10))).1 p 11)) dX2_begin_36 f_2_73 (shp_0 hp) rfl (by simp [z_fv, z_wI, z_wL, z_wLs, upd, vp_updL]) ?_
  refine g_ineg dX2_begin_39 ?_
  refine g_putI (a := l) dX2_begin_40 f_2_76 (shl_0 hl) rfl rfl rfl ?_
  refine g_aload_n dX2_begin_43 rfl rfl ?_
  refine g_aload_n dX2_begin_44 rfl rfl ?_
  refine g_get (a := p) (v := .ref (p + 10)) dX2_begin_45 f_2_77 (shp_0 hp) rfl rfl ?_
  refine g_get (a := p + 8) (v := .int ((z_wI (z_wI (z_wI (z_wI (z_wI (z_wI (z_wI M l 1 a2) l 2 (0 : Int32)) l 3 (0 : Int32)) l 7 (0 : Int32)) l 8 (1 : Int32)) l 4 (-((z_wI (z_wI (z_wI (z_wI (z_wI M l 1 a2) l 2 (0 : Int32)) l 3 (0 : Int32)) l 7 (0 : Int32)) l 8 (1 : Int32)).1 p 10))) l 5 (-((z_wI (z_wI (z_wI (z_wI (z_wI (z_wI M l 1 a2) l 2 (0 : Int32)) l 3 (0 : Int32)) l 7 (0 : Int32)) l 8 (1 : Int32)) l 4 (-((z_wI (z_wI (z_wI (z_wI (z_wI M l 1 a2) l 2 (0 : Int32)) l 3 (0 : Int32)) l 7 (0 : Int32)) l 8 (1 : Int32)).1 p 10))).1 p 11))).1 (p + 8) 4)) dX2_begin_48 f_2_81 (shp_8 hp) rfl (by simp [z_fv, z_wI, z_wL, z_wLs, upd, vp_updL]) ?_
  refine g_ineg dX2_begin_51 ?_
  refine g_putI (a := l) dX2_begin_52 f_2_86 (shl_0 hl) rfl rfl rfl ?_
  cases h
  exact g_vret dX2_begin_55 rfl hq
theorem dX2_behindEnd_0 : decode cX2_behindEnd 0 = .ok (.aload_n 1, 1) := by decide +kernel
theorem dX2_behindEnd_1 : decode cX2_behindEnd 1 = .ok (.getfield 87, 3) := by decide +kernel
theorem dX2_behindEnd_4 : decode cX2_behindEnd 4 = .ok (.iload_n 2, 1) := by decide +kernel
theorem dX2_behindEnd_5 : decode cX2_behindEnd 5 = .ok (.iaload, 1) := by decide +kernel
theorem dX2_behindEnd_6 : decode cX2_behindEnd 6 = .ok (.istore_n 3, 1) := by decide +kernel
theorem dX2_behindEnd_7 : decode cX2_behindEnd 7 = .ok (.aload_n 1, 1) := by decide +kernel
theorem dX2_behindEnd_8 : decode cX2_behindEnd 8 = .ok (.getfield 33, 3) := by decide +kernel
theorem dX2_behindEnd_11 : decode cX2_behindEnd 11 = .ok (.iload_n 3, 1) := by decide +kernel
theorem dX2_behindEnd_12 : decode cX2_behindEnd 12 = .ok (.iaload, 1) := by decide +kernel
theorem dX2_behindEnd_13 : decode cX2_behindEnd 13 = .ok (.bipush 27, 2) := by decide +kernel
theorem dX2_behindEnd_15 : decode cX2_behindEnd 15 = .ok (.if_icmp .ne 26, 3) := by decide +kernel
theorem dX2_behindEnd_18 : decode cX2_behindEnd 18 = .ok (.aload_n 0, 1) := by decide +kernel
theorem dX2_behindEnd_19 : decode cX2_behindEnd 19 = .ok (.getfield 9, 3) := by decide +kernel
theorem dX2_behindEnd_22 : decode cX2_behindEnd 22 = .ok (.iload_n 3, 1) := by decide +kernel
theorem dX2_behindEnd_23 : decode cX2_behindEnd 23 = .ok (.dup2, 1) := by decide +kernel
theorem dX2_behindEnd_24 : decode cX2_behindEnd 24 = .ok (.iaload, 1) := by decide +kernel
theorem dX2_behindEnd_25 : decode cX2_behindEnd 25 = .ok (.iconst 1, 1) := by decide +kernel
theorem dX2_behindEnd_26 : decode cX2_behindEnd 26 = .ok (.isub, 1) := by decide +kernel
theorem dX2_behindEnd_27 : decode cX2_behindEnd 27 = .ok (.iastore, 1) := by decide +kernel
theorem dX2_behindEnd_28 : decode cX2_behindEnd 28 = .ok (.aload_n 0, 1) := by decide +kernel
theorem dX2_behindEnd_29 : decode cX2_behindEnd 29 = .ok (.getfield 9, 3) := by decide +kernel
theorem dX2_behindEnd_32 : decode cX2_behindEnd 32 = .ok (.iload_n 3, 1) := by decide +kernel
theorem dX2_behindEnd_33 : decode cX2_behindEnd 33 = .ok (.iaload, 1) := by decide +kernel
theorem dX2_behindEnd_34 : decode cX2_behindEnd 34 = .ok (.ifCond .le 7, 3) := by decide +kernel
theorem dX2_behindEnd_37 : decode cX2_behindEnd 37 = .ok (.iload_n 3, 1) := by decide +kernel
theorem dX2_behindEnd_38 : decode cX2_behindEnd 38 = .ok (.iconst 1, 1) := by decide +kernel
theorem dX2_behindEnd_39 : decode cX2_behindEnd 39 = .ok (.iadd, 1) := by decide +kernel
theorem dX2_behindEnd_40 : decode cX2_behindEnd 40 = .ok (.ireturn, 1) := by decide +kernel
theorem dX2_behindEnd_41 : decode cX2_behindEnd 41 = .ok (.iload_n 2, 1) := by decide +kernel
theorem dX2_behindEnd_42 : decode cX2_behindEnd 42 = .ok (.iconst 1, 1) := by decide +kernel
theorem dX2_behindEnd_43 : decode cX2_behindEnd 43 = .ok (.iadd, 1) := by decide +kernel
theorem dX2_behindEnd_44 : decode cX2_behindEnd 44 = .ok (.ireturn, 1) := by decide +kernel
def F_X2_behindEnd (w : Nat) (M : z_Mem) (l : Nat) (p : Nat) (a2 : Int32) : Option (Int32 × z_Mem) :=
  if a2 < 0 ∨ 60 ≤ a2.toNatClampNeg then none else
  if (M.1 (p + 22) a2.toNatClampNeg) < 0 ∨ 60 ≤ (M.1 (p + 22) a2.toNatClampNeg).toNatClampNeg then none else
  if (M.1 (p + 18) (M.1 (p + 22) a2.toNatClampNeg).toNatClampNeg) = (27 : Int32) then
  if (M.1 (p + 22) a2.toNatClampNeg) < 0 ∨ 60 ≤ (M.1 (p + 22) a2.toNatClampNeg).toNatClampNeg then none else
  if (M.1 (p + 22) a2.toNatClampNeg) < 0 ∨ 60 ≤ (M.1 (p + 22) a2.toNatClampNeg).toNatClampNeg then none else
  if (M.1 (p + 22) a2.toNatClampNeg) < 0 ∨ 60 ≤ (M.1 (p + 22) a2.toNatClampNeg).toNatClampNeg then none else
  if ((z_wI M (l + 1) ((M.1 (p + 22) a2.toNatClampNeg).toNatClampNeg) ((M.1 (l + 1) (M.1 (p + 22) a2.toNatClampNeg).toNatClampNeg) - (1 : Int32))).1 (l + 1) (M.1 (p + 22) a2.toNatClampNeg).toNatClampNeg) ≤ (0 : Int32) then
  some (a2 + (1 : Int32), (z_wI M (l + 1) ((M.1 (p + 22) a2.toNatClampNeg).toNatClampNeg) ((M.1 (l + 1) (M.1 (p + 22) a2.toNatClampNeg).toNatClampNeg) - (1 : Int32))))
  else
  some ((M.1 (p + 22) a2.toNatClampNeg) + (1 : Int32), (z_wI M (l + 1) ((M.1 (p + 22) a2.toNatClampNeg).toNatClampNeg) ((M.1 (l + 1) (M.1 (p + 22) a2.toNatClampNeg).toNatClampNeg) - (1 : Int32))))
  else
  some (a2 + (1 : Int32), M)
set_option maxHeartbeats 4000000 in
theorem A_X2_behindEnd {w : Nat} {M : z_Mem} {l : Nat} (hl : z_lif l) {p : Nat} (hp : z_par p) {a2 : Int32} {r : Int32} {M' : z_Mem} {Q : Option Value → z_Mem → Prop} (h : F_X2_behindEnd w M l p a2 = some (r, M')) (hq : Q (some (.int r)) M') : z_Cl 0 mX2_behindEnd [.ref (l + 2), .ref (p + 19), .int a2] M Q := by
  refine g_in (ls := [some (.ref (l + 2)), some (.ref (p + 19)), some (.int a2), none]) rfl ?_
  unfold F_X2_behindEnd at h
  refine g_aload_n dX2_behindEnd_0 rfl rfl ?_
  refine g_get (a := p + 17) (v := .ref (p + 24)) dX2_behindEnd_1 f_2_87 (shp_17 hp) rfl rfl ?_
  refine g_iload_n dX2_behindEnd_4 rfl rfl ?_
  by_cases g1 : a2 < 0 ∨ 60 ≤ a2.toNatClampNeg
  · rw [if_pos g1] at h; cases h
  replace h := z_iff g1 h
  refine g_iald (a := p + 22) dX2_behindEnd_5 (shp_22 hp) g1 ?_
  refine g_istore_n (ls' := [some (.ref (l + 2)), some (.ref (p + 19)), some (.int a2), some (.int (M.1 (p + 22) a2.toNatClampNeg))]) dX2_behindEnd_6 rfl (Nat.le_of_ble_eq_true rfl) rfl ?_
  refine g_aload_n dX2_behindEnd_7 rfl rfl ?_
  refine g_get (a := p + 17) (v := .ref (p + 20)) dX2_behindEnd_8 f_2_33 (shp_17 hp) rfl rfl ?_
  refine g_iload_n dX2_behindEnd_11 rfl rfl ?_
  by_cases g2 : (M.1 (p + 22) a2.toNatClampNeg) < 0 ∨ 60 ≤ (M.1 (p + 22) a2.toNatClampNeg).toNatClampNeg
  · rw [if_pos g2] at h; cases h
  replace h := z_iff g2 h
  refine g_iald (a := p + 18) dX2_behindEnd_12 (shp_18 hp) g2 ?_
  refine g_bipush (v := (27 : Int32)) dX2_behindEnd_13 (by decide) ?_
  refine g_ic_ne (t := 41) dX2_behindEnd_15 (by decide) (fun c3 => ?_) (fun c3 => ?_)
  · replace h := z_iff c3 h
    refine g_iload_n dX2_behindEnd_41 rfl rfl ?_
    refine g_iconst (v := (1 : Int32)) dX2_behindEnd_42 (by decide) ?_
    refine g_iadd dX2_behindEnd_43 ?_
    cases h
    exact g_iret dX2_behindEnd_44 rfl rfl hq
  · replace h := z_ift c3 h
    refine g_aload_n dX2_behindEnd_18 rfl rfl ?_
    refine g_get (a := l) (v := .ref (l + 3)) dX2_behindEnd_19 f_2_9 (shl_0 hl) rfl rfl ?_
    refine g_iload_n dX2_behindEnd_22 rfl rfl ?_
    refine g_dup2 dX2_behindEnd_23 rfl rfl ?_
    by_cases g4 : (M.1 (p + 22) a2.toNatClampNeg) < 0 ∨ 60 ≤ (M.1 (p + 22) a2.toNatClampNeg).toNatClampNeg
    · rw [if_pos g4] at h; cases h
    replace h := z_iff g4 h
    refine g_iald (a := l + 1) dX2_behindEnd_24 (shl_1 hl) g4 ?_
    refine g_iconst (v := (1 : Int32)) dX2_behindEnd_25 (by decide) ?_
    refine g_isub dX2_behindEnd_26 ?_
    by_cases g5 : (M.1 (p + 22) a2.toNatClampNeg) < 0 ∨ 60 ≤ (M.1 (p + 22) a2.toNatClampNeg).toNatClampNeg
    · rw [if_pos g5] at h; cases h
    replace h := z_iff g5 h
    refine g_iast (a := l + 1) dX2_behindEnd_27 (shl_1 hl) g5 ?_
    refine g_aload_n dX2_behindEnd_28 rfl rfl ?_
    refine g_get (a := l) (v := .ref (l + 3)) dX2_behindEnd_29 f_2_9 (shl_0 hl) rfl rfl ?_
    refine g_iload_n dX2_behindEnd_32 rfl rfl ?_
    by_cases g6 : (M.1 (p + 22) a2.toNatClampNeg) < 0 ∨ 60 ≤ (M.1 (p + 22) a2.toNatClampNeg).toNatClampNeg
    · rw [if_pos g6] at h; cases h
    replace h := z_iff g6 h
    refine g_iald (a := l + 1) dX2_behindEnd_33 (shl_1 hl) g6 ?_
    refine g_if_le (t := 41) dX2_behindEnd_34 (by decide) (fun c7 => ?_) (fun c7 => ?_)
    · replace h := z_ift c7 h
      refine g_iload_n dX2_behindEnd_41 rfl rfl ?_
      refine g_iconst (v := (1 : Int32)) dX2_behindEnd_42 (by decide) ?_
      refine g_iadd dX2_behindEnd_43 ?_
      cases h
      exact g_iret dX2_behindEnd_44 rfl rfl hq
    · replace h := z_iff c7 h
      refine g_iload_n dX2_behindEnd_37 rfl rfl ?_
      refine g_iconst (v := (1 : Int32)) dX2_behindEnd_38 (by decide) ?_
      refine g_iadd dX2_behindEnd_39 ?_
      cases h
      exact g_iret dX2_behindEnd_40 rfl rfl hq
theorem dX6_isIn_0 : decode cX6_isIn 0 = .ok (.aload_n 0, 1) := by decide +kernel
theorem dX6_isIn_1 : decode cX6_isIn 1 = .ok (.getfield 22, 3) := by decide +kernel
theorem dX6_isIn_4 : decode cX6_isIn 4 = .ok (.iload_n 1, 1) := by decide +kernel
theorem dX6_isIn_5 : decode cX6_isIn 5 = .ok (.iaload, 1) := by decide +kernel
theorem dX6_isIn_6 : decode cX6_isIn 6 = .ok (.iload_n 2, 1) := by decide +kernel
theorem dX6_isIn_7 : decode cX6_isIn 7 = .ok (.ishr, 1) := by decide +kernel
theorem dX6_isIn_8 : decode cX6_isIn 8 = .ok (.iconst 1, 1) := by decide +kernel
theorem dX6_isIn_9 : decode cX6_isIn 9 = .ok (.iand, 1) := by decide +kernel
theorem dX6_isIn_10 : decode cX6_isIn 10 = .ok (.iconst 1, 1) := by decide +kernel
theorem dX6_isIn_11 : decode cX6_isIn 11 = .ok (.if_icmp .ne 7, 3) := by decide +kernel
theorem dX6_isIn_14 : decode cX6_isIn 14 = .ok (.iconst 1, 1) := by decide +kernel
theorem dX6_isIn_15 : decode cX6_isIn 15 = .ok (.goto 4, 3) := by decide +kernel
theorem dX6_isIn_18 : decode cX6_isIn 18 = .ok (.iconst 0, 1) := by decide +kernel
theorem dX6_isIn_19 : decode cX6_isIn 19 = .ok (.ireturn, 1) := by decide +kernel
def F_X6_isIn (w : Nat) (M : z_Mem) (p : Nat) (a1 : Int32) (a2 : Int32) : Option (Bool × z_Mem) :=
  if a1 < 0 ∨ 8 ≤ a1.toNatClampNeg then none else
  if (((M.1 (p + 7) a1.toNatClampNeg) >>> (a2 &&& 31)) &&& (1 : Int32)) = (1 : Int32) then
  some (true, M)
  else
  some (false, M)
set_option maxHeartbeats 4000000 in
theorem A_X6_isIn {w : Nat} {M : z_Mem} {p : Nat} (hp : z_par p) {a1 : Int32} {a2 : Int32} {r : Bool} {M' : z_Mem} {Q : Option Value → z_Mem → Prop} (h : F_X6_isIn w M p a1 a2 = some (r, M')) (hq : Q (some (.int (z_tb r))) M') : z_Cl 0 mX6_isIn [.ref (p + 4), .int a1, .int a2] M Q := by
  refine g_in (ls := [some (.ref (p + 4)), some (.int a1), some (.int a2)]) rfl ?_
  unfold F_X6_isIn at h
  refine g_aload_n dX6_isIn_0 rfl rfl ?_
  refine g_get (a := p + 2) (v := .ref (p + 9)) dX6_isIn_1 f_6_22 (shp_2 hp) rfl rfl ?_
  refine g_iload_n dX6_isIn_4 rfl rfl ?_
  by_cases g1 : a1 < 0 ∨ 8 ≤ a1.toNatClampNeg
  · rw [if_pos g1] at h; cases h
  replace h := z_iff g1 h
  refine g_iald (a := p + 7) dX6_isIn_5 (shp_7 hp) g1 ?_
  refine g_iload_n dX6_isIn_6 rfl rfl ?_
  refine g_ishr dX6_isIn_7 ?_
  refine g_iconst (v := (1 : Int32)) dX6_isIn_8 (by decide) ?_
  refine g_iand dX6_isIn_9 ?_
  refine g_iconst (v := (1 : Int32)) dX6_isIn_10 (by decide) ?_
  refine g_ic_ne (t := 18) dX6_isIn_11 (by decide) (fun c2 => ?_) (fun c2 => ?_)
  · replace h := z_iff c2 h
    refine g_iconst (v := (0 : Int32)) dX6_isIn_18 (by decide) ?_
    cases h
    exact g_iret dX6_isIn_19 rfl rfl hq
  · replace h := z_ift c2 h
    refine g_iconst (v := (1 : Int32)) dX6_isIn_14 (by decide) ?_
    refine g_goto (t := 19) dX6_isIn_15 (by decide) ?_
    cases h
    exact g_iret dX6_isIn_19 rfl rfl hq
theorem dX3_sideAgo_0 : decode cX3_sideAgo 0 = .ok (.iload_n 1, 1) := by decide +kernel
theorem dX3_sideAgo_1 : decode cX3_sideAgo 1 = .ok (.ifCond .ne 10, 3) := by decide +kernel
theorem dX3_sideAgo_4 : decode cX3_sideAgo 4 = .ok (.aload_n 0, 1) := by decide +kernel
theorem dX3_sideAgo_5 : decode cX3_sideAgo 5 = .ok (.getfield 75, 3) := by decide +kernel
theorem dX3_sideAgo_8 : decode cX3_sideAgo 8 = .ok (.goto 13, 3) := by decide +kernel
theorem dX3_sideAgo_11 : decode cX3_sideAgo 11 = .ok (.aload_n 0, 1) := by decide +kernel
theorem dX3_sideAgo_12 : decode cX3_sideAgo 12 = .ok (.getfield 78, 3) := by decide +kernel
theorem dX3_sideAgo_15 : decode cX3_sideAgo 15 = .ok (.iload_n 1, 1) := by decide +kernel
theorem dX3_sideAgo_16 : decode cX3_sideAgo 16 = .ok (.iconst 1, 1) := by decide +kernel
theorem dX3_sideAgo_17 : decode cX3_sideAgo 17 = .ok (.isub, 1) := by decide +kernel
theorem dX3_sideAgo_18 : decode cX3_sideAgo 18 = .ok (.ishr, 1) := by decide +kernel
theorem dX3_sideAgo_19 : decode cX3_sideAgo 19 = .ok (.iconst 1, 1) := by decide +kernel
theorem dX3_sideAgo_20 : decode cX3_sideAgo 20 = .ok (.iand, 1) := by decide +kernel
theorem dX3_sideAgo_21 : decode cX3_sideAgo 21 = .ok (.ireturn, 1) := by decide +kernel
def F_X3_sideAgo (w : Nat) (M : z_Mem) (p : Nat) (a1 : Int32) : Option (Int32 × z_Mem) :=
  if a1 = (0 : Int32) then
  some (M.1 p 8, M)
  else
  some (((M.1 p 9) >>> ((a1 - (1 : Int32)) &&& 31)) &&& (1 : Int32), M)
set_option maxHeartbeats 4000000 in
theorem A_X3_sideAgo {w : Nat} {M : z_Mem} {p : Nat} (hp : z_par p) {a1 : Int32} {r : Int32} {M' : z_Mem} {Q : Option Value → z_Mem → Prop} (h : F_X3_sideAgo w M p a1 = some (r, M')) (hq : Q (some (.int r)) M') : z_Cl 0 mX3_sideAgo [.ref (p + 2), .int a1] M Q := by
  refine g_in (ls := [some (.ref (p + 2)), some (.int a1)]) rfl ?_
  unfold F_X3_sideAgo at h
  refine g_iload_n dX3_sideAgo_0 rfl rfl ?_
  refine g_if_ne (t := 11) dX3_sideAgo_1 (by decide) (fun c1 => ?_) (fun c1 => ?_)
  · replace h := z_iff c1 h
    refine g_aload_n dX3_sideAgo_11 rfl rfl ?_
    refine g_get (a := p) (v := .int (M.1 p 9)) dX3_sideAgo_12 f_3_78 (shp_0 hp) rfl rfl ?_
    refine g_iload_n dX3_sideAgo_15 rfl rfl ?_
    refine g_iconst (v := (1 : Int32)) dX3_sideAgo_16 (by decide) ?_
    refine g_isub dX3_sideAgo_17 ?_
    refine g_ishr dX3_sideAgo_18 ?_
    refine g_iconst (v := (1 : Int32)) dX3_sideAgo_19 (by decide) ?_
    refine g_iand dX3_sideAgo_20 ?_
    cases h
    exact g_iret dX3_sideAgo_21 rfl rfl hq
  · replace h := z_ift c1 h
    refine g_aload_n dX3_sideAgo_4 rfl rfl ?_
    refine g_get (a := p) (v := .int (M.1 p 8)) dX3_sideAgo_5 f_3_75 (shp_0 hp) rfl rfl ?_
    refine g_goto (t := 21) dX3_sideAgo_8 (by decide) ?_
    cases h
    exact g_iret dX3_sideAgo_21 rfl rfl hq
theorem dX3_isBearing_0 : decode cX3_isBearing 0 = .ok (.aload_n 0, 1) := by decide +kernel
theorem dX3_isBearing_1 : decode cX3_isBearing 1 = .ok (.getfield 18, 3) := by decide +kernel
theorem dX3_isBearing_4 : decode cX3_isBearing 4 = .ok (.iload_n 1, 1) := by decide +kernel
theorem dX3_isBearing_5 : decode cX3_isBearing 5 = .ok (.aload_n 0, 1) := by decide +kernel
theorem dX3_isBearing_6 : decode cX3_isBearing 6 = .ok (.getfield 65, 3) := by decide +kernel
theorem dX3_isBearing_9 : decode cX3_isBearing 9 = .ok (.bipush 12, 2) := by decide +kernel
theorem dX3_isBearing_11 : decode cX3_isBearing 11 = .ok (.irem, 1) := by decide +kernel
theorem dX3_isBearing_12 : decode cX3_isBearing 12 = .ok (.invokevirtual 81, 3) := by decide +kernel
theorem dX3_isBearing_15 : decode cX3_isBearing 15 = .ok (.ifCond .ne 5, 3) := by decide +kernel
theorem dX3_isBearing_18 : decode cX3_isBearing 18 = .ok (.iconst 0, 1) := by decide +kernel
theorem dX3_isBearing_19 : decode cX3_isBearing 19 = .ok (.ireturn, 1) := by decide +kernel
theorem dX3_isBearing_20 : decode cX3_isBearing 20 = .ok (.aload_n 0, 1) := by decide +kernel
theorem dX3_isBearing_21 : decode cX3_isBearing 21 = .ok (.getfield 18, 3) := by decide +kernel
theorem dX3_isBearing_24 : decode cX3_isBearing 24 = .ok (.getfield 85, 3) := by decide +kernel
theorem dX3_isBearing_27 : decode cX3_isBearing 27 = .ok (.iload_n 1, 1) := by decide +kernel
theorem dX3_isBearing_28 : decode cX3_isBearing 28 = .ok (.iaload, 1) := by decide +kernel
theorem dX3_isBearing_29 : decode cX3_isBearing 29 = .ok (.istore_n 2, 1) := by decide +kernel
theorem dX3_isBearing_30 : decode cX3_isBearing 30 = .ok (.aload_n 0, 1) := by decide +kernel
theorem dX3_isBearing_31 : decode cX3_isBearing 31 = .ok (.getfield 18, 3) := by decide +kernel
theorem dX3_isBearing_34 : decode cX3_isBearing 34 = .ok (.getfield 88, 3) := by decide +kernel
theorem dX3_isBearing_37 : decode cX3_isBearing 37 = .ok (.iload_n 1, 1) := by decide +kernel
theorem dX3_isBearing_38 : decode cX3_isBearing 38 = .ok (.iaload, 1) := by decide +kernel
theorem dX3_isBearing_39 : decode cX3_isBearing 39 = .ok (.lookupswitch 53 #[(0, 25), (1, 39)], 25) := by decide +kernel
theorem dX3_isBearing_64 : decode cX3_isBearing 64 = .ok (.aload_n 0, 1) := by decide +kernel
theorem dX3_isBearing_65 : decode cX3_isBearing 65 = .ok (.getfield 75, 3) := by decide +kernel
theorem dX3_isBearing_68 : decode cX3_isBearing 68 = .ok (.iload_n 2, 1) := by decide +kernel
theorem dX3_isBearing_69 : decode cX3_isBearing 69 = .ok (.if_icmp .ne 7, 3) := by decide +kernel
theorem dX3_isBearing_72 : decode cX3_isBearing 72 = .ok (.iconst 1, 1) := by decide +kernel
theorem dX3_isBearing_73 : decode cX3_isBearing 73 = .ok (.goto 4, 3) := by decide +kernel
theorem dX3_isBearing_76 : decode cX3_isBearing 76 = .ok (.iconst 0, 1) := by decide +kernel
theorem dX3_isBearing_77 : decode cX3_isBearing 77 = .ok (.ireturn, 1) := by decide +kernel
theorem dX3_isBearing_78 : decode cX3_isBearing 78 = .ok (.aload_n 0, 1) := by decide +kernel
theorem dX3_isBearing_79 : decode cX3_isBearing 79 = .ok (.getfield 75, 3) := by decide +kernel
theorem dX3_isBearing_82 : decode cX3_isBearing 82 = .ok (.iload_n 2, 1) := by decide +kernel
theorem dX3_isBearing_83 : decode cX3_isBearing 83 = .ok (.if_icmp .eq 7, 3) := by decide +kernel
theorem dX3_isBearing_86 : decode cX3_isBearing 86 = .ok (.iconst 1, 1) := by decide +kernel
theorem dX3_isBearing_87 : decode cX3_isBearing 87 = .ok (.goto 4, 3) := by decide +kernel
theorem dX3_isBearing_90 : decode cX3_isBearing 90 = .ok (.iconst 0, 1) := by decide +kernel
theorem dX3_isBearing_91 : decode cX3_isBearing 91 = .ok (.ireturn, 1) := by decide +kernel
theorem dX3_isBearing_92 : decode cX3_isBearing 92 = .ok (.aload_n 0, 1) := by decide +kernel
theorem dX3_isBearing_93 : decode cX3_isBearing 93 = .ok (.aload_n 0, 1) := by decide +kernel
theorem dX3_isBearing_94 : decode cX3_isBearing 94 = .ok (.getfield 18, 3) := by decide +kernel
theorem dX3_isBearing_97 : decode cX3_isBearing 97 = .ok (.getfield 91, 3) := by decide +kernel
theorem dX3_isBearing_100 : decode cX3_isBearing 100 = .ok (.iload_n 1, 1) := by decide +kernel
theorem dX3_isBearing_101 : decode cX3_isBearing 101 = .ok (.iaload, 1) := by decide +kernel
theorem dX3_isBearing_102 : decode cX3_isBearing 102 = .ok (.invokevirtual 94, 3) := by decide +kernel
theorem dX3_isBearing_105 : decode cX3_isBearing 105 = .ok (.iload_n 2, 1) := by decide +kernel
theorem dX3_isBearing_106 : decode cX3_isBearing 106 = .ok (.if_icmp .ne 7, 3) := by decide +kernel
theorem dX3_isBearing_109 : decode cX3_isBearing 109 = .ok (.iconst 1, 1) := by decide +kernel
theorem dX3_isBearing_110 : decode cX3_isBearing 110 = .ok (.goto 4, 3) := by decide +kernel
theorem dX3_isBearing_113 : decode cX3_isBearing 113 = .ok (.iconst 0, 1) := by decide +kernel
theorem dX3_isBearing_114 : decode cX3_isBearing 114 = .ok (.ireturn, 1) := by decide +kernel
def F_X3_isBearing (w : Nat) (M : z_Mem) (p : Nat) (a1 : Int32) : Option (Bool × z_Mem) :=
  (F_X6_isIn w M p a1 ((M.1 p 10) - (M.1 p 10) / (12 : Int32) * (12 : Int32))).bind fun q1 =>
  if q1.1 = true then
  if a1 < 0 ∨ 8 ≤ a1.toNatClampNeg then none else
  if a1 < 0 ∨ 8 ≤ a1.toNatClampNeg then none else
  if (q1.2.1 (p + 4) a1.toNatClampNeg) = (0 : Int32) then
  if (q1.2.1 p 8) = (q1.2.1 (p + 3) a1.toNatClampNeg) then
  some (true, q1.2)
  else
  some (false, q1.2)
  else
  if (q1.2.1 (p + 4) a1.toNatClampNeg) = (1 : Int32) then
  if (q1.2.1 p 8) = (q1.2.1 (p + 3) a1.toNatClampNeg) then
  some (false, q1.2)
  else
  some (true, q1.2)
  else
  if a1 < 0 ∨ 8 ≤ a1.toNatClampNeg then none else
  (F_X3_sideAgo w q1.2 p (q1.2.1 (p + 5) a1.toNatClampNeg)).bind fun q11 =>
  if q11.1 = (q1.2.1 (p + 3) a1.toNatClampNeg) then
  some (true, q11.2)
  else
  some (false, q11.2)
  else
  some (false, q1.2)
set_option maxHeartbeats 4000000 in
theorem A_X3_isBearing {w : Nat} {M : z_Mem} {p : Nat} (hp : z_par p) {a1 : Int32} {r : Bool} {M' : z_Mem} {Q : Option Value → z_Mem → Prop} (h : F_X3_isBearing w M p a1 = some (r, M')) (hq : Q (some (.int (z_tb r))) M') : z_Cl 1 mX3_isBearing [.ref (p + 2), .int a1] M Q := by
  refine g_in (ls := [some (.ref (p + 2)), some (.int a1), none]) rfl ?_
  unfold F_X3_isBearing at h
  refine g_aload_n dX3_isBearing_0 rfl rfl ?_
  refine g_get (a := p) (v := .ref (p + 4)) dX3_isBearing_1 f_3_18 (shp_0 hp) rfl rfl ?_
  refine g_iload_n dX3_isBearing_4 rfl rfl ?_
  refine g_aload_n dX3_isBearing_5 rfl rfl ?_
  refine g_get (a := p) (v := .int (M.1 p 10)) dX3_isBearing_6 f_3_65 (shp_0 hp) rfl rfl ?_
  refine g_bipush (v := (12 : Int32)) dX3_isBearing_9 (by decide) ?_
  refine g_irem dX3_isBearing_11 (by decide) ?_
  obtain ⟨q1, e2, h⟩ := z_bd h
  refine g_callV (a := p + 2) (as := [.int a1, .int ((M.1 p 10) - (M.1 p 10) / (12 : Int32) * (12 : Int32))]) (rest := []) (c := mX6_isIn) (k1 := 0) dX3_isBearing_12 rfl rfl rfl (shp_2 hp) rfl rfl (Nat.le_of_ble_eq_true rfl) (Nat.le_of_ble_eq_true rfl) (by decide) ?_
  refine A_X6_isIn hp e2 ?_
  show z_G none 1 mX3_isBearing 15 [some (.ref (p + 2)), some (.int a1), none] [.int (z_tb q1.1)] q1.2 Q
  refine g_if_ne (t := 20) dX3_isBearing_15 (by decide) (fun c3 => ?_) (fun c3 => ?_)
  · replace h := z_ift (z_tbn.mp c3) h
    refine g_aload_n dX3_isBearing_20 rfl rfl ?_
    refine g_get (a := p) (v := .ref (p + 4)) dX3_isBearing_21 f_3_18 (shp_0 hp) rfl rfl ?_
    refine g_get (a := p + 2) (v := .ref (p + 5)) dX3_isBearing_24 f_3_85 (shp_2 hp) rfl rfl ?_
    refine g_iload_n dX3_isBearing_27 rfl rfl ?_
    by_cases g4 : a1 < 0 ∨ 8 ≤ a1.toNatClampNeg
    · rw [if_pos g4] at h; cases h
    replace h := z_iff g4 h
    refine g_iald (a := p + 3) dX3_isBearing_28 (shp_3 hp) g4 ?_
    refine g_istore_n (ls' := [some (.ref (p + 2)), some (.int a1), some (.int (q1.2.1 (p + 3) a1.toNatClampNeg))]) dX3_isBearing_29 rfl (Nat.le_of_ble_eq_true rfl) rfl ?_
    refine g_aload_n dX3_isBearing_30 rfl rfl ?_
    refine g_get (a := p) (v := .ref (p + 4)) dX3_isBearing_31 f_3_18 (shp_0 hp) rfl rfl ?_
    refine g_get (a := p + 2) (v := .ref (p + 6)) dX3_isBearing_34 f_3_88 (shp_2 hp) rfl rfl ?_
    refine g_iload_n dX3_isBearing_37 rfl rfl ?_
    by_cases g5 : a1 < 0 ∨ 8 ≤ a1.toNatClampNeg
    · rw [if_pos g5] at h; cases h
    replace h := z_iff g5 h
    refine g_iald (a := p + 4) dX3_isBearing_38 (shp_4 hp) g5 ?_
    by_cases s6 : q1.2.1 (p + 4) a1.toNatClampNeg = (0 : Int32)
    · replace h := z_ift s6 h
      refine g_top (v := (0 : Int32)) s6 ?_
      refine g_lsw (off := 25) (t := 64) dX3_isBearing_39 (by decide) (by decide) (by decide) ?_
      refine g_aload_n dX3_isBearing_64 rfl rfl ?_
      refine g_get (a := p) (v := .int (q1.2.1 p 8)) dX3_isBearing_65 f_3_75 (shp_0 hp) rfl rfl ?_
      refine g_iload_n dX3_isBearing_68 rfl rfl ?_
      refine g_ic_ne (t := 76) dX3_isBearing_69 (by decide) (fun c7 => ?_) (fun c7 => ?_)
      · replace h := z_iff c7 h
        refine g_iconst (v := (0 : Int32)) dX3_isBearing_76 (by decide) ?_
        cases h
        exact g_iret dX3_isBearing_77 rfl rfl hq
      · replace h := z_ift c7 h
        refine g_iconst (v := (1 : Int32)) dX3_isBearing_72 (by decide) ?_
        refine g_goto (t := 77) dX3_isBearing_73 (by decide) ?_
        cases h
        exact g_iret dX3_isBearing_77 rfl rfl hq
    replace h := z_iff s6 h
    by_cases s8 : q1.2.1 (p + 4) a1.toNatClampNeg = (1 : Int32)
    · replace h := z_ift s8 h
      refine g_top (v := (1 : Int32)) s8 ?_
      refine g_lsw (off := 39) (t := 78) dX3_isBearing_39 (by decide) (by decide) (by decide) ?_
      refine g_aload_n dX3_isBearing_78 rfl rfl ?_
      refine g_get (a := p) (v := .int (q1.2.1 p 8)) dX3_isBearing_79 f_3_75 (shp_0 hp) rfl rfl ?_
      refine g_iload_n dX3_isBearing_82 rfl rfl ?_
      refine g_ic_eq (t := 90) dX3_isBearing_83 (by decide) (fun c9 => ?_) (fun c9 => ?_)
      · replace h := z_ift c9 h
        refine g_iconst (v := (0 : Int32)) dX3_isBearing_90 (by decide) ?_
        cases h
        exact g_iret dX3_isBearing_91 rfl rfl hq
      · replace h := z_iff c9 h
        refine g_iconst (v := (1 : Int32)) dX3_isBearing_86 (by decide) ?_
        refine g_goto (t := 91) dX3_isBearing_87 (by decide) ?_
        cases h
        exact g_iret dX3_isBearing_91 rfl rfl hq
    replace h := z_iff s8 h
    refine g_lsw (off := 53) (t := 92) dX3_isBearing_39 (by decide) (by have t0 := z_neL (n := 0) (by decide) s6; have t1 := z_neL (n := 1) (by decide) s8; simp [Op.lookupswitch.offset, Ne.symm t0, t0, Ne.symm t1, t1]) (by decide) ?_
    refine g_aload_n dX3_isBearing_92 rfl rfl ?_
    refine g_aload_n dX3_isBearing_93 rfl rfl ?_
    refine g_get (a := p) (v := .ref (p + 4)) dX3_isBearing_94 f_3_18 (shp_0 hp) rfl rfl ?_
    refine g_get (a := p + 2) (v := .ref (p + 7)) dX3_isBearing_97 f_3_91 (shp_2 hp) rfl rfl ?_
    refine g_iload_n dX3_isBearing_100 rfl rfl ?_
    by_cases g10 : a1 < 0 ∨ 8 ≤ a1.toNatClampNeg
    · rw [if_pos g10] at h; cases h
    replace h := z_iff g10 h
    refine g_iald (a := p + 5) dX3_isBearing_101 (shp_5 hp) g10 ?_
    obtain ⟨q11, e12, h⟩ := z_bd h
    refine g_callV (a := p) (as := [.int (q1.2.1 (p + 5) a1.toNatClampNeg)]) (rest := []) (c := mX3_sideAgo) (k1 := 0) dX3_isBearing_102 rfl rfl rfl (shp_0 hp) rfl rfl (Nat.le_of_ble_eq_true rfl) (Nat.le_of_ble_eq_true rfl) (by decide) ?_
    refine A_X3_sideAgo hp e12 ?_
    show z_G none 1 mX3_isBearing 105 [some (.ref (p + 2)), some (.int a1), some (.int (q1.2.1 (p + 3) a1.toNatClampNeg))] [.int q11.1] q11.2 Q
    refine g_iload_n dX3_isBearing_105 rfl rfl ?_
    refine g_ic_ne (t := 113) dX3_isBearing_106 (by decide) (fun c13 => ?_) (fun c13 => ?_)
    · replace h := z_iff c13 h
      refine g_iconst (v := (0 : Int32)) dX3_isBearing_113 (by decide) ?_
      cases h
      exact g_iret dX3_isBearing_114 rfl rfl hq
    · replace h := z_ift c13 h
      refine g_iconst (v := (1 : Int32)) dX3_isBearing_109 (by decide) ?_
      refine g_goto (t := 114) dX3_isBearing_110 (by decide) ?_
      cases h
      exact g_iret dX3_isBearing_114 rfl rfl hq
  · replace h := z_iff (z_tb0.mp c3) h
    refine g_iconst (v := (0 : Int32)) dX3_isBearing_18 (by decide) ?_
    cases h
    exact g_iret dX3_isBearing_19 rfl rfl hq
theorem dX3_bring_0 : decode cX3_bring 0 = .ok (.aload_n 0, 1) := by decide +kernel
theorem dX3_bring_1 : decode cX3_bring 1 = .ok (.getfield 9, 3) := by decide +kernel
theorem dX3_bring_4 : decode cX3_bring 4 = .ok (.iload_n 1, 1) := by decide +kernel
theorem dX3_bring_5 : decode cX3_bring 5 = .ok (.sipush 9999, 3) := by decide +kernel
theorem dX3_bring_8 : decode cX3_bring 8 = .ok (.aload_n 0, 1) := by decide +kernel
theorem dX3_bring_9 : decode cX3_bring 9 = .ok (.getfield 9, 3) := by decide +kernel
theorem dX3_bring_12 : decode cX3_bring 12 = .ok (.iload_n 1, 1) := by decide +kernel
theorem dX3_bring_13 : decode cX3_bring 13 = .ok (.iaload, 1) := by decide +kernel
theorem dX3_bring_14 : decode cX3_bring 14 = .ok (.iload_n 2, 1) := by decide +kernel
theorem dX3_bring_15 : decode cX3_bring 15 = .ok (.iadd, 1) := by decide +kernel
theorem dX3_bring_16 : decode cX3_bring 16 = .ok (.invokestatic 128, 3) := by decide +kernel
theorem dX3_bring_19 : decode cX3_bring 19 = .ok (.iastore, 1) := by decide +kernel
theorem dX3_bring_20 : decode cX3_bring 20 = .ok (.return_, 1) := by decide +kernel
def F_X3_bring (w : Nat) (M : z_Mem) (p : Nat) (a1 : Int32) (a2 : Int32) : Option (Unit × z_Mem) :=
  if a1 < 0 ∨ 2 ≤ a1.toNatClampNeg then none else
  if a1 < 0 ∨ 2 ≤ a1.toNatClampNeg then none else
  some ((), (z_wI M (p + 1) a1.toNatClampNeg (if ((M.1 (p + 1) a1.toNatClampNeg) + a2) < (9999 : Int32) then (M.1 (p + 1) a1.toNatClampNeg) + a2 else (9999 : Int32))))
set_option maxHeartbeats 4000000 in
theorem A_X3_bring {w : Nat} {M : z_Mem} {p : Nat} (hp : z_par p) {a1 : Int32} {a2 : Int32} {r : Unit} {M' : z_Mem} {Q : Option Value → z_Mem → Prop} (h : F_X3_bring w M p a1 a2 = some (r, M')) (hq : Q none M') : z_Cl 0 mX3_bring [.ref (p + 2), .int a1, .int a2] M Q := by
  refine g_in (ls := [some (.ref (p + 2)), some (.int a1), some (.int a2)]) rfl ?_
  unfold F_X3_bring at h
  refine g_aload_n dX3_bring_0 rfl rfl ?_
  refine g_get (a := p) (v := .ref (p + 3)) dX3_bring_1 f_3_9 (shp_0 hp) rfl rfl ?_
  refine g_iload_n dX3_bring_4 rfl rfl ?_
  refine g_sipush (v := (9999 : Int32)) dX3_bring_5 (by decide) ?_
  refine g_aload_n dX3_bring_8 rfl rfl ?_
  refine g_get (a := p) (v := .ref (p + 3)) dX3_bring_9 f_3_9 (shp_0 hp) rfl rfl ?_
  refine g_iload_n dX3_bring_12 rfl rfl ?_
  by_cases g1 : a1 < 0 ∨ 2 ≤ a1.toNatClampNeg
  · rw [if_pos g1] at h; cases h
  replace h := z_iff g1 h
  refine g_iald (a := p + 1) dX3_bring_13 (shp_1 hp) g1 ?_
  refine g_iload_n dX3_bring_14 rfl rfl ?_
  refine g_iadd dX3_bring_15 ?_
  refine g_min dX3_bring_16 rfl (Nat.le_of_ble_eq_true rfl) ?_
  by_cases g2 : a1 < 0 ∨ 2 ≤ a1.toNatClampNeg
  · rw [if_pos g2] at h; cases h
  replace h := z_iff g2 h
  refine g_iast (a := p + 1) dX3_bring_19 (shp_1 hp) g2 ?_
  cases h
  exact g_vret dX3_bring_20 rfl hq
theorem dX3_passMonth_0 : decode cX3_passMonth 0 = .ok (.iconst 0, 1) := by decide +kernel
theorem dX3_passMonth_1 : decode cX3_passMonth 1 = .ok (.istore_n 1, 1) := by decide +kernel
theorem dX3_passMonth_2 : decode cX3_passMonth 2 = .ok (.iload_n 1, 1) := by decide +kernel
theorem dX3_passMonth_3 : decode cX3_passMonth 3 = .ok (.aload_n 0, 1) := by decide +kernel
theorem dX3_passMonth_4 : decode cX3_passMonth 4 = .ok (.getfield 18, 3) := by decide +kernel
theorem dX3_passMonth_7 : decode cX3_passMonth 7 = .ok (.getfield 46, 3) := by decide +kernel
theorem dX3_passMonth_10 : decode cX3_passMonth 10 = .ok (.if_icmp .ge 39, 3) := by decide +kernel
theorem dX3_passMonth_13 : decode cX3_passMonth 13 = .ok (.aload_n 0, 1) := by decide +kernel
theorem dX3_passMonth_14 : decode cX3_passMonth 14 = .ok (.iload_n 1, 1) := by decide +kernel
theorem dX3_passMonth_15 : decode cX3_passMonth 15 = .ok (.invokevirtual 98, 3) := by decide +kernel
theorem dX3_passMonth_18 : decode cX3_passMonth 18 = .ok (.ifCond .eq 25, 3) := by decide +kernel
theorem dX3_passMonth_21 : decode cX3_passMonth 21 = .ok (.aload_n 0, 1) := by decide +kernel
theorem dX3_passMonth_22 : decode cX3_passMonth 22 = .ok (.aload_n 0, 1) := by decide +kernel
theorem dX3_passMonth_23 : decode cX3_passMonth 23 = .ok (.getfield 18, 3) := by decide +kernel
theorem dX3_passMonth_26 : decode cX3_passMonth 26 = .ok (.getfield 85, 3) := by decide +kernel
theorem dX3_passMonth_29 : decode cX3_passMonth 29 = .ok (.iload_n 1, 1) := by decide +kernel
theorem dX3_passMonth_30 : decode cX3_passMonth 30 = .ok (.iaload, 1) := by decide +kernel
theorem dX3_passMonth_31 : decode cX3_passMonth 31 = .ok (.aload_n 0, 1) := by decide +kernel
theorem dX3_passMonth_32 : decode cX3_passMonth 32 = .ok (.getfield 18, 3) := by decide +kernel
theorem dX3_passMonth_35 : decode cX3_passMonth 35 = .ok (.getfield 102, 3) := by decide +kernel
theorem dX3_passMonth_38 : decode cX3_passMonth 38 = .ok (.iload_n 1, 1) := by decide +kernel
theorem dX3_passMonth_39 : decode cX3_passMonth 39 = .ok (.iaload, 1) := by decide +kernel
theorem dX3_passMonth_40 : decode cX3_passMonth 40 = .ok (.invokevirtual 105, 3) := by decide +kernel
theorem dX3_passMonth_43 : decode cX3_passMonth 43 = .ok (.iinc 1 1, 3) := by decide +kernel
theorem dX3_passMonth_46 : decode cX3_passMonth 46 = .ok (.goto (-44), 3) := by decide +kernel
theorem dX3_passMonth_49 : decode cX3_passMonth 49 = .ok (.aload_n 0, 1) := by decide +kernel
theorem dX3_passMonth_50 : decode cX3_passMonth 50 = .ok (.getfield 25, 3) := by decide +kernel
theorem dX3_passMonth_53 : decode cX3_passMonth 53 = .ok (.invokevirtual 109, 3) := by decide +kernel
theorem dX3_passMonth_56 : decode cX3_passMonth 56 = .ok (.aload_n 0, 1) := by decide +kernel
theorem dX3_passMonth_57 : decode cX3_passMonth 57 = .ok (.aload_n 0, 1) := by decide +kernel
theorem dX3_passMonth_58 : decode cX3_passMonth 58 = .ok (.getfield 78, 3) := by decide +kernel
theorem dX3_passMonth_61 : decode cX3_passMonth 61 = .ok (.iconst 1, 1) := by decide +kernel
theorem dX3_passMonth_62 : decode cX3_passMonth 62 = .ok (.ishl, 1) := by decide +kernel
theorem dX3_passMonth_63 : decode cX3_passMonth 63 = .ok (.aload_n 0, 1) := by decide +kernel
theorem dX3_passMonth_64 : decode cX3_passMonth 64 = .ok (.getfield 75, 3) := by decide +kernel
theorem dX3_passMonth_67 : decode cX3_passMonth 67 = .ok (.ior, 1) := by decide +kernel
theorem dX3_passMonth_68 : decode cX3_passMonth 68 = .ok (.bipush 63, 2) := by decide +kernel
theorem dX3_passMonth_70 : decode cX3_passMonth 70 = .ok (.iand, 1) := by decide +kernel
theorem dX3_passMonth_71 : decode cX3_passMonth 71 = .ok (.putfield 78, 3) := by decide +kernel
theorem dX3_passMonth_74 : decode cX3_passMonth 74 = .ok (.aload_n 0, 1) := by decide +kernel
theorem dX3_passMonth_75 : decode cX3_passMonth 75 = .ok (.dup, 1) := by decide +kernel
theorem dX3_passMonth_76 : decode cX3_passMonth 76 = .ok (.getfield 65, 3) := by decide +kernel
theorem dX3_passMonth_79 : decode cX3_passMonth 79 = .ok (.iconst 1, 1) := by decide +kernel
theorem dX3_passMonth_80 : decode cX3_passMonth 80 = .ok (.iadd, 1) := by decide +kernel
theorem dX3_passMonth_81 : decode cX3_passMonth 81 = .ok (.putfield 65, 3) := by decide +kernel
theorem dX3_passMonth_84 : decode cX3_passMonth 84 = .ok (.return_, 1) := by decide +kernel
def L_X3_passMonth (w : Nat) (p : Nat) : Nat → z_Mem → Int32 → Option (Unit × z_Mem)
  | 0, _, _ => none
  | c + 1, M, x1 =>
    if (M.1 (p + 2) 5) ≤ x1 then
    (F_X1_age w M p).bind fun q2 =>
    some ((), (z_wI (z_wI q2.2 p 9 ((((q2.2.1 p 9) <<< ((1 : Int32) &&& 31)) ||| (q2.2.1 p 8)) &&& (63 : Int32))) p 10 ((q2.2.1 p 10) + (1 : Int32))))
    else
    (F_X3_isBearing w M p x1).bind fun q4 =>
    if q4.1 = true then
    if x1 < 0 ∨ 8 ≤ x1.toNatClampNeg then none else
    if x1 < 0 ∨ 8 ≤ x1.toNatClampNeg then none else
    (F_X3_bring w q4.2 p (q4.2.1 (p + 3) x1.toNatClampNeg) (q4.2.1 (p + 6) x1.toNatClampNeg)).bind fun q9 =>
    L_X3_passMonth w p c q9.2 (x1 + (1 : Int32))
    else
    L_X3_passMonth w p c q4.2 (x1 + (1 : Int32))
set_option maxHeartbeats 4000000 in
theorem AL_X3_passMonth {w : Nat} {p : Nat} (hp : z_par p) : ∀ (c : Nat), (∀ (M : z_Mem) (x1 : Int32) (r : Unit) (M' : z_Mem) (Q : Option Value → z_Mem → Prop), L_X3_passMonth w p c M x1 = some (r, M') → Q none M' → z_G none 2 mX3_passMonth 2 [some (.ref (p + 2)), some (.int x1)] [] M Q) := by
  intro c
  induction c with
  | zero => exact (fun M x1 r M' Q h hq => by rw [L_X3_passMonth] at h; cases h)
  | succ c ih =>
    intro M x1 r M' Q h hq
    rw [L_X3_passMonth] at h
    refine g_iload_n dX3_passMonth_2 rfl rfl ?_
    refine g_aload_n dX3_passMonth_3 rfl rfl ?_
    refine g_get (a := p) (v := .ref (p + 4)) dX3_passMonth_4 f_3_18 (shp_0 hp) rfl rfl ?_
    refine g_get (a := p + 2) (v := .int (M.1 (p + 2) 5)) dX3_passMonth_7 f_3_46 (shp_2 hp) rfl rfl ?_
    refine g_ic_ge (t := 49) dX3_passMonth_10 (by decide) (fun c1 => ?_) (fun c1 => ?_)
    · replace h := z_ift c1 h
      refine g_aload_n dX3_passMonth_49 rfl rfl ?_
      refine g_get (a := p) (v := .ref (p + 10)) dX3_passMonth_50 f_3_25 (shp_0 hp) rfl rfl ?_
      obtain ⟨q2, e3, h⟩ := z_bd h
      refine g_callV (a := p + 8) (as := []) (rest := []) (c := mX1_age) (k1 := 1) dX3_passMonth_53 rfl rfl rfl (shp_8 hp) rfl rfl (Nat.le_of_ble_eq_true rfl) (Nat.le_of_ble_eq_true rfl) (by decide) ?_
      refine A_X1_age hp e3 ?_
      show z_G none 2 mX3_passMonth 56 [some (.ref (p + 2)), some (.int x1)] [] q2.2 Q
      refine g_aload_n dX3_passMonth_56 rfl rfl ?_
      refine g_aload_n dX3_passMonth_57 rfl rfl ?_
      refine g_get (a := p) (v := .int (q2.2.1 p 9)) dX3_passMonth_58 f_3_78 (shp_0 hp) rfl rfl ?_
      refine g_iconst (v := (1 : Int32)) dX3_passMonth_61 (by decide) ?_
      refine g_ishl dX3_passMonth_62 ?_
      refine g_aload_n dX3_passMonth_63 rfl rfl ?_
      refine g_get (a := p) (v := .int (q2.2.1 p 8)) dX3_passMonth_64 f_3_75 (shp_0 hp) rfl rfl ?_
      refine g_ior dX3_passMonth_67 ?_
      refine g_bipush (v := (63 : Int32)) dX3_passMonth_68 (by decide) ?_
      refine g_iand dX3_passMonth_70 ?_
      refine g_putI (a := p) dX3_passMonth_71 f_3_78 (shp_0 hp) rfl rfl rfl ?_
      refine g_aload_n dX3_passMonth_74 rfl rfl ?_
      refine g_dup dX3_passMonth_75 rfl ?_
      refine g_get (a := p) (v := .int (q2.2.1 p 10)) dX3_passMonth_76 f_3_65 (shp_0 hp) rfl (by simp [z_fv, z_wI, z_wL, z_wLs, upd, vp_updL]) ?_
      refine g_iconst (v := (1 : Int32)) dX3_passMonth_79 (by decide) ?_
      refine g_iadd dX3_passMonth_80 ?_
      refine g_putI (a := p) dX3_passMonth_81 f_3_65 (shp_0 hp) rfl rfl rfl ?_
      cases h
      exact g_vret dX3_passMonth_84 rfl hq
    · replace h := z_iff c1 h
      refine g_aload_n dX3_passMonth_13 rfl rfl ?_
      refine g_iload_n dX3_passMonth_14 rfl rfl ?_
      obtain ⟨q4, e5, h⟩ := z_bd h
      refine g_callV (a := p) (as := [.int x1]) (rest := []) (c := mX3_isBearing) (k1 := 1) dX3_passMonth_15 rfl rfl rfl (shp_0 hp) rfl rfl (Nat.le_of_ble_eq_true rfl) (Nat.le_of_ble_eq_true rfl) (by decide) ?_
      refine A_X3_isBearing hp e5 ?_
      show z_G none 2 mX3_passMonth 18 [some (.ref (p + 2)), some (.int x1)] [.int (z_tb q4.1)] q4.2 Q
      refine g_if_eq (t := 43) dX3_passMonth_18 (by decide) (fun c6 => ?_) (fun c6 => ?_)
      · replace h := z_iff (z_tb0.mp c6) h
        refine g_iinc (v := x1 + (1 : Int32)) (ls' := [some (.ref (p + 2)), some (.int (x1 + (1 : Int32)))]) dX3_passMonth_43 rfl rfl rfl ?_
        refine g_goto (t := 2) dX3_passMonth_46 (by decide) ?_
        exact g_sub (z_sub_s (z_sub_s z_sub_nil)) (ih _ _ _ _ _ h hq)
      · replace h := z_ift (z_tbn.mp c6) h
        refine g_aload_n dX3_passMonth_21 rfl rfl ?_
        refine g_aload_n dX3_passMonth_22 rfl rfl ?_
        refine g_get (a := p) (v := .ref (p + 4)) dX3_passMonth_23 f_3_18 (shp_0 hp) rfl rfl ?_
        refine g_get (a := p + 2) (v := .ref (p + 5)) dX3_passMonth_26 f_3_85 (shp_2 hp) rfl rfl ?_
        refine g_iload_n dX3_passMonth_29 rfl rfl ?_
        by_cases g7 : x1 < 0 ∨ 8 ≤ x1.toNatClampNeg
        · rw [if_pos g7] at h; cases h
        replace h := z_iff g7 h
        refine g_iald (a := p + 3) dX3_passMonth_30 (shp_3 hp) g7 ?_
        refine g_aload_n dX3_passMonth_31 rfl rfl ?_
        refine g_get (a := p) (v := .ref (p + 4)) dX3_passMonth_32 f_3_18 (shp_0 hp) rfl rfl ?_
        refine g_get (a := p + 2) (v := .ref (p + 8)) dX3_passMonth_35 f_3_102 (shp_2 hp) rfl rfl ?_
        refine g_iload_n dX3_passMonth_38 rfl rfl ?_
        by_cases g8 : x1 < 0 ∨ 8 ≤ x1.toNatClampNeg
        · rw [if_pos g8] at h; cases h
        replace h := z_iff g8 h
        refine g_iald (a := p + 6) dX3_passMonth_39 (shp_6 hp) g8 ?_
        obtain ⟨q9, e10, h⟩ := z_bd h
        refine g_callV (a := p) (as := [.int (q4.2.1 (p + 3) x1.toNatClampNeg), .int (q4.2.1 (p + 6) x1.toNatClampNeg)]) (rest := []) (c := mX3_bring) (k1 := 0) dX3_passMonth_40 rfl rfl rfl (shp_0 hp) rfl rfl (Nat.le_of_ble_eq_true rfl) (Nat.le_of_ble_eq_true rfl) (by decide) ?_
        refine A_X3_bring hp e10 ?_
        show z_G none 2 mX3_passMonth 43 [some (.ref (p + 2)), some (.int x1)] [] q9.2 Q
        refine g_iinc (v := x1 + (1 : Int32)) (ls' := [some (.ref (p + 2)), some (.int (x1 + (1 : Int32)))]) dX3_passMonth_43 rfl rfl rfl ?_
        refine g_goto (t := 2) dX3_passMonth_46 (by decide) ?_
        exact g_sub (z_sub_s (z_sub_s z_sub_nil)) (ih _ _ _ _ _ h hq)
def F_X3_passMonth (w : Nat) (M : z_Mem) (p : Nat) : Option (Unit × z_Mem) :=
  L_X3_passMonth w p w M (0 : Int32)
set_option maxHeartbeats 4000000 in
theorem A_X3_passMonth {w : Nat} {M : z_Mem} {p : Nat} (hp : z_par p) {r : Unit} {M' : z_Mem} {Q : Option Value → z_Mem → Prop} (h : F_X3_passMonth w M p = some (r, M')) (hq : Q none M') : z_Cl 2 mX3_passMonth [.ref (p + 2)] M Q := by
  refine g_in (ls := [some (.ref (p + 2)), none]) rfl ?_
  unfold F_X3_passMonth at h
  refine g_iconst (v := (0 : Int32)) dX3_passMonth_0 (by decide) ?_
  refine g_istore_n (ls' := [some (.ref (p + 2)), some (.int (0 : Int32))]) dX3_passMonth_1 rfl (Nat.le_of_ble_eq_true rfl) rfl ?_
  exact g_sub (z_sub_s (z_sub_s z_sub_nil)) ((AL_X3_passMonth (w := w) hp w) _ _ _ _ _ h hq)
theorem dX3_passMonths_0 : decode cX3_passMonths 0 = .ok (.aload_n 0, 1) := by decide +kernel
theorem dX3_passMonths_1 : decode cX3_passMonths 1 = .ok (.getfield 65, 3) := by decide +kernel
theorem dX3_passMonths_4 : decode cX3_passMonths 4 = .ok (.iload_n 1, 1) := by decide +kernel
theorem dX3_passMonths_5 : decode cX3_passMonths 5 = .ok (.iadd, 1) := by decide +kernel
theorem dX3_passMonths_6 : decode cX3_passMonths 6 = .ok (.sipush 9999, 3) := by decide +kernel
theorem dX3_passMonths_9 : decode cX3_passMonths 9 = .ok (.if_icmp .le 5, 3) := by decide +kernel
theorem dX3_passMonths_12 : decode cX3_passMonths 12 = .ok (.iconst 0, 1) := by decide +kernel
theorem dX3_passMonths_13 : decode cX3_passMonths 13 = .ok (.ireturn, 1) := by decide +kernel
theorem dX3_passMonths_14 : decode cX3_passMonths 14 = .ok (.iconst 0, 1) := by decide +kernel
theorem dX3_passMonths_15 : decode cX3_passMonths 15 = .ok (.istore_n 2, 1) := by decide +kernel
theorem dX3_passMonths_16 : decode cX3_passMonths 16 = .ok (.iload_n 2, 1) := by decide +kernel
theorem dX3_passMonths_17 : decode cX3_passMonths 17 = .ok (.iload_n 1, 1) := by decide +kernel
theorem dX3_passMonths_18 : decode cX3_passMonths 18 = .ok (.if_icmp .ge 13, 3) := by decide +kernel
theorem dX3_passMonths_21 : decode cX3_passMonths 21 = .ok (.aload_n 0, 1) := by decide +kernel
theorem dX3_passMonths_22 : decode cX3_passMonths 22 = .ok (.invokevirtual 112, 3) := by decide +kernel
theorem dX3_passMonths_25 : decode cX3_passMonths 25 = .ok (.iinc 2 1, 3) := by decide +kernel
theorem dX3_passMonths_28 : decode cX3_passMonths 28 = .ok (.goto (-12), 3) := by decide +kernel
theorem dX3_passMonths_31 : decode cX3_passMonths 31 = .ok (.iconst 1, 1) := by decide +kernel
theorem dX3_passMonths_32 : decode cX3_passMonths 32 = .ok (.ireturn, 1) := by decide +kernel
def L_X3_passMonths (w : Nat) (p : Nat) : Nat → z_Mem → Int32 → Int32 → Option (Bool × z_Mem)
  | 0, _, _, _ => none
  | c + 1, M, x1, x2 =>
    if x1 ≤ x2 then
    some (true, M)
    else
    (F_X3_passMonth w M p).bind fun q2 =>
    L_X3_passMonths w p c q2.2 x1 (x2 + (1 : Int32))
set_option maxHeartbeats 4000000 in
theorem AL_X3_passMonths {w : Nat} {p : Nat} (hp : z_par p) : ∀ (c : Nat), (∀ (M : z_Mem) (x1 : Int32) (x2 : Int32) (r : Bool) (M' : z_Mem) (Q : Option Value → z_Mem → Prop), L_X3_passMonths w p c M x1 x2 = some (r, M') → Q (some (.int (z_tb r))) M' → z_G none 3 mX3_passMonths 16 [some (.ref (p + 2)), some (.int x1), some (.int x2)] [] M Q) := by
  intro c
  induction c with
  | zero => exact (fun M x1 x2 r M' Q h hq => by rw [L_X3_passMonths] at h; cases h)
  | succ c ih =>
    intro M x1 x2 r M' Q h hq
    rw [L_X3_passMonths] at h
    refine g_iload_n dX3_passMonths_16 rfl rfl ?_
    refine g_iload_n dX3_passMonths_17 rfl rfl ?_
    refine g_ic_ge (t := 31) dX3_passMonths_18 (by decide) (fun c1 => ?_) (fun c1 => ?_)
    · replace h := z_ift c1 h
      refine g_iconst (v := (1 : Int32)) dX3_passMonths_31 (by decide) ?_
      cases h
      exact g_iret dX3_passMonths_32 rfl rfl hq
    · replace h := z_iff c1 h
      refine g_aload_n dX3_passMonths_21 rfl rfl ?_
      obtain ⟨q2, e3, h⟩ := z_bd h
      refine g_callV (a := p) (as := []) (rest := []) (c := mX3_passMonth) (k1 := 2) dX3_passMonths_22 rfl rfl rfl (shp_0 hp) rfl rfl (Nat.le_of_ble_eq_true rfl) (Nat.le_of_ble_eq_true rfl) (by decide) ?_
      refine A_X3_passMonth hp e3 ?_
      show z_G none 3 mX3_passMonths 25 [some (.ref (p + 2)), some (.int x1), some (.int x2)] [] q2.2 Q
      refine g_iinc (v := x2 + (1 : Int32)) (ls' := [some (.ref (p + 2)), some (.int x1), some (.int (x2 + (1 : Int32)))]) dX3_passMonths_25 rfl rfl rfl ?_
      refine g_goto (t := 16) dX3_passMonths_28 (by decide) ?_
      exact g_sub (z_sub_s (z_sub_s (z_sub_s z_sub_nil))) (ih _ _ _ _ _ _ h hq)
def F_X3_passMonths (w : Nat) (M : z_Mem) (p : Nat) (a1 : Int32) : Option (Bool × z_Mem) :=
  if ((M.1 p 10) + a1) ≤ (9999 : Int32) then
  L_X3_passMonths w p w M a1 (0 : Int32)
  else
  some (false, M)
set_option maxHeartbeats 4000000 in
theorem A_X3_passMonths {w : Nat} {M : z_Mem} {p : Nat} (hp : z_par p) {a1 : Int32} {r : Bool} {M' : z_Mem} {Q : Option Value → z_Mem → Prop} (h : F_X3_passMonths w M p a1 = some (r, M')) (hq : Q (some (.int (z_tb r))) M') : z_Cl 3 mX3_passMonths [.ref (p + 2), .int a1] M Q := by
  refine g_in (ls := [some (.ref (p + 2)), some (.int a1), none]) rfl ?_
  unfold F_X3_passMonths at h
  refine g_aload_n dX3_passMonths_0 rfl rfl ?_
  refine g_get (a := p) (v := .int (M.1 p 10)) dX3_passMonths_1 f_3_65 (shp_0 hp) rfl rfl ?_
  refine g_iload_n dX3_passMonths_4 rfl rfl ?_
  refine g_iadd dX3_passMonths_5 ?_
  refine g_sipush (v := (9999 : Int32)) dX3_passMonths_6 (by decide) ?_
  refine g_ic_le (t := 14) dX3_passMonths_9 (by decide) (fun c4 => ?_) (fun c4 => ?_)
  · replace h := z_ift c4 h
    refine g_iconst (v := (0 : Int32)) dX3_passMonths_14 (by decide) ?_
    refine g_istore_n (ls' := [some (.ref (p + 2)), some (.int a1), some (.int (0 : Int32))]) dX3_passMonths_15 rfl (Nat.le_of_ble_eq_true rfl) rfl ?_
    exact g_sub (z_sub_s (z_sub_s (z_sub_s z_sub_nil))) ((AL_X3_passMonths (w := w) hp w) _ _ _ _ _ _ h hq)
  · replace h := z_iff c4 h
    refine g_iconst (v := (0 : Int32)) dX3_passMonths_12 (by decide) ?_
    cases h
    exact g_iret dX3_passMonths_13 rfl rfl hq
theorem dX3_carryBy_0 : decode cX3_carryBy 0 = .ok (.iconst 1, 1) := by decide +kernel
theorem dX3_carryBy_1 : decode cX3_carryBy 1 = .ok (.aload_n 0, 1) := by decide +kernel
theorem dX3_carryBy_2 : decode cX3_carryBy 2 = .ok (.getfield 75, 3) := by decide +kernel
theorem dX3_carryBy_5 : decode cX3_carryBy 5 = .ok (.isub, 1) := by decide +kernel
theorem dX3_carryBy_6 : decode cX3_carryBy 6 = .ok (.istore_n 3, 1) := by decide +kernel
theorem dX3_carryBy_7 : decode cX3_carryBy 7 = .ok (.iload_n 1, 1) := by decide +kernel
theorem dX3_carryBy_8 : decode cX3_carryBy 8 = .ok (.iload_n 2, 1) := by decide +kernel
theorem dX3_carryBy_9 : decode cX3_carryBy 9 = .ok (.if_icmp .ne 16, 3) := by decide +kernel
theorem dX3_carryBy_12 : decode cX3_carryBy 12 = .ok (.aload_n 0, 1) := by decide +kernel
theorem dX3_carryBy_13 : decode cX3_carryBy 13 = .ok (.getfield 9, 3) := by decide +kernel
theorem dX3_carryBy_16 : decode cX3_carryBy 16 = .ok (.iload_n 3, 1) := by decide +kernel
theorem dX3_carryBy_17 : decode cX3_carryBy 17 = .ok (.iaload, 1) := by decide +kernel
theorem dX3_carryBy_18 : decode cX3_carryBy 18 = .ok (.aload_n 0, 1) := by decide +kernel
theorem dX3_carryBy_19 : decode cX3_carryBy 19 = .ok (.getfield 59, 3) := by decide +kernel
theorem dX3_carryBy_22 : decode cX3_carryBy 22 = .ok (.if_icmp .ge 5, 3) := by decide +kernel
theorem dX3_carryBy_25 : decode cX3_carryBy 25 = .ok (.iconst 0, 1) := by decide +kernel
theorem dX3_carryBy_26 : decode cX3_carryBy 26 = .ok (.ireturn, 1) := by decide +kernel
theorem dX3_carryBy_27 : decode cX3_carryBy 27 = .ok (.aload_n 0, 1) := by decide +kernel
theorem dX3_carryBy_28 : decode cX3_carryBy 28 = .ok (.getfield 9, 3) := by decide +kernel
theorem dX3_carryBy_31 : decode cX3_carryBy 31 = .ok (.iload_n 3, 1) := by decide +kernel
theorem dX3_carryBy_32 : decode cX3_carryBy 32 = .ok (.dup2, 1) := by decide +kernel
theorem dX3_carryBy_33 : decode cX3_carryBy 33 = .ok (.iaload, 1) := by decide +kernel
theorem dX3_carryBy_34 : decode cX3_carryBy 34 = .ok (.aload_n 0, 1) := by decide +kernel
theorem dX3_carryBy_35 : decode cX3_carryBy 35 = .ok (.getfield 59, 3) := by decide +kernel
theorem dX3_carryBy_38 : decode cX3_carryBy 38 = .ok (.isub, 1) := by decide +kernel
theorem dX3_carryBy_39 : decode cX3_carryBy 39 = .ok (.iastore, 1) := by decide +kernel
theorem dX3_carryBy_40 : decode cX3_carryBy 40 = .ok (.aload_n 0, 1) := by decide +kernel
theorem dX3_carryBy_41 : decode cX3_carryBy 41 = .ok (.iload_n 3, 1) := by decide +kernel
theorem dX3_carryBy_42 : decode cX3_carryBy 42 = .ok (.putfield 75, 3) := by decide +kernel
theorem dX3_carryBy_45 : decode cX3_carryBy 45 = .ok (.aload_n 0, 1) := by decide +kernel
theorem dX3_carryBy_46 : decode cX3_carryBy 46 = .ok (.dup, 1) := by decide +kernel
theorem dX3_carryBy_47 : decode cX3_carryBy 47 = .ok (.getfield 68, 3) := by decide +kernel
theorem dX3_carryBy_50 : decode cX3_carryBy 50 = .ok (.iconst 1, 1) := by decide +kernel
theorem dX3_carryBy_51 : decode cX3_carryBy 51 = .ok (.iadd, 1) := by decide +kernel
theorem dX3_carryBy_52 : decode cX3_carryBy 52 = .ok (.putfield 68, 3) := by decide +kernel
theorem dX3_carryBy_55 : decode cX3_carryBy 55 = .ok (.aload_n 0, 1) := by decide +kernel
theorem dX3_carryBy_56 : decode cX3_carryBy 56 = .ok (.getfield 25, 3) := by decide +kernel
theorem dX3_carryBy_59 : decode cX3_carryBy 59 = .ok (.invokevirtual 115, 3) := by decide +kernel
theorem dX3_carryBy_62 : decode cX3_carryBy 62 = .ok (.iconst 1, 1) := by decide +kernel
theorem dX3_carryBy_63 : decode cX3_carryBy 63 = .ok (.ireturn, 1) := by decide +kernel
def F_X3_carryBy (w : Nat) (M : z_Mem) (p : Nat) (a1 : Int32) (a2 : Int32) : Option (Bool × z_Mem) :=
  if a1 = a2 then
  if ((1 : Int32) - (M.1 p 8)) < 0 ∨ 2 ≤ ((1 : Int32) - (M.1 p 8)).toNatClampNeg then none else
  if (M.1 p 6) ≤ (M.1 (p + 1) ((1 : Int32) - (M.1 p 8)).toNatClampNeg) then
  if ((1 : Int32) - (M.1 p 8)) < 0 ∨ 2 ≤ ((1 : Int32) - (M.1 p 8)).toNatClampNeg then none else
  if ((1 : Int32) - (M.1 p 8)) < 0 ∨ 2 ≤ ((1 : Int32) - (M.1 p 8)).toNatClampNeg then none else
  (F_X1_lapseAll w (z_wI (z_wI (z_wI M (p + 1) (((1 : Int32) - (M.1 p 8)).toNatClampNeg) ((M.1 (p + 1) ((1 : Int32) - (M.1 p 8)).toNatClampNeg) - (M.1 p 6))) p 8 ((1 : Int32) - (M.1 p 8))) p 11 ((M.1 p 11) + (1 : Int32))) p).bind fun q6 =>
  some (true, q6.2)
  else
  some (false, M)
  else
  some (false, M)
set_option maxHeartbeats 4000000 in
theorem A_X3_carryBy {w : Nat} {M : z_Mem} {p : Nat} (hp : z_par p) {a1 : Int32} {a2 : Int32} {r : Bool} {M' : z_Mem} {Q : Option Value → z_Mem → Prop} (h : F_X3_carryBy w M p a1 a2 = some (r, M')) (hq : Q (some (.int (z_tb r))) M') : z_Cl 1 mX3_carryBy [.ref (p + 2), .int a1, .int a2] M Q := by
  refine g_in (ls := [some (.ref (p + 2)), some (.int a1), some (.int a2), none]) rfl ?_
  unfold F_X3_carryBy at h
  refine g_iconst (v := (1 : Int32)) dX3_carryBy_0 (by decide) ?_
  refine g_aload_n dX3_carryBy_1 rfl rfl ?_
  refine g_get (a := p) (v := .int (M.1 p 8)) dX3_carryBy_2 f_3_75 (shp_0 hp) rfl rfl ?_
  refine g_isub dX3_carryBy_5 ?_
  refine g_istore_n (ls' := [some (.ref (p + 2)), some (.int a1), some (.int a2), some (.int ((1 : Int32) - (M.1 p 8)))]) dX3_carryBy_6 rfl (Nat.le_of_ble_eq_true rfl) rfl ?_
  refine g_iload_n dX3_carryBy_7 rfl rfl ?_
  refine g_iload_n dX3_carryBy_8 rfl rfl ?_
  refine g_ic_ne (t := 25) dX3_carryBy_9 (by decide) (fun c1 => ?_) (fun c1 => ?_)
  · replace h := z_iff c1 h
    refine g_iconst (v := (0 : Int32)) dX3_carryBy_25 (by decide) ?_
    cases h
    exact g_iret dX3_carryBy_26 rfl rfl hq
  · replace h := z_ift c1 h
    refine g_aload_n dX3_carryBy_12 rfl rfl ?_
    refine g_get (a := p) (v := .ref (p + 3)) dX3_carryBy_13 f_3_9 (shp_0 hp) rfl rfl ?_
    refine g_iload_n dX3_carryBy_16 rfl rfl ?_
    by_cases g2 : ((1 : Int32) - (M.1 p 8)) < 0 ∨ 2 ≤ ((1 : Int32) - (M.1 p 8)).toNatClampNeg
    · rw [if_pos g2] at h; cases h
    replace h := z_iff g2 h
    refine g_iald (a := p + 1) dX3_carryBy_17 (shp_1 hp) g2 ?_
    refine g_aload_n dX3_carryBy_18 rfl rfl ?_
    refine g_get (a := p) (v := .int (M.1 p 6)) dX3_carryBy_19 f_3_59 (shp_0 hp) rfl rfl ?_
    refine g_ic_ge (t := 27) dX3_carryBy_22 (by decide) (fun c3 => ?_) (fun c3 => ?_)
    · replace h := z_ift c3 h
      refine g_aload_n dX3_carryBy_27 rfl rfl ?_
      refine g_get (a := p) (v := .ref (p + 3)) dX3_carryBy_28 f_3_9 (shp_0 hp) rfl rfl ?_
      refine g_iload_n dX3_carryBy_31 rfl rfl ?_
      refine g_dup2 dX3_carryBy_32 rfl rfl ?_
      by_cases g4 : ((1 : Int32) - (M.1 p 8)) < 0 ∨ 2 ≤ ((1 : Int32) - (M.1 p 8)).toNatClampNeg
      · rw [if_pos g4] at h; cases h
      replace h := z_iff g4 h
      refine g_iald (a := p + 1) dX3_carryBy_33 (shp_1 hp) g4 ?_
      refine g_aload_n dX3_carryBy_34 rfl rfl ?_
      refine g_get (a := p) (v := .int (M.1 p 6)) dX3_carryBy_35 f_3_59 (shp_0 hp) rfl rfl ?_
      refine g_isub dX3_carryBy_38 ?_
      by_cases g5 : ((1 : Int32) - (M.1 p 8)) < 0 ∨ 2 ≤ ((1 : Int32) - (M.1 p 8)).toNatClampNeg
      · rw [if_pos g5] at h; cases h
      replace h := z_iff g5 h
      refine g_iast (a := p + 1) dX3_carryBy_39 (shp_1 hp) g5 ?_
      refine g_aload_n dX3_carryBy_40 rfl rfl ?_
      refine g_iload_n dX3_carryBy_41 rfl rfl ?_
      refine g_putI (a := p) dX3_carryBy_42 f_3_75 (shp_0 hp) rfl rfl rfl ?_
      refine g_aload_n dX3_carryBy_45 rfl rfl ?_
      refine g_dup dX3_carryBy_46 rfl ?_
      refine g_get (a := p) (v := .int (M.1 p 11)) dX3_carryBy_47 f_3_68 (shp_0 hp) rfl (by simp [z_fv, z_wI, z_wL, z_wLs, upd, vp_updL]) ?_
      refine g_iconst (v := (1 : Int32)) dX3_carryBy_50 (by decide) ?_
      refine g_iadd dX3_carryBy_51 ?_
      refine g_putI (a := p) dX3_carryBy_52 f_3_68 (shp_0 hp) rfl rfl rfl ?_
      refine g_aload_n dX3_carryBy_55 rfl rfl ?_
      refine g_get (a := p) (v := .ref (p + 10)) dX3_carryBy_56 f_3_25 (shp_0 hp) rfl rfl ?_
      obtain ⟨q6, e7, h⟩ := z_bd h
      refine g_callV (a := p + 8) (as := []) (rest := []) (c := mX1_lapseAll) (k1 := 0) dX3_carryBy_59 rfl rfl rfl (shp_8 hp) rfl rfl (Nat.le_of_ble_eq_true rfl) (Nat.le_of_ble_eq_true rfl) (by decide) ?_
      refine A_X1_lapseAll hp e7 ?_
      show z_G none 1 mX3_carryBy 62 [some (.ref (p + 2)), some (.int a1), some (.int a2), some (.int ((1 : Int32) - (M.1 p 8)))] [] q6.2 Q
      refine g_iconst (v := (1 : Int32)) dX3_carryBy_62 (by decide) ?_
      cases h
      exact g_iret dX3_carryBy_63 rfl rfl hq
    · replace h := z_iff c3 h
      refine g_iconst (v := (0 : Int32)) dX3_carryBy_25 (by decide) ?_
      cases h
      exact g_iret dX3_carryBy_26 rfl rfl hq
theorem dX3_payDebt_0 : decode cX3_payDebt 0 = .ok (.aload_n 0, 1) := by decide +kernel
theorem dX3_payDebt_1 : decode cX3_payDebt 1 = .ok (.getfield 25, 3) := by decide +kernel
theorem dX3_payDebt_4 : decode cX3_payDebt 4 = .ok (.iload_n 1, 1) := by decide +kernel
theorem dX3_payDebt_5 : decode cX3_payDebt 5 = .ok (.invokevirtual 118, 3) := by decide +kernel
theorem dX3_payDebt_8 : decode cX3_payDebt 8 = .ok (.ifCond .ne 5, 3) := by decide +kernel
theorem dX3_payDebt_11 : decode cX3_payDebt 11 = .ok (.iconst 0, 1) := by decide +kernel
theorem dX3_payDebt_12 : decode cX3_payDebt 12 = .ok (.ireturn, 1) := by decide +kernel
theorem dX3_payDebt_13 : decode cX3_payDebt 13 = .ok (.aload_n 0, 1) := by decide +kernel
theorem dX3_payDebt_14 : decode cX3_payDebt 14 = .ok (.getfield 25, 3) := by decide +kernel
theorem dX3_payDebt_17 : decode cX3_payDebt 17 = .ok (.getfield 121, 3) := by decide +kernel
theorem dX3_payDebt_20 : decode cX3_payDebt 20 = .ok (.iload_n 1, 1) := by decide +kernel
theorem dX3_payDebt_21 : decode cX3_payDebt 21 = .ok (.iaload, 1) := by decide +kernel
theorem dX3_payDebt_22 : decode cX3_payDebt 22 = .ok (.istore_n 2, 1) := by decide +kernel
theorem dX3_payDebt_23 : decode cX3_payDebt 23 = .ok (.aload_n 0, 1) := by decide +kernel
theorem dX3_payDebt_24 : decode cX3_payDebt 24 = .ok (.getfield 25, 3) := by decide +kernel
theorem dX3_payDebt_27 : decode cX3_payDebt 27 = .ok (.getfield 122, 3) := by decide +kernel
theorem dX3_payDebt_30 : decode cX3_payDebt 30 = .ok (.iload_n 1, 1) := by decide +kernel
theorem dX3_payDebt_31 : decode cX3_payDebt 31 = .ok (.iaload, 1) := by decide +kernel
theorem dX3_payDebt_32 : decode cX3_payDebt 32 = .ok (.istore_n 3, 1) := by decide +kernel
theorem dX3_payDebt_33 : decode cX3_payDebt 33 = .ok (.aload_n 0, 1) := by decide +kernel
theorem dX3_payDebt_34 : decode cX3_payDebt 34 = .ok (.getfield 9, 3) := by decide +kernel
theorem dX3_payDebt_37 : decode cX3_payDebt 37 = .ok (.iload_n 2, 1) := by decide +kernel
theorem dX3_payDebt_38 : decode cX3_payDebt 38 = .ok (.iaload, 1) := by decide +kernel
theorem dX3_payDebt_39 : decode cX3_payDebt 39 = .ok (.iload_n 3, 1) := by decide +kernel
theorem dX3_payDebt_40 : decode cX3_payDebt 40 = .ok (.if_icmp .ge 5, 3) := by decide +kernel
theorem dX3_payDebt_43 : decode cX3_payDebt 43 = .ok (.iconst 0, 1) := by decide +kernel
theorem dX3_payDebt_44 : decode cX3_payDebt 44 = .ok (.ireturn, 1) := by decide +kernel
theorem dX3_payDebt_45 : decode cX3_payDebt 45 = .ok (.aload_n 0, 1) := by decide +kernel
theorem dX3_payDebt_46 : decode cX3_payDebt 46 = .ok (.getfield 9, 3) := by decide +kernel
theorem dX3_payDebt_49 : decode cX3_payDebt 49 = .ok (.iload_n 2, 1) := by decide +kernel
theorem dX3_payDebt_50 : decode cX3_payDebt 50 = .ok (.dup2, 1) := by decide +kernel
theorem dX3_payDebt_51 : decode cX3_payDebt 51 = .ok (.iaload, 1) := by decide +kernel
theorem dX3_payDebt_52 : decode cX3_payDebt 52 = .ok (.iload_n 3, 1) := by decide +kernel
theorem dX3_payDebt_53 : decode cX3_payDebt 53 = .ok (.isub, 1) := by decide +kernel
theorem dX3_payDebt_54 : decode cX3_payDebt 54 = .ok (.iastore, 1) := by decide +kernel
theorem dX3_payDebt_55 : decode cX3_payDebt 55 = .ok (.aload_n 0, 1) := by decide +kernel
theorem dX3_payDebt_56 : decode cX3_payDebt 56 = .ok (.iconst 1, 1) := by decide +kernel
theorem dX3_payDebt_57 : decode cX3_payDebt 57 = .ok (.iload_n 2, 1) := by decide +kernel
theorem dX3_payDebt_58 : decode cX3_payDebt 58 = .ok (.isub, 1) := by decide +kernel
theorem dX3_payDebt_59 : decode cX3_payDebt 59 = .ok (.iload_n 3, 1) := by decide +kernel
theorem dX3_payDebt_60 : decode cX3_payDebt 60 = .ok (.invokevirtual 105, 3) := by decide +kernel
theorem dX3_payDebt_63 : decode cX3_payDebt 63 = .ok (.aload_n 0, 1) := by decide +kernel
theorem dX3_payDebt_64 : decode cX3_payDebt 64 = .ok (.getfield 25, 3) := by decide +kernel
theorem dX3_payDebt_67 : decode cX3_payDebt 67 = .ok (.iload_n 1, 1) := by decide +kernel
theorem dX3_payDebt_68 : decode cX3_payDebt 68 = .ok (.invokevirtual 125, 3) := by decide +kernel
theorem dX3_payDebt_71 : decode cX3_payDebt 71 = .ok (.iconst 1, 1) := by decide +kernel
theorem dX3_payDebt_72 : decode cX3_payDebt 72 = .ok (.ireturn, 1) := by decide +kernel
def F_X3_payDebt (w : Nat) (M : z_Mem) (p : Nat) (a1 : Int32) : Option (Bool × z_Mem) :=
  (F_X1_isThere w M p a1).bind fun q1 =>
  if q1.1 = true then
  if a1 < 0 ∨ 5 ≤ a1.toNatClampNeg then none else
  if a1 < 0 ∨ 5 ≤ a1.toNatClampNeg then none else
  if (q1.2.1 (p + 9) a1.toNatClampNeg) < 0 ∨ 2 ≤ (q1.2.1 (p + 9) a1.toNatClampNeg).toNatClampNeg then none else
  if (q1.2.1 (p + 10) a1.toNatClampNeg) ≤ (q1.2.1 (p + 1) (q1.2.1 (p + 9) a1.toNatClampNeg).toNatClampNeg) then
  if (q1.2.1 (p + 9) a1.toNatClampNeg) < 0 ∨ 2 ≤ (q1.2.1 (p + 9) a1.toNatClampNeg).toNatClampNeg then none else
  if (q1.2.1 (p + 9) a1.toNatClampNeg) < 0 ∨ 2 ≤ (q1.2.1 (p + 9) a1.toNatClampNeg).toNatClampNeg then none else
  (F_X3_bring w (z_wI q1.2 (p + 1) ((q1.2.1 (p + 9) a1.toNatClampNeg).toNatClampNeg) ((q1.2.1 (p + 1) (q1.2.1 (p + 9) a1.toNatClampNeg).toNatClampNeg) - (q1.2.1 (p + 10) a1.toNatClampNeg))) p ((1 : Int32) - (q1.2.1 (p + 9) a1.toNatClampNeg)) (q1.2.1 (p + 10) a1.toNatClampNeg)).bind fun q10 =>
  (F_X1_drop w q10.2 p a1).bind fun q12 =>
  some (true, q12.2)
  else
  some (false, q1.2)
  else
  some (false, q1.2)
set_option maxHeartbeats 4000000 in
theorem A_X3_payDebt {w : Nat} {M : z_Mem} {p : Nat} (hp : z_par p) {a1 : Int32} {r : Bool} {M' : z_Mem} {Q : Option Value → z_Mem → Prop} (h : F_X3_payDebt w M p a1 = some (r, M')) (hq : Q (some (.int (z_tb r))) M') : z_Cl 2 mX3_payDebt [.ref (p + 2), .int a1] M Q := by
  refine g_in (ls := [some (.ref (p + 2)), some (.int a1), none, none]) rfl ?_
  unfold F_X3_payDebt at h
  refine g_aload_n dX3_payDebt_0 rfl rfl ?_
  refine g_get (a := p) (v := .ref (p + 10)) dX3_payDebt_1 f_3_25 (shp_0 hp) rfl rfl ?_
  refine g_iload_n dX3_payDebt_4 rfl rfl ?_
  obtain ⟨q1, e2, h⟩ := z_bd h
  refine g_callV (a := p + 8) (as := [.int a1]) (rest := []) (c := mX1_isThere) (k1 := 0) dX3_payDebt_5 rfl rfl rfl (shp_8 hp) rfl rfl (Nat.le_of_ble_eq_true rfl) (Nat.le_of_ble_eq_true rfl) (by decide) ?_
  refine A_X1_isThere hp e2 ?_
  show z_G none 2 mX3_payDebt 8 [some (.ref (p + 2)), some (.int a1), none, none] [.int (z_tb q1.1)] q1.2 Q
  refine g_if_ne (t := 13) dX3_payDebt_8 (by decide) (fun c3 => ?_) (fun c3 => ?_)
  · replace h := z_ift (z_tbn.mp c3) h
    refine g_aload_n dX3_payDebt_13 rfl rfl ?_
    refine g_get (a := p) (v := .ref (p + 10)) dX3_payDebt_14 f_3_25 (shp_0 hp) rfl rfl ?_
    refine g_get (a := p + 8) (v := .ref (p + 11)) dX3_payDebt_17 f_3_121 (shp_8 hp) rfl rfl ?_
    refine g_iload_n dX3_payDebt_20 rfl rfl ?_
    by_cases g4 : a1 < 0 ∨ 5 ≤ a1.toNatClampNeg
    · rw [if_pos g4] at h; cases h
    replace h := z_iff g4 h
    refine g_iald (a := p + 9) dX3_payDebt_21 (shp_9 hp) g4 ?_
    refine g_istore_n (ls' := [some (.ref (p + 2)), some (.int a1), some (.int (q1.2.1 (p + 9) a1.toNatClampNeg)), none]) dX3_payDebt_22 rfl (Nat.le_of_ble_eq_true rfl) rfl ?_
    refine g_aload_n dX3_payDebt_23 rfl rfl ?_
    refine g_get (a := p) (v := .ref (p + 10)) dX3_payDebt_24 f_3_25 (shp_0 hp) rfl rfl ?_
    refine g_get (a := p + 8) (v := .ref (p + 12)) dX3_payDebt_27 f_3_122 (shp_8 hp) rfl rfl ?_
    refine g_iload_n dX3_payDebt_30 rfl rfl ?_
    by_cases g5 : a1 < 0 ∨ 5 ≤ a1.toNatClampNeg
    · rw [if_pos g5] at h; cases h
    replace h := z_iff g5 h
    refine g_iald (a := p + 10) dX3_payDebt_31 (shp_10 hp) g5 ?_
    refine g_istore_n (ls' := [some (.ref (p + 2)), some (.int a1), some (.int (q1.2.1 (p + 9) a1.toNatClampNeg)), some (.int (q1.2.1 (p + 10) a1.toNatClampNeg))]) dX3_payDebt_32 rfl (Nat.le_of_ble_eq_true rfl) rfl ?_
    refine g_aload_n dX3_payDebt_33 rfl rfl ?_
    refine g_get (a := p) (v := .ref (p + 3)) dX3_payDebt_34 f_3_9 (shp_0 hp) rfl rfl ?_
    refine g_iload_n dX3_payDebt_37 rfl rfl ?_
    by_cases g6 : (q1.2.1 (p + 9) a1.toNatClampNeg) < 0 ∨ 2 ≤ (q1.2.1 (p + 9) a1.toNatClampNeg).toNatClampNeg
    · rw [if_pos g6] at h; cases h
    replace h := z_iff g6 h
    refine g_iald (a := p + 1) dX3_payDebt_38 (shp_1 hp) g6 ?_
    refine g_iload_n dX3_payDebt_39 rfl rfl ?_
    refine g_ic_ge (t := 45) dX3_payDebt_40 (by decide) (fun c7 => ?_) (fun c7 => ?_)
    · replace h := z_ift c7 h
      refine g_aload_n dX3_payDebt_45 rfl rfl ?_
      refine g_get (a := p) (v := .ref (p + 3)) dX3_payDebt_46 f_3_9 (shp_0 hp) rfl rfl ?_
      refine g_iload_n dX3_payDebt_49 rfl rfl ?_
      refine g_dup2 dX3_payDebt_50 rfl rfl ?_
      by_cases g8 : (q1.2.1 (p + 9) a1.toNatClampNeg) < 0 ∨ 2 ≤ (q1.2.1 (p + 9) a1.toNatClampNeg).toNatClampNeg
      · rw [if_pos g8] at h; cases h
      replace h := z_iff g8 h
      refine g_iald (a := p + 1) dX3_payDebt_51 (shp_1 hp) g8 ?_
      refine g_iload_n dX3_payDebt_52 rfl rfl ?_
      refine g_isub dX3_payDebt_53 ?_
      by_cases g9 : (q1.2.1 (p + 9) a1.toNatClampNeg) < 0 ∨ 2 ≤ (q1.2.1 (p + 9) a1.toNatClampNeg).toNatClampNeg
      · rw [if_pos g9] at h; cases h
      replace h := z_iff g9 h
      refine g_iast (a := p + 1) dX3_payDebt_54 (shp_1 hp) g9 ?_
      refine g_aload_n dX3_payDebt_55 rfl rfl ?_
      refine g_iconst (v := (1 : Int32)) dX3_payDebt_56 (by decide) ?_
      refine g_iload_n dX3_payDebt_57 rfl rfl ?_
      refine g_isub dX3_payDebt_58 ?_
      refine g_iload_n dX3_payDebt_59 rfl rfl ?_
      obtain ⟨q10, e11, h⟩ := z_bd h
      refine g_callV (a := p) (as := [.int ((1 : Int32) - (q1.2.1 (p + 9) a1.toNatClampNeg)), .int (q1.2.1 (p + 10) a1.toNatClampNeg)]) (rest := []) (c := mX3_bring) (k1 := 0) dX3_payDebt_60 rfl rfl rfl (shp_0 hp) rfl rfl (Nat.le_of_ble_eq_true rfl) (Nat.le_of_ble_eq_true rfl) (by decide) ?_
      refine A_X3_bring hp e11 ?_
      show z_G none 2 mX3_payDebt 63 [some (.ref (p + 2)), some (.int a1), some (.int (q1.2.1 (p + 9) a1.toNatClampNeg)), some (.int (q1.2.1 (p + 10) a1.toNatClampNeg))] [] q10.2 Q
      refine g_aload_n dX3_payDebt_63 rfl rfl ?_
      refine g_get (a := p) (v := .ref (p + 10)) dX3_payDebt_64 f_3_25 (shp_0 hp) rfl rfl ?_
      refine g_iload_n dX3_payDebt_67 rfl rfl ?_
      obtain ⟨q12, e13, h⟩ := z_bd h
      refine g_callV (a := p + 8) (as := [.int a1]) (rest := []) (c := mX1_drop) (k1 := 1) dX3_payDebt_68 rfl rfl rfl (shp_8 hp) rfl rfl (Nat.le_of_ble_eq_true rfl) (Nat.le_of_ble_eq_true rfl) (by decide) ?_
      refine A_X1_drop hp e13 ?_
      show z_G none 2 mX3_payDebt 71 [some (.ref (p + 2)), some (.int a1), some (.int (q1.2.1 (p + 9) a1.toNatClampNeg)), some (.int (q1.2.1 (p + 10) a1.toNatClampNeg))] [] q12.2 Q
      refine g_iconst (v := (1 : Int32)) dX3_payDebt_71 (by decide) ?_
      cases h
      exact g_iret dX3_payDebt_72 rfl rfl hq
    · replace h := z_iff c7 h
      refine g_iconst (v := (0 : Int32)) dX3_payDebt_43 (by decide) ?_
      cases h
      exact g_iret dX3_payDebt_44 rfl rfl hq
  · replace h := z_iff (z_tb0.mp c3) h
    refine g_iconst (v := (0 : Int32)) dX3_payDebt_11 (by decide) ?_
    cases h
    exact g_iret dX3_payDebt_12 rfl rfl hq
theorem dX2_drawBy_0 : decode cX2_drawBy 0 = .ok (.aload_n 0, 1) := by decide +kernel
theorem dX2_drawBy_1 : decode cX2_drawBy 1 = .ok (.aload_n 0, 1) := by decide +kernel
theorem dX2_drawBy_2 : decode cX2_drawBy 2 = .ok (.getfield 60, 3) := by decide +kernel
theorem dX2_drawBy_5 : decode cX2_drawBy 5 = .ok (.sipush 2971, 3) := by decide +kernel
theorem dX2_drawBy_8 : decode cX2_drawBy 8 = .ok (.imul, 1) := by decide +kernel
theorem dX2_drawBy_9 : decode cX2_drawBy 9 = .ok (.sipush 10939, 3) := by decide +kernel
theorem dX2_drawBy_12 : decode cX2_drawBy 12 = .ok (.iadd, 1) := by decide +kernel
theorem dX2_drawBy_13 : decode cX2_drawBy 13 = .ok (.ldc 128, 2) := by decide +kernel
theorem dX2_drawBy_15 : decode cX2_drawBy 15 = .ok (.iand, 1) := by decide +kernel
theorem dX2_drawBy_16 : decode cX2_drawBy 16 = .ok (.putfield 60, 3) := by decide +kernel
theorem dX2_drawBy_19 : decode cX2_drawBy 19 = .ok (.iload_n 1, 1) := by decide +kernel
theorem dX2_drawBy_20 : decode cX2_drawBy 20 = .ok (.ifCond .le 14, 3) := by decide +kernel
theorem dX2_drawBy_23 : decode cX2_drawBy 23 = .ok (.aload_n 0, 1) := by decide +kernel
theorem dX2_drawBy_24 : decode cX2_drawBy 24 = .ok (.getfield 60, 3) := by decide +kernel
theorem dX2_drawBy_27 : decode cX2_drawBy 27 = .ok (.iconst 3, 1) := by decide +kernel
theorem dX2_drawBy_28 : decode cX2_drawBy 28 = .ok (.ishr, 1) := by decide +kernel
theorem dX2_drawBy_29 : decode cX2_drawBy 29 = .ok (.iload_n 1, 1) := by decide +kernel
theorem dX2_drawBy_30 : decode cX2_drawBy 30 = .ok (.irem, 1) := by decide +kernel
theorem dX2_drawBy_31 : decode cX2_drawBy 31 = .ok (.goto 4, 3) := by decide +kernel
theorem dX2_drawBy_34 : decode cX2_drawBy 34 = .ok (.iconst 0, 1) := by decide +kernel
theorem dX2_drawBy_35 : decode cX2_drawBy 35 = .ok (.ireturn, 1) := by decide +kernel
def F_X2_drawBy (w : Nat) (M : z_Mem) (l : Nat) (a1 : Int32) : Option (Int32 × z_Mem) :=
  if a1 ≤ (0 : Int32) then
  some ((0 : Int32), (z_wI M l 1 ((((M.1 l 1) * (2971 : Int32)) + (10939 : Int32)) &&& (65535 : Int32))))
  else
  if a1 = 0 then none else
  some ((((((M.1 l 1) * (2971 : Int32)) + (10939 : Int32)) &&& (65535 : Int32)) >>> ((3 : Int32) &&& 31)) - (((((M.1 l 1) * (2971 : Int32)) + (10939 : Int32)) &&& (65535 : Int32)) >>> ((3 : Int32) &&& 31)) / a1 * a1, (z_wI M l 1 ((((M.1 l 1) * (2971 : Int32)) + (10939 : Int32)) &&& (65535 : Int32))))
set_option maxHeartbeats 4000000 in
theorem A_X2_drawBy {w : Nat} {M : z_Mem} {l : Nat} (hl : z_lif l) {a1 : Int32} {r : Int32} {M' : z_Mem} {Q : Option Value → z_Mem → Prop} (h : F_X2_drawBy w M l a1 = some (r, M')) (hq : Q (some (.int r)) M') : z_Cl 0 mX2_drawBy [.ref (l + 2), .int a1] M Q := by
  refine g_in (ls := [some (.ref (l + 2)), some (.int a1)]) rfl ?_
  unfold F_X2_drawBy at h
  refine g_aload_n dX2_drawBy_0 rfl rfl ?_
  refine g_aload_n dX2_drawBy_1 rfl rfl ?_
  refine g_get (a := l) (v := .int (M.1 l 1)) dX2_drawBy_2 f_2_60 (shl_0 hl) rfl rfl ?_
  refine g_sipush (v := (2971 : Int32)) dX2_drawBy_5 (by decide) ?_
  refine g_imul dX2_drawBy_8 ?_
  refine g_sipush (v := (10939 : Int32)) dX2_drawBy_9 (by decide) ?_
  refine g_iadd dX2_drawBy_12 ?_
  refine g_ldc dX2_drawBy_13 rfl ?_
  refine g_iand dX2_drawBy_15 ?_
  refine g_putI (a := l) dX2_drawBy_16 f_2_60 (shl_0 hl) rfl rfl rfl ?_
  refine g_iload_n dX2_drawBy_19 rfl rfl ?_
  refine g_if_le (t := 34) dX2_drawBy_20 (by decide) (fun c1 => ?_) (fun c1 => ?_)
  · replace h := z_ift c1 h
    refine g_iconst (v := (0 : Int32)) dX2_drawBy_34 (by decide) ?_
    cases h
    exact g_iret dX2_drawBy_35 rfl rfl hq
  · replace h := z_iff c1 h
    refine g_aload_n dX2_drawBy_23 rfl rfl ?_
    refine g_get (a := l) (v := .int ((((M.1 l 1) * (2971 : Int32)) + (10939 : Int32)) &&& (65535 : Int32))) dX2_drawBy_24 f_2_60 (shl_0 hl) rfl (by simp [z_fv, z_wI, z_wL, z_wLs, upd, vp_updL]) ?_
    refine g_iconst (v := (3 : Int32)) dX2_drawBy_27 (by decide) ?_
    refine g_ishr dX2_drawBy_28 ?_
    refine g_iload_n dX2_drawBy_29 rfl rfl ?_
    by_cases g2 : a1 = 0
    · rw [if_pos g2] at h; cases h
    replace h := z_iff g2 h
    refine g_irem dX2_drawBy_30 g2 ?_
    refine g_goto (t := 35) dX2_drawBy_31 (by decide) ?_
    cases h
    exact g_iret dX2_drawBy_35 rfl rfl hq
theorem dX2_isAnyDone_0 : decode cX2_isAnyDone 0 = .ok (.aload_n 0, 1) := by decide +kernel
theorem dX2_isAnyDone_1 : decode cX2_isAnyDone 1 = .ok (.iconst 4, 1) := by decide +kernel
theorem dX2_isAnyDone_2 : decode cX2_isAnyDone 2 = .ok (.invokevirtual 121, 3) := by decide +kernel
theorem dX2_isAnyDone_5 : decode cX2_isAnyDone 5 = .ok (.iconst 1, 1) := by decide +kernel
theorem dX2_isAnyDone_6 : decode cX2_isAnyDone 6 = .ok (.iadd, 1) := by decide +kernel
theorem dX2_isAnyDone_7 : decode cX2_isAnyDone 7 = .ok (.istore_n 2, 1) := by decide +kernel
theorem dX2_isAnyDone_8 : decode cX2_isAnyDone 8 = .ok (.aload_n 0, 1) := by decide +kernel
theorem dX2_isAnyDone_9 : decode cX2_isAnyDone 9 = .ok (.iconst 4, 1) := by decide +kernel
theorem dX2_isAnyDone_10 : decode cX2_isAnyDone 10 = .ok (.invokevirtual 121, 3) := by decide +kernel
theorem dX2_isAnyDone_13 : decode cX2_isAnyDone 13 = .ok (.iconst 1, 1) := by decide +kernel
theorem dX2_isAnyDone_14 : decode cX2_isAnyDone 14 = .ok (.iadd, 1) := by decide +kernel
theorem dX2_isAnyDone_15 : decode cX2_isAnyDone 15 = .ok (.istore_n 3, 1) := by decide +kernel
theorem dX2_isAnyDone_16 : decode cX2_isAnyDone 16 = .ok (.aload_n 0, 1) := by decide +kernel
theorem dX2_isAnyDone_17 : decode cX2_isAnyDone 17 = .ok (.bipush 16, 2) := by decide +kernel
theorem dX2_isAnyDone_19 : decode cX2_isAnyDone 19 = .ok (.invokevirtual 121, 3) := by decide +kernel
theorem dX2_isAnyDone_22 : decode cX2_isAnyDone 22 = .ok (.aload_n 1, 1) := by decide +kernel
theorem dX2_isAnyDone_23 : decode cX2_isAnyDone 23 = .ok (.getfield 125, 3) := by decide +kernel
theorem dX2_isAnyDone_26 : decode cX2_isAnyDone 26 = .ok (.if_icmp .ge 7, 3) := by decide +kernel
theorem dX2_isAnyDone_29 : decode cX2_isAnyDone 29 = .ok (.iconst 1, 1) := by decide +kernel
theorem dX2_isAnyDone_30 : decode cX2_isAnyDone 30 = .ok (.goto 4, 3) := by decide +kernel
theorem dX2_isAnyDone_33 : decode cX2_isAnyDone 33 = .ok (.iconst 0, 1) := by decide +kernel
theorem dX2_isAnyDone_34 : decode cX2_isAnyDone 34 = .ok (.istore 4, 2) := by decide +kernel
theorem dX2_isAnyDone_36 : decode cX2_isAnyDone 36 = .ok (.iload 4, 2) := by decide +kernel
theorem dX2_isAnyDone_38 : decode cX2_isAnyDone 38 = .ok (.ifCond .eq 12, 3) := by decide +kernel
theorem dX2_isAnyDone_41 : decode cX2_isAnyDone 41 = .ok (.aload_n 1, 1) := by decide +kernel
theorem dX2_isAnyDone_42 : decode cX2_isAnyDone 42 = .ok (.iload_n 2, 1) := by decide +kernel
theorem dX2_isAnyDone_43 : decode cX2_isAnyDone 43 = .ok (.iload_n 3, 1) := by decide +kernel
theorem dX2_isAnyDone_44 : decode cX2_isAnyDone 44 = .ok (.invokevirtual 103, 3) := by decide +kernel
theorem dX2_isAnyDone_47 : decode cX2_isAnyDone 47 = .ok (.goto 8, 3) := by decide +kernel
theorem dX2_isAnyDone_50 : decode cX2_isAnyDone 50 = .ok (.aload_n 1, 1) := by decide +kernel
theorem dX2_isAnyDone_51 : decode cX2_isAnyDone 51 = .ok (.iconst 1, 1) := by decide +kernel
theorem dX2_isAnyDone_52 : decode cX2_isAnyDone 52 = .ok (.invokevirtual 96, 3) := by decide +kernel
theorem dX2_isAnyDone_55 : decode cX2_isAnyDone 55 = .ok (.ireturn, 1) := by decide +kernel
def F_X2_isAnyDone (w : Nat) (M : z_Mem) (l : Nat) (p : Nat) : Option (Bool × z_Mem) :=
  (F_X2_drawBy w M l (4 : Int32)).bind fun q1 =>
  (F_X2_drawBy w q1.2 l (4 : Int32)).bind fun q3 =>
  (F_X2_drawBy w q3.2 l (16 : Int32)).bind fun q5 =>
  if (q5.2.1 p 5) ≤ q5.1 then
  (F_X3_passMonths w q5.2 p (1 : Int32)).bind fun q9 =>
  some (q9.1, q9.2)
  else
  (F_X3_carryBy w q5.2 p (q1.1 + (1 : Int32)) (q3.1 + (1 : Int32))).bind fun q12 =>
  some (q12.1, q12.2)
set_option maxHeartbeats 4000000 in
theorem A_X2_isAnyDone {w : Nat} {M : z_Mem} {l : Nat} (hl : z_lif l) {p : Nat} (hp : z_par p) {r : Bool} {M' : z_Mem} {Q : Option Value → z_Mem → Prop} (h : F_X2_isAnyDone w M l p = some (r, M')) (hq : Q (some (.int (z_tb r))) M') : z_Cl 4 mX2_isAnyDone [.ref (l + 2), .ref (p + 2)] M Q := by
  refine g_in (ls := [some (.ref (l + 2)), some (.ref (p + 2)), none, none, none]) rfl ?_
  unfold F_X2_isAnyDone at h
  refine g_aload_n dX2_isAnyDone_0 rfl rfl ?_
  refine g_iconst (v := (4 : Int32)) dX2_isAnyDone_1 (by decide) ?_
  obtain ⟨q1, e2, h⟩ := z_bd h
  refine g_callV (a := l) (as := [.int (4 : Int32)]) (rest := []) (c := mX2_drawBy) (k1 := 0) dX2_isAnyDone_2 rfl rfl rfl (shl_0 hl) rfl rfl (Nat.le_of_ble_eq_true rfl) (Nat.le_of_ble_eq_true rfl) (by decide) ?_
  refine A_X2_drawBy hl e2 ?_
  show z_G none 4 mX2_isAnyDone 5 [some (.ref (l + 2)), some (.ref (p + 2)), none, none, none] [.int q1.1] q1.2 Q
  refine g_iconst (v := (1 : Int32)) dX2_isAnyDone_5 (by decide) ?_
  refine g_iadd dX2_isAnyDone_6 ?_
  refine g_istore_n (ls' := [some (.ref (l + 2)), some (.ref (p + 2)), some (.int (q1.1 + (1 : Int32))), none, none]) dX2_isAnyDone_7 rfl (Nat.le_of_ble_eq_true rfl) rfl ?_
  refine g_aload_n dX2_isAnyDone_8 rfl rfl ?_
  refine g_iconst (v := (4 : Int32)) dX2_isAnyDone_9 (by decide) ?_
  obtain ⟨q3, e4, h⟩ := z_bd h
  refine g_callV (a := l) (as := [.int (4 : Int32)]) (rest := []) (c := mX2_drawBy) (k1 := 0) dX2_isAnyDone_10 rfl rfl rfl (shl_0 hl) rfl rfl (Nat.le_of_ble_eq_true rfl) (Nat.le_of_ble_eq_true rfl) (by decide) ?_
  refine A_X2_drawBy hl e4 ?_
  show z_G none 4 mX2_isAnyDone 13 [some (.ref (l + 2)), some (.ref (p + 2)), some (.int (q1.1 + (1 : Int32))), none, none] [.int q3.1] q3.2 Q
  refine g_iconst (v := (1 : Int32)) dX2_isAnyDone_13 (by decide) ?_
  refine g_iadd dX2_isAnyDone_14 ?_
  refine g_istore_n (ls' := [some (.ref (l + 2)), some (.ref (p + 2)), some (.int (q1.1 + (1 : Int32))), some (.int (q3.1 + (1 : Int32))), none]) dX2_isAnyDone_15 rfl (Nat.le_of_ble_eq_true rfl) rfl ?_
  refine g_aload_n dX2_isAnyDone_16 rfl rfl ?_
  refine g_bipush (v := (16 : Int32)) dX2_isAnyDone_17 (by decide) ?_
  obtain ⟨q5, e6, h⟩ := z_bd h
  refine g_callV (a := l) (as := [.int (16 : Int32)]) (rest := []) (c := mX2_drawBy) (k1 := 0) dX2_isAnyDone_19 rfl rfl rfl (shl_0 hl) rfl rfl (Nat.le_of_ble_eq_true rfl) (Nat.le_of_ble_eq_true rfl) (by decide) ?_
  refine A_X2_drawBy hl e6 ?_
  show z_G none 4 mX2_isAnyDone 22 [some (.ref (l + 2)), some (.ref (p + 2)), some (.int (q1.1 + (1 : Int32))), some (.int (q3.1 + (1 : Int32))), none] [.int q5.1] q5.2 Q
  refine g_aload_n dX2_isAnyDone_22 rfl rfl ?_
  refine g_get (a := p) (v := .int (q5.2.1 p 5)) dX2_isAnyDone_23 f_2_125 (shp_0 hp) rfl rfl ?_
  refine g_ic_ge (t := 33) dX2_isAnyDone_26 (by decide) (fun c7 => ?_) (fun c7 => ?_)
  · replace h := z_ift c7 h
    refine g_iconst (v := (0 : Int32)) dX2_isAnyDone_33 (by decide) ?_
    refine g_istore (ls' := [some (.ref (l + 2)), some (.ref (p + 2)), some (.int (q1.1 + (1 : Int32))), some (.int (q3.1 + (1 : Int32))), some (.int (0 : Int32))]) dX2_isAnyDone_34 (Nat.le_of_ble_eq_true rfl) rfl ?_
    refine g_iload dX2_isAnyDone_36 rfl ?_
    refine g_if_eq (t := 50) dX2_isAnyDone_38 (by decide) (fun c8 => ?_) (fun c8 => ?_)
    · skip
      refine g_aload_n dX2_isAnyDone_50 rfl rfl ?_
      refine g_iconst (v := (1 : Int32)) dX2_isAnyDone_51 (by decide) ?_
      obtain ⟨q9, e10, h⟩ := z_bd h
      refine g_callV (a := p) (as := [.int (1 : Int32)]) (rest := []) (c := mX3_passMonths) (k1 := 3) dX2_isAnyDone_52 rfl rfl rfl (shp_0 hp) rfl rfl (Nat.le_of_ble_eq_true rfl) (Nat.le_of_ble_eq_true rfl) (by decide) ?_
      refine A_X3_passMonths hp e10 ?_
      show z_G none 4 mX2_isAnyDone 55 [some (.ref (l + 2)), some (.ref (p + 2)), some (.int (q1.1 + (1 : Int32))), some (.int (q3.1 + (1 : Int32))), some (.int (0 : Int32))] [.int (z_tb q9.1)] q9.2 Q
      cases h
      exact g_iret dX2_isAnyDone_55 rfl nb_tb hq
    · exact absurd c8 (by decide)
  · replace h := z_iff c7 h
    refine g_iconst (v := (1 : Int32)) dX2_isAnyDone_29 (by decide) ?_
    refine g_goto (t := 34) dX2_isAnyDone_30 (by decide) ?_
    refine g_istore (ls' := [some (.ref (l + 2)), some (.ref (p + 2)), some (.int (q1.1 + (1 : Int32))), some (.int (q3.1 + (1 : Int32))), some (.int (1 : Int32))]) dX2_isAnyDone_34 (Nat.le_of_ble_eq_true rfl) rfl ?_
    refine g_iload dX2_isAnyDone_36 rfl ?_
    refine g_if_eq (t := 50) dX2_isAnyDone_38 (by decide) (fun c11 => ?_) (fun c11 => ?_)
    · exact absurd c11 (by decide)
    · skip
      refine g_aload_n dX2_isAnyDone_41 rfl rfl ?_
      refine g_iload_n dX2_isAnyDone_42 rfl rfl ?_
      refine g_iload_n dX2_isAnyDone_43 rfl rfl ?_
      obtain ⟨q12, e13, h⟩ := z_bd h
      refine g_callV (a := p) (as := [.int (q1.1 + (1 : Int32)), .int (q3.1 + (1 : Int32))]) (rest := []) (c := mX3_carryBy) (k1 := 1) dX2_isAnyDone_44 rfl rfl rfl (shp_0 hp) rfl rfl (Nat.le_of_ble_eq_true rfl) (Nat.le_of_ble_eq_true rfl) (by decide) ?_
      refine A_X3_carryBy hp e13 ?_
      show z_G none 4 mX2_isAnyDone 47 [some (.ref (l + 2)), some (.ref (p + 2)), some (.int (q1.1 + (1 : Int32))), some (.int (q3.1 + (1 : Int32))), some (.int (1 : Int32))] [.int (z_tb q12.1)] q12.2 Q
      refine g_goto (t := 55) dX2_isAnyDone_47 (by decide) ?_
      cases h
      exact g_iret dX2_isAnyDone_55 rfl nb_tb hq
theorem dX2_isDone_0 : decode cX2_isDone 0 = .ok (.aload_n 1, 1) := by decide +kernel
theorem dX2_isDone_1 : decode cX2_isDone 1 = .ok (.getfield 15, 3) := by decide +kernel
theorem dX2_isDone_4 : decode cX2_isDone 4 = .ok (.astore_n 3, 1) := by decide +kernel
theorem dX2_isDone_5 : decode cX2_isDone 5 = .ok (.aload_n 3, 1) := by decide +kernel
theorem dX2_isDone_6 : decode cX2_isDone 6 = .ok (.getfield 93, 3) := by decide +kernel
theorem dX2_isDone_9 : decode cX2_isDone 9 = .ok (.iload_n 2, 1) := by decide +kernel
theorem dX2_isDone_10 : decode cX2_isDone 10 = .ok (.iaload, 1) := by decide +kernel
theorem dX2_isDone_11 : decode cX2_isDone 11 = .ok (.istore 4, 2) := by decide +kernel
theorem dX2_isDone_13 : decode cX2_isDone 13 = .ok (.aload_n 3, 1) := by decide +kernel
theorem dX2_isDone_14 : decode cX2_isDone 14 = .ok (.getfield 33, 3) := by decide +kernel
theorem dX2_isDone_17 : decode cX2_isDone 17 = .ok (.iload_n 2, 1) := by decide +kernel
theorem dX2_isDone_18 : decode cX2_isDone 18 = .ok (.iaload, 1) := by decide +kernel
theorem dX2_isDone_19 : decode cX2_isDone 19 = .ok (.tableswitch 88 20 24 #[33, 40, 53, 75, 82], 33) := by decide +kernel
theorem dX2_isDone_52 : decode cX2_isDone 52 = .ok (.aload_n 1, 1) := by decide +kernel
theorem dX2_isDone_53 : decode cX2_isDone 53 = .ok (.iload 4, 2) := by decide +kernel
theorem dX2_isDone_55 : decode cX2_isDone 55 = .ok (.invokevirtual 96, 3) := by decide +kernel
theorem dX2_isDone_58 : decode cX2_isDone 58 = .ok (.ireturn, 1) := by decide +kernel
theorem dX2_isDone_59 : decode cX2_isDone 59 = .ok (.aload_n 1, 1) := by decide +kernel
theorem dX2_isDone_60 : decode cX2_isDone 60 = .ok (.iload 4, 2) := by decide +kernel
theorem dX2_isDone_62 : decode cX2_isDone 62 = .ok (.aload_n 3, 1) := by decide +kernel
theorem dX2_isDone_63 : decode cX2_isDone 63 = .ok (.getfield 100, 3) := by decide +kernel
theorem dX2_isDone_66 : decode cX2_isDone 66 = .ok (.iload_n 2, 1) := by decide +kernel
theorem dX2_isDone_67 : decode cX2_isDone 67 = .ok (.iaload, 1) := by decide +kernel
theorem dX2_isDone_68 : decode cX2_isDone 68 = .ok (.invokevirtual 103, 3) := by decide +kernel
theorem dX2_isDone_71 : decode cX2_isDone 71 = .ok (.ireturn, 1) := by decide +kernel
theorem dX2_isDone_72 : decode cX2_isDone 72 = .ok (.aload_n 1, 1) := by decide +kernel
theorem dX2_isDone_73 : decode cX2_isDone 73 = .ok (.getfield 77, 3) := by decide +kernel
theorem dX2_isDone_76 : decode cX2_isDone 76 = .ok (.iload 4, 2) := by decide +kernel
theorem dX2_isDone_78 : decode cX2_isDone 78 = .ok (.aload_n 3, 1) := by decide +kernel
theorem dX2_isDone_79 : decode cX2_isDone 79 = .ok (.getfield 100, 3) := by decide +kernel
theorem dX2_isDone_82 : decode cX2_isDone 82 = .ok (.iload_n 2, 1) := by decide +kernel
theorem dX2_isDone_83 : decode cX2_isDone 83 = .ok (.iaload, 1) := by decide +kernel
theorem dX2_isDone_84 : decode cX2_isDone 84 = .ok (.aload_n 3, 1) := by decide +kernel
theorem dX2_isDone_85 : decode cX2_isDone 85 = .ok (.getfield 107, 3) := by decide +kernel
theorem dX2_isDone_88 : decode cX2_isDone 88 = .ok (.iload_n 2, 1) := by decide +kernel
theorem dX2_isDone_89 : decode cX2_isDone 89 = .ok (.iaload, 1) := by decide +kernel
theorem dX2_isDone_90 : decode cX2_isDone 90 = .ok (.invokevirtual 110, 3) := by decide +kernel
theorem dX2_isDone_93 : decode cX2_isDone 93 = .ok (.ireturn, 1) := by decide +kernel
theorem dX2_isDone_94 : decode cX2_isDone 94 = .ok (.aload_n 1, 1) := by decide +kernel
theorem dX2_isDone_95 : decode cX2_isDone 95 = .ok (.iload 4, 2) := by decide +kernel
theorem dX2_isDone_97 : decode cX2_isDone 97 = .ok (.invokevirtual 114, 3) := by decide +kernel
theorem dX2_isDone_100 : decode cX2_isDone 100 = .ok (.ireturn, 1) := by decide +kernel
theorem dX2_isDone_101 : decode cX2_isDone 101 = .ok (.aload_n 0, 1) := by decide +kernel
theorem dX2_isDone_102 : decode cX2_isDone 102 = .ok (.aload_n 1, 1) := by decide +kernel
theorem dX2_isDone_103 : decode cX2_isDone 103 = .ok (.invokevirtual 117, 3) := by decide +kernel
theorem dX2_isDone_106 : decode cX2_isDone 106 = .ok (.ireturn, 1) := by decide +kernel
theorem dX2_isDone_107 : decode cX2_isDone 107 = .ok (.iconst 1, 1) := by decide +kernel
theorem dX2_isDone_108 : decode cX2_isDone 108 = .ok (.ireturn, 1) := by decide +kernel
def F_X2_isDone (w : Nat) (M : z_Mem) (l : Nat) (p : Nat) (a2 : Int32) : Option (Bool × z_Mem) :=
  if a2 < 0 ∨ 60 ≤ a2.toNatClampNeg then none else
  if a2 < 0 ∨ 60 ≤ a2.toNatClampNeg then none else
  if (M.1 (p + 18) a2.toNatClampNeg) = (20 : Int32) then
  (F_X3_passMonths w M p (M.1 (p + 19) a2.toNatClampNeg)).bind fun q4 =>
  some (q4.1, q4.2)
  else
  if (M.1 (p + 18) a2.toNatClampNeg) = (21 : Int32) then
  if a2 < 0 ∨ 60 ≤ a2.toNatClampNeg then none else
  (F_X3_carryBy w M p (M.1 (p + 19) a2.toNatClampNeg) (M.1 (p + 20) a2.toNatClampNeg)).bind fun q8 =>
  some (q8.1, q8.2)
  else
  if (M.1 (p + 18) a2.toNatClampNeg) = (22 : Int32) then
  if a2 < 0 ∨ 60 ≤ a2.toNatClampNeg then none else
  if a2 < 0 ∨ 60 ≤ a2.toNatClampNeg then none else
  (F_X1_add w M p (M.1 (p + 19) a2.toNatClampNeg) (M.1 (p + 20) a2.toNatClampNeg) (M.1 (p + 21) a2.toNatClampNeg)).bind fun q13 =>
  some (q13.1, q13.2)
  else
  if (M.1 (p + 18) a2.toNatClampNeg) = (23 : Int32) then
  (F_X3_payDebt w M p (M.1 (p + 19) a2.toNatClampNeg)).bind fun q16 =>
  some (q16.1, q16.2)
  else
  if (M.1 (p + 18) a2.toNatClampNeg) = (24 : Int32) then
  (F_X2_isAnyDone w M l p).bind fun q19 =>
  some (q19.1, q19.2)
  else
  some (true, M)
set_option maxHeartbeats 4000000 in
theorem A_X2_isDone {w : Nat} {M : z_Mem} {l : Nat} (hl : z_lif l) {p : Nat} (hp : z_par p) {a2 : Int32} {r : Bool} {M' : z_Mem} {Q : Option Value → z_Mem → Prop} (h : F_X2_isDone w M l p a2 = some (r, M')) (hq : Q (some (.int (z_tb r))) M') : z_Cl 5 mX2_isDone [.ref (l + 2), .ref (p + 2), .int a2] M Q := by
  refine g_in (ls := [some (.ref (l + 2)), some (.ref (p + 2)), some (.int a2), none, none]) rfl ?_
  unfold F_X2_isDone at h
  refine g_aload_n dX2_isDone_0 rfl rfl ?_
  refine g_get (a := p) (v := .ref (p + 19)) dX2_isDone_1 f_2_15 (shp_0 hp) rfl rfl ?_
  refine g_astore_n (ls' := [some (.ref (l + 2)), some (.ref (p + 2)), some (.int a2), some (.ref (p + 19)), none]) dX2_isDone_4 rfl (Nat.le_of_ble_eq_true rfl) rfl ?_
  refine g_aload_n dX2_isDone_5 rfl rfl ?_
  refine g_get (a := p + 17) (v := .ref (p + 21)) dX2_isDone_6 f_2_93 (shp_17 hp) rfl rfl ?_
  refine g_iload_n dX2_isDone_9 rfl rfl ?_
  by_cases g1 : a2 < 0 ∨ 60 ≤ a2.toNatClampNeg
  · rw [if_pos g1] at h; cases h
  replace h := z_iff g1 h
  refine g_iald (a := p + 19) dX2_isDone_10 (shp_19 hp) g1 ?_
  refine g_istore (ls' := [some (.ref (l + 2)), some (.ref (p + 2)), some (.int a2), some (.ref (p + 19)), some (.int (M.1 (p + 19) a2.toNatClampNeg))]) dX2_isDone_11 (Nat.le_of_ble_eq_true rfl) rfl ?_
  refine g_aload_n dX2_isDone_13 rfl rfl ?_
  refine g_get (a := p + 17) (v := .ref (p + 20)) dX2_isDone_14 f_2_33 (shp_17 hp) rfl rfl ?_
  refine g_iload_n dX2_isDone_17 rfl rfl ?_
  by_cases g2 : a2 < 0 ∨ 60 ≤ a2.toNatClampNeg
  · rw [if_pos g2] at h; cases h
  replace h := z_iff g2 h
  refine g_iald (a := p + 18) dX2_isDone_18 (shp_18 hp) g2 ?_
  by_cases s3 : M.1 (p + 18) a2.toNatClampNeg = (20 : Int32)
  · replace h := z_ift s3 h
    refine g_top (v := (20 : Int32)) s3 ?_
    refine g_tsIn (off := 33) (t := 52) dX2_isDone_19 (by decide) (by decide) (by decide) ?_
    refine g_aload_n dX2_isDone_52 rfl rfl ?_
    refine g_iload dX2_isDone_53 rfl ?_
    obtain ⟨q4, e5, h⟩ := z_bd h
    refine g_callV (a := p) (as := [.int (M.1 (p + 19) a2.toNatClampNeg)]) (rest := []) (c := mX3_passMonths) (k1 := 3) dX2_isDone_55 rfl rfl rfl (shp_0 hp) rfl rfl (Nat.le_of_ble_eq_true rfl) (Nat.le_of_ble_eq_true rfl) (by decide) ?_
    refine A_X3_passMonths hp e5 ?_
    show z_G none 5 mX2_isDone 58 [some (.ref (l + 2)), some (.ref (p + 2)), some (.int a2), some (.ref (p + 19)), some (.int (M.1 (p + 19) a2.toNatClampNeg))] [.int (z_tb q4.1)] q4.2 Q
    cases h
    exact g_iret dX2_isDone_58 rfl nb_tb hq
  replace h := z_iff s3 h
  by_cases s6 : M.1 (p + 18) a2.toNatClampNeg = (21 : Int32)
  · replace h := z_ift s6 h
    refine g_top (v := (21 : Int32)) s6 ?_
    refine g_tsIn (off := 40) (t := 59) dX2_isDone_19 (by decide) (by decide) (by decide) ?_
    refine g_aload_n dX2_isDone_59 rfl rfl ?_
    refine g_iload dX2_isDone_60 rfl ?_
    refine g_aload_n dX2_isDone_62 rfl rfl ?_
    refine g_get (a := p + 17) (v := .ref (p + 22)) dX2_isDone_63 f_2_100 (shp_17 hp) rfl rfl ?_
    refine g_iload_n dX2_isDone_66 rfl rfl ?_
    by_cases g7 : a2 < 0 ∨ 60 ≤ a2.toNatClampNeg
    · rw [if_pos g7] at h; cases h
    replace h := z_iff g7 h
    refine g_iald (a := p + 20) dX2_isDone_67 (shp_20 hp) g7 ?_
    obtain ⟨q8, e9, h⟩ := z_bd h
    refine g_callV (a := p) (as := [.int (M.1 (p + 19) a2.toNatClampNeg), .int (M.1 (p + 20) a2.toNatClampNeg)]) (rest := []) (c := mX3_carryBy) (k1 := 1) dX2_isDone_68 rfl rfl rfl (shp_0 hp) rfl rfl (Nat.le_of_ble_eq_true rfl) (Nat.le_of_ble_eq_true rfl) (by decide) ?_
    refine A_X3_carryBy hp e9 ?_
    show z_G none 5 mX2_isDone 71 [some (.ref (l + 2)), some (.ref (p + 2)), some (.int a2), some (.ref (p + 19)), some (.int (M.1 (p + 19) a2.toNatClampNeg))] [.int (z_tb q8.1)] q8.2 Q
    cases h
    exact g_iret dX2_isDone_71 rfl nb_tb hq
  replace h := z_iff s6 h
  by_cases s10 : M.1 (p + 18) a2.toNatClampNeg = (22 : Int32)
  · replace h := z_ift s10 h
    refine g_top (v := (22 : Int32)) s10 ?_
    refine g_tsIn (off := 53) (t := 72) dX2_isDone_19 (by decide) (by decide) (by decide) ?_
    refine g_aload_n dX2_isDone_72 rfl rfl ?_
    refine g_get (a := p) (v := .ref (p + 10)) dX2_isDone_73 f_2_77 (shp_0 hp) rfl rfl ?_
    refine g_iload dX2_isDone_76 rfl ?_
    refine g_aload_n dX2_isDone_78 rfl rfl ?_
    refine g_get (a := p + 17) (v := .ref (p + 22)) dX2_isDone_79 f_2_100 (shp_17 hp) rfl rfl ?_
    refine g_iload_n dX2_isDone_82 rfl rfl ?_
    by_cases g11 : a2 < 0 ∨ 60 ≤ a2.toNatClampNeg
    · rw [if_pos g11] at h; cases h
    replace h := z_iff g11 h
    refine g_iald (a := p + 20) dX2_isDone_83 (shp_20 hp) g11 ?_
    refine g_aload_n dX2_isDone_84 rfl rfl ?_
    refine g_get (a := p + 17) (v := .ref (p + 23)) dX2_isDone_85 f_2_107 (shp_17 hp) rfl rfl ?_
    refine g_iload_n dX2_isDone_88 rfl rfl ?_
    by_cases g12 : a2 < 0 ∨ 60 ≤ a2.toNatClampNeg
    · rw [if_pos g12] at h; cases h
    replace h := z_iff g12 h
    refine g_iald (a := p + 21) dX2_isDone_89 (shp_21 hp) g12 ?_
    obtain ⟨q13, e14, h⟩ := z_bd h
    refine g_callV (a := p + 8) (as := [.int (M.1 (p + 19) a2.toNatClampNeg), .int (M.1 (p + 20) a2.toNatClampNeg), .int (M.1 (p + 21) a2.toNatClampNeg)]) (rest := []) (c := mX1_add) (k1 := 0) dX2_isDone_90 rfl rfl rfl (shp_8 hp) rfl rfl (Nat.le_of_ble_eq_true rfl) (Nat.le_of_ble_eq_true rfl) (by decide) ?_
    refine A_X1_add hp e14 ?_
    show z_G none 5 mX2_isDone 93 [some (.ref (l + 2)), some (.ref (p + 2)), some (.int a2), some (.ref (p + 19)), some (.int (M.1 (p + 19) a2.toNatClampNeg))] [.int (z_tb q13.1)] q13.2 Q
    cases h
    exact g_iret dX2_isDone_93 rfl nb_tb hq
  replace h := z_iff s10 h
  by_cases s15 : M.1 (p + 18) a2.toNatClampNeg = (23 : Int32)
  · replace h := z_ift s15 h
    refine g_top (v := (23 : Int32)) s15 ?_
    refine g_tsIn (off := 75) (t := 94) dX2_isDone_19 (by decide) (by decide) (by decide) ?_
    refine g_aload_n dX2_isDone_94 rfl rfl ?_
    refine g_iload dX2_isDone_95 rfl ?_
    obtain ⟨q16, e17, h⟩ := z_bd h
    refine g_callV (a := p) (as := [.int (M.1 (p + 19) a2.toNatClampNeg)]) (rest := []) (c := mX3_payDebt) (k1 := 2) dX2_isDone_97 rfl rfl rfl (shp_0 hp) rfl rfl (Nat.le_of_ble_eq_true rfl) (Nat.le_of_ble_eq_true rfl) (by decide) ?_
    refine A_X3_payDebt hp e17 ?_
    show z_G none 5 mX2_isDone 100 [some (.ref (l + 2)), some (.ref (p + 2)), some (.int a2), some (.ref (p + 19)), some (.int (M.1 (p + 19) a2.toNatClampNeg))] [.int (z_tb q16.1)] q16.2 Q
    cases h
    exact g_iret dX2_isDone_100 rfl nb_tb hq
  replace h := z_iff s15 h
  by_cases s18 : M.1 (p + 18) a2.toNatClampNeg = (24 : Int32)
  · replace h := z_ift s18 h
    refine g_top (v := (24 : Int32)) s18 ?_
    refine g_tsIn (off := 82) (t := 101) dX2_isDone_19 (by decide) (by decide) (by decide) ?_
    refine g_aload_n dX2_isDone_101 rfl rfl ?_
    refine g_aload_n dX2_isDone_102 rfl rfl ?_
    obtain ⟨q19, e20, h⟩ := z_bd h
    refine g_callV (a := l) (as := [.ref (p + 2)]) (rest := []) (c := mX2_isAnyDone) (k1 := 4) dX2_isDone_103 rfl rfl rfl (shl_0 hl) rfl rfl (Nat.le_of_ble_eq_true rfl) (Nat.le_of_ble_eq_true rfl) (by decide) ?_
    refine A_X2_isAnyDone hl hp e20 ?_
    show z_G none 5 mX2_isDone 106 [some (.ref (l + 2)), some (.ref (p + 2)), some (.int a2), some (.ref (p + 19)), some (.int (M.1 (p + 19) a2.toNatClampNeg))] [.int (z_tb q19.1)] q19.2 Q
    cases h
    exact g_iret dX2_isDone_106 rfl nb_tb hq
  replace h := z_iff s18 h
  refine g_tsOut (t := 107) dX2_isDone_19 (by have t0 := z_neL (n := 20) (by decide) s3; have t1 := z_neL (n := 21) (by decide) s6; have t2 := z_neL (n := 22) (by decide) s10; have t3 := z_neL (n := 23) (by decide) s15; have t4 := z_neL (n := 24) (by decide) s18; omega) (by decide) ?_
  refine g_iconst (v := (1 : Int32)) dX2_isDone_107 (by decide) ?_
  cases h
  exact g_iret dX2_isDone_108 rfl rfl hq
