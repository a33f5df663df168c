/-! ===== the methods as functions, 1 ===== -/
theorem dX2_holds_0 : decode cX2_holds 0 = .ok (.aload_n 1, 1) := by decide +kernel
theorem dX2_holds_1 : decode cX2_holds 1 = .ok (.getfield 15, 3) := by decide +kernel
theorem dX2_holds_4 : decode cX2_holds 4 = .ok (.getfield 100, 3) := by decide +kernel
theorem dX2_holds_7 : decode cX2_holds 7 = .ok (.iload_n 2, 1) := by decide +kernel
theorem dX2_holds_8 : decode cX2_holds 8 = .ok (.iaload, 1) := by decide +kernel
theorem dX2_holds_9 : decode cX2_holds 9 = .ok (.istore_n 3, 1) := by decide +kernel
theorem dX2_holds_10 : decode cX2_holds 10 = .ok (.aload_n 1, 1) := by decide +kernel
theorem dX2_holds_11 : decode cX2_holds 11 = .ok (.getfield 15, 3) := by decide +kernel
theorem dX2_holds_14 : decode cX2_holds 14 = .ok (.getfield 107, 3) := by decide +kernel
theorem dX2_holds_17 : decode cX2_holds 17 = .ok (.iload_n 2, 1) := by decide +kernel
theorem dX2_holds_18 : decode cX2_holds 18 = .ok (.iaload, 1) := by decide +kernel
theorem dX2_holds_19 : decode cX2_holds 19 = .ok (.istore 4, 2) := by decide +kernel
theorem dX2_holds_21 : decode cX2_holds 21 = .ok (.aload_n 1, 1) := by decide +kernel
theorem dX2_holds_22 : decode cX2_holds 22 = .ok (.getfield 15, 3) := by decide +kernel
theorem dX2_holds_25 : decode cX2_holds 25 = .ok (.getfield 93, 3) := by decide +kernel
theorem dX2_holds_28 : decode cX2_holds 28 = .ok (.iload_n 2, 1) := by decide +kernel
theorem dX2_holds_29 : decode cX2_holds 29 = .ok (.iaload, 1) := by decide +kernel
theorem dX2_holds_30 : decode cX2_holds 30 = .ok (.lookupswitch 107 #[(3, 42), (26, 56), (34, 73), (35, 90)], 42) := by decide +kernel
theorem dX2_holds_72 : decode cX2_holds 72 = .ok (.aload_n 1, 1) := by decide +kernel
theorem dX2_holds_73 : decode cX2_holds 73 = .ok (.getfield 129, 3) := by decide +kernel
theorem dX2_holds_76 : decode cX2_holds 76 = .ok (.iload_n 3, 1) := by decide +kernel
theorem dX2_holds_77 : decode cX2_holds 77 = .ok (.if_icmp .ne 7, 3) := by decide +kernel
theorem dX2_holds_80 : decode cX2_holds 80 = .ok (.iconst 1, 1) := by decide +kernel
theorem dX2_holds_81 : decode cX2_holds 81 = .ok (.goto 4, 3) := by decide +kernel
theorem dX2_holds_84 : decode cX2_holds 84 = .ok (.iconst 0, 1) := by decide +kernel
theorem dX2_holds_85 : decode cX2_holds 85 = .ok (.ireturn, 1) := by decide +kernel
theorem dX2_holds_86 : decode cX2_holds 86 = .ok (.aload_n 1, 1) := by decide +kernel
theorem dX2_holds_87 : decode cX2_holds 87 = .ok (.getfield 77, 3) := by decide +kernel
theorem dX2_holds_90 : decode cX2_holds 90 = .ok (.iload_n 3, 1) := by decide +kernel
theorem dX2_holds_91 : decode cX2_holds 91 = .ok (.invokevirtual 132, 3) := by decide +kernel
theorem dX2_holds_94 : decode cX2_holds 94 = .ok (.ifCond .le 7, 3) := by decide +kernel
theorem dX2_holds_97 : decode cX2_holds 97 = .ok (.iconst 1, 1) := by decide +kernel
theorem dX2_holds_98 : decode cX2_holds 98 = .ok (.goto 4, 3) := by decide +kernel
theorem dX2_holds_101 : decode cX2_holds 101 = .ok (.iconst 0, 1) := by decide +kernel
theorem dX2_holds_102 : decode cX2_holds 102 = .ok (.ireturn, 1) := by decide +kernel
theorem dX2_holds_103 : decode cX2_holds 103 = .ok (.aload_n 1, 1) := by decide +kernel
theorem dX2_holds_104 : decode cX2_holds 104 = .ok (.getfield 135, 3) := by decide +kernel
theorem dX2_holds_107 : decode cX2_holds 107 = .ok (.iload_n 3, 1) := by decide +kernel
theorem dX2_holds_108 : decode cX2_holds 108 = .ok (.iaload, 1) := by decide +kernel
theorem dX2_holds_109 : decode cX2_holds 109 = .ok (.iload 4, 2) := by decide +kernel
theorem dX2_holds_111 : decode cX2_holds 111 = .ok (.if_icmp .ge 7, 3) := by decide +kernel
theorem dX2_holds_114 : decode cX2_holds 114 = .ok (.iconst 1, 1) := by decide +kernel
theorem dX2_holds_115 : decode cX2_holds 115 = .ok (.goto 4, 3) := by decide +kernel
theorem dX2_holds_118 : decode cX2_holds 118 = .ok (.iconst 0, 1) := by decide +kernel
theorem dX2_holds_119 : decode cX2_holds 119 = .ok (.ireturn, 1) := by decide +kernel
theorem dX2_holds_120 : decode cX2_holds 120 = .ok (.aload_n 1, 1) := by decide +kernel
theorem dX2_holds_121 : decode cX2_holds 121 = .ok (.getfield 135, 3) := by decide +kernel
theorem dX2_holds_124 : decode cX2_holds 124 = .ok (.iload_n 3, 1) := by decide +kernel
theorem dX2_holds_125 : decode cX2_holds 125 = .ok (.iaload, 1) := by decide +kernel
theorem dX2_holds_126 : decode cX2_holds 126 = .ok (.iload 4, 2) := by decide +kernel
theorem dX2_holds_128 : decode cX2_holds 128 = .ok (.if_icmp .le 7, 3) := by decide +kernel
theorem dX2_holds_131 : decode cX2_holds 131 = .ok (.iconst 1, 1) := by decide +kernel
theorem dX2_holds_132 : decode cX2_holds 132 = .ok (.goto 4, 3) := by decide +kernel
theorem dX2_holds_135 : decode cX2_holds 135 = .ok (.iconst 0, 1) := by decide +kernel
theorem dX2_holds_136 : decode cX2_holds 136 = .ok (.ireturn, 1) := by decide +kernel
theorem dX2_holds_137 : decode cX2_holds 137 = .ok (.aload_n 1, 1) := by decide +kernel
theorem dX2_holds_138 : decode cX2_holds 138 = .ok (.getfield 135, 3) := by decide +kernel
theorem dX2_holds_141 : decode cX2_holds 141 = .ok (.iload_n 3, 1) := by decide +kernel
theorem dX2_holds_142 : decode cX2_holds 142 = .ok (.iaload, 1) := by decide +kernel
theorem dX2_holds_143 : decode cX2_holds 143 = .ok (.iload 4, 2) := by decide +kernel
theorem dX2_holds_145 : decode cX2_holds 145 = .ok (.if_icmp .ne 7, 3) := by decide +kernel
theorem dX2_holds_148 : decode cX2_holds 148 = .ok (.iconst 1, 1) := by decide +kernel
theorem dX2_holds_149 : decode cX2_holds 149 = .ok (.goto 4, 3) := by decide +kernel
theorem dX2_holds_152 : decode cX2_holds 152 = .ok (.iconst 0, 1) := by decide +kernel
theorem dX2_holds_153 : decode cX2_holds 153 = .ok (.ireturn, 1) := by decide +kernel
def F_X2_holds (w : Nat) (M : z_Mem) (l : Nat) (p : Nat) (a2 : Int32) : Option (Bool × z_Mem) :=
  if a2 < 0 ∨ 60 ≤ a2.toNatClampNeg then none else
  if a2 < 0 ∨ 60 ≤ a2.toNatClampNeg then none else
  if a2 < 0 ∨ 60 ≤ a2.toNatClampNeg then none else
  if (M.1 (p + 19) a2.toNatClampNeg) = (3 : Int32) then
  if (M.1 p 8) = (M.1 (p + 20) a2.toNatClampNeg) then
  some (true, M)
  else
  some (false, M)
  else
  if (M.1 (p + 19) a2.toNatClampNeg) = (26 : Int32) then
  (F_X1_owedBy w M p (M.1 (p + 20) a2.toNatClampNeg)).bind fun q7 =>
  if q7.1 ≤ (0 : Int32) then
  some (false, q7.2)
  else
  some (true, q7.2)
  else
  if (M.1 (p + 19) a2.toNatClampNeg) = (34 : Int32) then
  if (M.1 (p + 20) a2.toNatClampNeg) < 0 ∨ 2 ≤ (M.1 (p + 20) a2.toNatClampNeg).toNatClampNeg then none else
  if (M.1 (p + 21) a2.toNatClampNeg) ≤ (M.1 (p + 1) (M.1 (p + 20) a2.toNatClampNeg).toNatClampNeg) then
  some (false, M)
  else
  some (true, M)
  else
  if (M.1 (p + 19) a2.toNatClampNeg) = (35 : Int32) then
  if (M.1 (p + 20) a2.toNatClampNeg) < 0 ∨ 2 ≤ (M.1 (p + 20) a2.toNatClampNeg).toNatClampNeg then none else
  if (M.1 (p + 1) (M.1 (p + 20) a2.toNatClampNeg).toNatClampNeg) ≤ (M.1 (p + 21) a2.toNatClampNeg) then
  some (false, M)
  else
  some (true, M)
  else
  if (M.1 (p + 20) a2.toNatClampNeg) < 0 ∨ 2 ≤ (M.1 (p + 20) a2.toNatClampNeg).toNatClampNeg then none else
  if (M.1 (p + 1) (M.1 (p + 20) a2.toNatClampNeg).toNatClampNeg) = (M.1 (p + 21) a2.toNatClampNeg) then
  some (true, M)
  else
  some (false, M)
set_option maxHeartbeats 4000000 in
theorem A_X2_holds {w : Nat} {M : z_Mem} {l : Nat} (hl : z_lif l) {p : Nat} (hp : z_par p) {a2 : Int32} {r : Bool} {M' : z_Mem} {Q : Option Value → z_Mem → Prop} (h : F_X2_holds w M l p a2 = some (r, M')) (hq : Q (some (.int (z_tb r))) M') : z_Cl 1 mX2_holds [.ref (l + 2), .ref (p + 2), .int a2] M Q := by
  refine g_in (ls := [some (.ref (l + 2)), some (.ref (p + 2)), some (.int a2), none, none]) rfl ?_
  unfold F_X2_holds at h
  refine g_aload_n dX2_holds_0 rfl rfl ?_
  refine g_get (a := p) (v := .ref (p + 19)) dX2_holds_1 f_2_15 (shp_0 hp) rfl rfl ?_
  refine g_get (a := p + 17) (v := .ref (p + 22)) dX2_holds_4 f_2_100 (shp_17 hp) rfl rfl ?_
  refine g_iload_n dX2_holds_7 rfl rfl ?_
  by_cases g1 : a2 < 0 ∨ 60 ≤ a2.toNatClampNeg
  · rw [if_pos g1] at h; cases h
  replace h := z_iff g1 h
  refine g_iald (a := p + 20) dX2_holds_8 (shp_20 hp) g1 ?_
  refine g_istore_n (ls' := [some (.ref (l + 2)), some (.ref (p + 2)), some (.int a2), some (.int (M.1 (p + 20) a2.toNatClampNeg)), none]) dX2_holds_9 rfl (Nat.le_of_ble_eq_true rfl) rfl ?_
  refine g_aload_n dX2_holds_10 rfl rfl ?_
  refine g_get (a := p) (v := .ref (p + 19)) dX2_holds_11 f_2_15 (shp_0 hp) rfl rfl ?_
  refine g_get (a := p + 17) (v := .ref (p + 23)) dX2_holds_14 f_2_107 (shp_17 hp) rfl rfl ?_
  refine g_iload_n dX2_holds_17 rfl rfl ?_
  by_cases g2 : a2 < 0 ∨ 60 ≤ a2.toNatClampNeg
  · rw [if_pos g2] at h; cases h
  replace h := z_iff g2 h
  refine g_iald (a := p + 21) dX2_holds_18 (shp_21 hp) g2 ?_
  refine g_istore (ls' := [some (.ref (l + 2)), some (.ref (p + 2)), some (.int a2), some (.int (M.1 (p + 20) a2.toNatClampNeg)), some (.int (M.1 (p + 21) a2.toNatClampNeg))]) dX2_holds_19 (Nat.le_of_ble_eq_true rfl) rfl ?_
  refine g_aload_n dX2_holds_21 rfl rfl ?_
  refine g_get (a := p) (v := .ref (p + 19)) dX2_holds_22 f_2_15 (shp_0 hp) rfl rfl ?_
  refine g_get (a := p + 17) (v := .ref (p + 21)) dX2_holds_25 f_2_93 (shp_17 hp) rfl rfl ?_
  refine g_iload_n dX2_holds_28 rfl rfl ?_
  by_cases g3 : a2 < 0 ∨ 60 ≤ a2.toNatClampNeg
  · rw [if_pos g3] at h; cases h
  replace h := z_iff g3 h
  refine g_iald (a := p + 19) dX2_holds_29 (shp_19 hp) g3 ?_
  by_cases s4 : M.1 (p + 19) a2.toNatClampNeg = (3 : Int32)
  · replace h := z_ift s4 h
    refine g_top (v := (3 : Int32)) s4 ?_
    refine g_lsw (off := 42) (t := 72) dX2_holds_30 (by decide) (by decide) (by decide) ?_
    refine g_aload_n dX2_holds_72 rfl rfl ?_
    refine g_get (a := p) (v := .int (M.1 p 8)) dX2_holds_73 f_2_129 (shp_0 hp) rfl rfl ?_
    refine g_iload_n dX2_holds_76 rfl rfl ?_
    refine g_ic_ne (t := 84) dX2_holds_77 (by decide) (fun c5 => ?_) (fun c5 => ?_)
    · replace h := z_iff c5 h
      refine g_iconst (v := (0 : Int32)) dX2_holds_84 (by decide) ?_
      cases h
      exact g_iret dX2_holds_85 rfl rfl hq
    · replace h := z_ift c5 h
      refine g_iconst (v := (1 : Int32)) dX2_holds_80 (by decide) ?_
      refine g_goto (t := 85) dX2_holds_81 (by decide) ?_
      cases h
      exact g_iret dX2_holds_85 rfl rfl hq
  replace h := z_iff s4 h
  by_cases s6 : M.1 (p + 19) a2.toNatClampNeg = (26 : Int32)
  · replace h := z_ift s6 h
    refine g_top (v := (26 : Int32)) s6 ?_
    refine g_lsw (off := 56) (t := 86) dX2_holds_30 (by decide) (by decide) (by decide) ?_
    refine g_aload_n dX2_holds_86 rfl rfl ?_
    refine g_get (a := p) (v := .ref (p + 10)) dX2_holds_87 f_2_77 (shp_0 hp) rfl rfl ?_
    refine g_iload_n dX2_holds_90 rfl rfl ?_
    obtain ⟨q7, e8, h⟩ := z_bd h
    refine g_callV (a := p + 8) (as := [.int (M.1 (p + 20) a2.toNatClampNeg)]) (rest := []) (c := mX1_owedBy) (k1 := 0) dX2_holds_91 rfl rfl rfl (shp_8 hp) rfl rfl (Nat.le_of_ble_eq_true rfl) (Nat.le_of_ble_eq_true rfl) (by decide) ?_
    refine A_X1_owedBy hp e8 ?_
    show z_G none 1 mX2_holds 94 [some (.ref (l + 2)), some (.ref (p + 2)), some (.int a2), some (.int (M.1 (p + 20) a2.toNatClampNeg)), some (.int (M.1 (p + 21) a2.toNatClampNeg))] [.int q7.1] q7.2 Q
    refine g_if_le (t := 101) dX2_holds_94 (by decide) (fun c9 => ?_) (fun c9 => ?_)
    · replace h := z_ift c9 h
      refine g_iconst (v := (0 : Int32)) dX2_holds_101 (by decide) ?_
      cases h
      exact g_iret dX2_holds_102 rfl rfl hq
    · replace h := z_iff c9 h
      refine g_iconst (v := (1 : Int32)) dX2_holds_97 (by decide) ?_
      refine g_goto (t := 102) dX2_holds_98 (by decide) ?_
      cases h
      exact g_iret dX2_holds_102 rfl rfl hq
  replace h := z_iff s6 h
  by_cases s10 : M.1 (p + 19) a2.toNatClampNeg = (34 : Int32)
  · replace h := z_ift s10 h
    refine g_top (v := (34 : Int32)) s10 ?_
    refine g_lsw (off := 73) (t := 103) dX2_holds_30 (by decide) (by decide) (by decide) ?_
    refine g_aload_n dX2_holds_103 rfl rfl ?_
    refine g_get (a := p) (v := .ref (p + 3)) dX2_holds_104 f_2_135 (shp_0 hp) rfl rfl ?_
    refine g_iload_n dX2_holds_107 rfl rfl ?_
    by_cases g11 : (M.1 (p + 20) a2.toNatClampNeg) < 0 ∨ 2 ≤ (M.1 (p + 20) a2.toNatClampNeg).toNatClampNeg
    · rw [if_pos g11] at h; cases h
    replace h := z_iff g11 h
    refine g_iald (a := p + 1) dX2_holds_108 (shp_1 hp) g11 ?_
    refine g_iload dX2_holds_109 rfl ?_
    refine g_ic_ge (t := 118) dX2_holds_111 (by decide) (fun c12 => ?_) (fun c12 => ?_)
    · replace h := z_ift c12 h
      refine g_iconst (v := (0 : Int32)) dX2_holds_118 (by decide) ?_
      cases h
      exact g_iret dX2_holds_119 rfl rfl hq
    · replace h := z_iff c12 h
      refine g_iconst (v := (1 : Int32)) dX2_holds_114 (by decide) ?_
      refine g_goto (t := 119) dX2_holds_115 (by decide) ?_
      cases h
      exact g_iret dX2_holds_119 rfl rfl hq
  replace h := z_iff s10 h
  by_cases s13 : M.1 (p + 19) a2.toNatClampNeg = (35 : Int32)
  · replace h := z_ift s13 h
    refine g_top (v := (35 : Int32)) s13 ?_
    refine g_lsw (off := 90) (t := 120) dX2_holds_30 (by decide) (by decide) (by decide) ?_
    refine g_aload_n dX2_holds_120 rfl rfl ?_
    refine g_get (a := p) (v := .ref (p + 3)) dX2_holds_121 f_2_135 (shp_0 hp) rfl rfl ?_
    refine g_iload_n dX2_holds_124 rfl rfl ?_
    by_cases g14 : (M.1 (p + 20) a2.toNatClampNeg) < 0 ∨ 2 ≤ (M.1 (p + 20) a2.toNatClampNeg).toNatClampNeg
    · rw [if_pos g14] at h; cases h
    replace h := z_iff g14 h
    refine g_iald (a := p + 1) dX2_holds_125 (shp_1 hp) g14 ?_
    refine g_iload dX2_holds_126 rfl ?_
    refine g_ic_le (t := 135) dX2_holds_128 (by decide) (fun c15 => ?_) (fun c15 => ?_)
    · replace h := z_ift c15 h
      refine g_iconst (v := (0 : Int32)) dX2_holds_135 (by decide) ?_
      cases h
      exact g_iret dX2_holds_136 rfl rfl hq
    · replace h := z_iff c15 h
      refine g_iconst (v := (1 : Int32)) dX2_holds_131 (by decide) ?_
      refine g_goto (t := 136) dX2_holds_132 (by decide) ?_
      cases h
      exact g_iret dX2_holds_136 rfl rfl hq
  replace h := z_iff s13 h
  refine g_lsw (off := 107) (t := 137) dX2_holds_30 (by decide) (by have t0 := z_neL (n := 3) (by decide) s4; have t1 := z_neL (n := 26) (by decide) s6; have t2 := z_neL (n := 34) (by decide) s10; have t3 := z_neL (n := 35) (by decide) s13; simp [Op.lookupswitch.offset, Ne.symm t0, t0, Ne.symm t1, t1, Ne.symm t2, t2, Ne.symm t3, t3]) (by decide) ?_
  refine g_aload_n dX2_holds_137 rfl rfl ?_
  refine g_get (a := p) (v := .ref (p + 3)) dX2_holds_138 f_2_135 (shp_0 hp) rfl rfl ?_
  refine g_iload_n dX2_holds_141 rfl rfl ?_
  by_cases g16 : (M.1 (p + 20) a2.toNatClampNeg) < 0 ∨ 2 ≤ (M.1 (p + 20) a2.toNatClampNeg).toNatClampNeg
  · rw [if_pos g16] at h; cases h
  replace h := z_iff g16 h
  refine g_iald (a := p + 1) dX2_holds_142 (shp_1 hp) g16 ?_
  refine g_iload dX2_holds_143 rfl ?_
  refine g_ic_ne (t := 152) dX2_holds_145 (by decide) (fun c17 => ?_) (fun c17 => ?_)
  · replace h := z_iff c17 h
    refine g_iconst (v := (0 : Int32)) dX2_holds_152 (by decide) ?_
    cases h
    exact g_iret dX2_holds_153 rfl rfl hq
  · replace h := z_ift c17 h
    refine g_iconst (v := (1 : Int32)) dX2_holds_148 (by decide) ?_
    refine g_goto (t := 153) dX2_holds_149 (by decide) ?_
    cases h
    exact g_iret dX2_holds_153 rfl rfl hq
theorem dX2_behindStep_0 : decode cX2_behindStep 0 = .ok (.aload_n 1, 1) := by decide +kernel
theorem dX2_behindStep_1 : decode cX2_behindStep 1 = .ok (.getfield 15, 3) := by decide +kernel
theorem dX2_behindStep_4 : decode cX2_behindStep 4 = .ok (.astore_n 3, 1) := by decide +kernel
theorem dX2_behindStep_5 : decode cX2_behindStep 5 = .ok (.aload_n 3, 1) := by decide +kernel
theorem dX2_behindStep_6 : decode cX2_behindStep 6 = .ok (.getfield 33, 3) := by decide +kernel
theorem dX2_behindStep_9 : decode cX2_behindStep 9 = .ok (.iload_n 2, 1) := by decide +kernel
theorem dX2_behindStep_10 : decode cX2_behindStep 10 = .ok (.iaload, 1) := by decide +kernel
theorem dX2_behindStep_11 : decode cX2_behindStep 11 = .ok (.tableswitch 78 25 29 #[33, 78, 57, 78, 73], 33) := by decide +kernel
theorem dX2_behindStep_44 : decode cX2_behindStep 44 = .ok (.aload_n 0, 1) := by decide +kernel
theorem dX2_behindStep_45 : decode cX2_behindStep 45 = .ok (.aload_n 1, 1) := by decide +kernel
theorem dX2_behindStep_46 : decode cX2_behindStep 46 = .ok (.iload_n 2, 1) := by decide +kernel
theorem dX2_behindStep_47 : decode cX2_behindStep 47 = .ok (.invokevirtual 90, 3) := by decide +kernel
theorem dX2_behindStep_50 : decode cX2_behindStep 50 = .ok (.ifCond .eq 9, 3) := by decide +kernel
theorem dX2_behindStep_53 : decode cX2_behindStep 53 = .ok (.iload_n 2, 1) := by decide +kernel
theorem dX2_behindStep_54 : decode cX2_behindStep 54 = .ok (.iconst 1, 1) := by decide +kernel
theorem dX2_behindStep_55 : decode cX2_behindStep 55 = .ok (.iadd, 1) := by decide +kernel
theorem dX2_behindStep_56 : decode cX2_behindStep 56 = .ok (.goto 11, 3) := by decide +kernel
theorem dX2_behindStep_59 : decode cX2_behindStep 59 = .ok (.aload_n 3, 1) := by decide +kernel
theorem dX2_behindStep_60 : decode cX2_behindStep 60 = .ok (.getfield 87, 3) := by decide +kernel
theorem dX2_behindStep_63 : decode cX2_behindStep 63 = .ok (.iload_n 2, 1) := by decide +kernel
theorem dX2_behindStep_64 : decode cX2_behindStep 64 = .ok (.iaload, 1) := by decide +kernel
theorem dX2_behindStep_65 : decode cX2_behindStep 65 = .ok (.iconst 1, 1) := by decide +kernel
theorem dX2_behindStep_66 : decode cX2_behindStep 66 = .ok (.iadd, 1) := by decide +kernel
theorem dX2_behindStep_67 : decode cX2_behindStep 67 = .ok (.ireturn, 1) := by decide +kernel
theorem dX2_behindStep_68 : decode cX2_behindStep 68 = .ok (.aload_n 0, 1) := by decide +kernel
theorem dX2_behindStep_69 : decode cX2_behindStep 69 = .ok (.getfield 9, 3) := by decide +kernel
theorem dX2_behindStep_72 : decode cX2_behindStep 72 = .ok (.iload_n 2, 1) := by decide +kernel
theorem dX2_behindStep_73 : decode cX2_behindStep 73 = .ok (.aload_n 3, 1) := by decide +kernel
theorem dX2_behindStep_74 : decode cX2_behindStep 74 = .ok (.getfield 93, 3) := by decide +kernel
theorem dX2_behindStep_77 : decode cX2_behindStep 77 = .ok (.iload_n 2, 1) := by decide +kernel
theorem dX2_behindStep_78 : decode cX2_behindStep 78 = .ok (.iaload, 1) := by decide +kernel
theorem dX2_behindStep_79 : decode cX2_behindStep 79 = .ok (.iastore, 1) := by decide +kernel
theorem dX2_behindStep_80 : decode cX2_behindStep 80 = .ok (.iload_n 2, 1) := by decide +kernel
theorem dX2_behindStep_81 : decode cX2_behindStep 81 = .ok (.iconst 1, 1) := by decide +kernel
theorem dX2_behindStep_82 : decode cX2_behindStep 82 = .ok (.iadd, 1) := by decide +kernel
theorem dX2_behindStep_83 : decode cX2_behindStep 83 = .ok (.ireturn, 1) := by decide +kernel
theorem dX2_behindStep_84 : decode cX2_behindStep 84 = .ok (.aload_n 3, 1) := by decide +kernel
theorem dX2_behindStep_85 : decode cX2_behindStep 85 = .ok (.getfield 26, 3) := by decide +kernel
theorem dX2_behindStep_88 : decode cX2_behindStep 88 = .ok (.ireturn, 1) := by decide +kernel
theorem dX2_behindStep_89 : decode cX2_behindStep 89 = .ok (.iload_n 2, 1) := by decide +kernel
theorem dX2_behindStep_90 : decode cX2_behindStep 90 = .ok (.iconst 1, 1) := by decide +kernel
theorem dX2_behindStep_91 : decode cX2_behindStep 91 = .ok (.iadd, 1) := by decide +kernel
theorem dX2_behindStep_92 : decode cX2_behindStep 92 = .ok (.ireturn, 1) := by decide +kernel
def F_X2_behindStep (w : Nat) (M : z_Mem) (l : Nat) (p : Nat) (a2 : Int32) : Option (Int32 × z_Mem) :=
  if a2 < 0 ∨ 60 ≤ a2.toNatClampNeg then none else
  if (M.1 (p + 18) a2.toNatClampNeg) = (25 : Int32) then
  (F_X2_holds w M l p a2).bind fun q3 =>
  if q3.1 = true then
  some (a2 + (1 : Int32), q3.2)
  else
  if a2 < 0 ∨ 60 ≤ a2.toNatClampNeg then none else
  some ((q3.2.1 (p + 22) a2.toNatClampNeg) + (1 : Int32), q3.2)
  else
  if (M.1 (p + 18) a2.toNatClampNeg) = (26 : Int32) then
  some (a2 + (1 : Int32), M)
  else
  if (M.1 (p + 18) a2.toNatClampNeg) = (27 : Int32) then
  if a2 < 0 ∨ 60 ≤ a2.toNatClampNeg then none else
  if a2 < 0 ∨ 60 ≤ a2.toNatClampNeg then none else
  some (a2 + (1 : Int32), (z_wI M (l + 1) a2.toNatClampNeg (M.1 (p + 19) a2.toNatClampNeg)))
  else
  if (M.1 (p + 18) a2.toNatClampNeg) = (28 : Int32) then
  some (a2 + (1 : Int32), M)
  else
  if (M.1 (p + 18) a2.toNatClampNeg) = (29 : Int32) then
  some (M.1 (p + 17) 5, M)
  else
  some (a2 + (1 : Int32), M)
set_option maxHeartbeats 4000000 in
theorem A_X2_behindStep {w : Nat} {M : z_Mem} {l : Nat} (hl : z_lif l) {p : Nat} (hp : z_par p) {a2 : Int32} {r : Int32} {M' : z_Mem} {Q : Option Value → z_Mem → Prop} (h : F_X2_behindStep w M l p a2 = some (r, M')) (hq : Q (some (.int r)) M') : z_Cl 2 mX2_behindStep [.ref (l + 2), .ref (p + 2), .int a2] M Q := by
  refine g_in (ls := [some (.ref (l + 2)), some (.ref (p + 2)), some (.int a2), none]) rfl ?_
  unfold F_X2_behindStep at h
  refine g_aload_n dX2_behindStep_0 rfl rfl ?_
  refine g_get (a := p) (v := .ref (p + 19)) dX2_behindStep_1 f_2_15 (shp_0 hp) rfl rfl ?_
  refine g_astore_n (ls' := [some (.ref (l + 2)), some (.ref (p + 2)), some (.int a2), some (.ref (p + 19))]) dX2_behindStep_4 rfl (Nat.le_of_ble_eq_true rfl) rfl ?_
  refine g_aload_n dX2_behindStep_5 rfl rfl ?_
  refine g_get (a := p + 17) (v := .ref (p + 20)) dX2_behindStep_6 f_2_33 (shp_17 hp) rfl rfl ?_
  refine g_iload_n dX2_behindStep_9 rfl rfl ?_
  by_cases g1 : a2 < 0 ∨ 60 ≤ a2.toNatClampNeg
  · rw [if_pos g1] at h; cases h
  replace h := z_iff g1 h
  refine g_iald (a := p + 18) dX2_behindStep_10 (shp_18 hp) g1 ?_
  by_cases s2 : M.1 (p + 18) a2.toNatClampNeg = (25 : Int32)
  · replace h := z_ift s2 h
    refine g_top (v := (25 : Int32)) s2 ?_
    refine g_tsIn (off := 33) (t := 44) dX2_behindStep_11 (by decide) (by decide) (by decide) ?_
    refine g_aload_n dX2_behindStep_44 rfl rfl ?_
    refine g_aload_n dX2_behindStep_45 rfl rfl ?_
    refine g_iload_n dX2_behindStep_46 rfl rfl ?_
    obtain ⟨q3, e4, h⟩ := z_bd h
    refine g_callV (a := l) (as := [.ref (p + 2), .int a2]) (rest := []) (c := mX2_holds) (k1 := 1) dX2_behindStep_47 rfl rfl rfl (shl_0 hl) rfl rfl (Nat.le_of_ble_eq_true rfl) (Nat.le_of_ble_eq_true rfl) (by decide) ?_
    refine A_X2_holds hl hp e4 ?_
    show z_G none 2 mX2_behindStep 50 [some (.ref (l + 2)), some (.ref (p + 2)), some (.int a2), some (.ref (p + 19))] [.int (z_tb q3.1)] q3.2 Q
    refine g_if_eq (t := 59) dX2_behindStep_50 (by decide) (fun c5 => ?_) (fun c5 => ?_)
    · replace h := z_iff (z_tb0.mp c5) h
      refine g_aload_n dX2_behindStep_59 rfl rfl ?_
      refine g_get (a := p + 17) (v := .ref (p + 24)) dX2_behindStep_60 f_2_87 (shp_17 hp) rfl rfl ?_
      refine g_iload_n dX2_behindStep_63 rfl rfl ?_
      by_cases g6 : a2 < 0 ∨ 60 ≤ a2.toNatClampNeg
      · rw [if_pos g6] at h; cases h
      replace h := z_iff g6 h
      refine g_iald (a := p + 22) dX2_behindStep_64 (shp_22 hp) g6 ?_
      refine g_iconst (v := (1 : Int32)) dX2_behindStep_65 (by decide) ?_
      refine g_iadd dX2_behindStep_66 ?_
      cases h
      exact g_iret dX2_behindStep_67 rfl rfl hq
    · replace h := z_ift (z_tbn.mp c5) h
      refine g_iload_n dX2_behindStep_53 rfl rfl ?_
      refine g_iconst (v := (1 : Int32)) dX2_behindStep_54 (by decide) ?_
      refine g_iadd dX2_behindStep_55 ?_
      refine g_goto (t := 67) dX2_behindStep_56 (by decide) ?_
      cases h
      exact g_iret dX2_behindStep_67 rfl rfl hq
  replace h := z_iff s2 h
  by_cases s7 : M.1 (p + 18) a2.toNatClampNeg = (26 : Int32)
  · replace h := z_ift s7 h
    refine g_top (v := (26 : Int32)) s7 ?_
    refine g_tsIn (off := 78) (t := 89) dX2_behindStep_11 (by decide) (by decide) (by decide) ?_
    refine g_iload_n dX2_behindStep_89 rfl rfl ?_
    refine g_iconst (v := (1 : Int32)) dX2_behindStep_90 (by decide) ?_
    refine g_iadd dX2_behindStep_91 ?_
    cases h
    exact g_iret dX2_behindStep_92 rfl rfl hq
  replace h := z_iff s7 h
  by_cases s8 : M.1 (p + 18) a2.toNatClampNeg = (27 : Int32)
  · replace h := z_ift s8 h
    refine g_top (v := (27 : Int32)) s8 ?_
    refine g_tsIn (off := 57) (t := 68) dX2_behindStep_11 (by decide) (by decide) (by decide) ?_
    refine g_aload_n dX2_behindStep_68 rfl rfl ?_
    refine g_get (a := l) (v := .ref (l + 3)) dX2_behindStep_69 f_2_9 (shl_0 hl) rfl rfl ?_
    refine g_iload_n dX2_behindStep_72 rfl rfl ?_
    refine g_aload_n dX2_behindStep_73 rfl rfl ?_
    refine g_get (a := p + 17) (v := .ref (p + 21)) dX2_behindStep_74 f_2_93 (shp_17 hp) rfl rfl ?_
    refine g_iload_n dX2_behindStep_77 rfl rfl ?_
    by_cases g9 : a2 < 0 ∨ 60 ≤ a2.toNatClampNeg
    · rw [if_pos g9] at h; cases h
    replace h := z_iff g9 h
    refine g_iald (a := p + 19) dX2_behindStep_78 (shp_19 hp) g9 ?_
    by_cases g10 : a2 < 0 ∨ 60 ≤ a2.toNatClampNeg
    · rw [if_pos g10] at h; cases h
    replace h := z_iff g10 h
    refine g_iast (a := l + 1) dX2_behindStep_79 (shl_1 hl) g10 ?_
    refine g_iload_n dX2_behindStep_80 rfl rfl ?_
    refine g_iconst (v := (1 : Int32)) dX2_behindStep_81 (by decide) ?_
    refine g_iadd dX2_behindStep_82 ?_
    cases h
    exact g_iret dX2_behindStep_83 rfl rfl hq
  replace h := z_iff s8 h
  by_cases s11 : M.1 (p + 18) a2.toNatClampNeg = (28 : Int32)
  · replace h := z_ift s11 h
    refine g_top (v := (28 : Int32)) s11 ?_
    refine g_tsIn (off := 78) (t := 89) dX2_behindStep_11 (by decide) (by decide) (by decide) ?_
    refine g_iload_n dX2_behindStep_89 rfl rfl ?_
    refine g_iconst (v := (1 : Int32)) dX2_behindStep_90 (by decide) ?_
    refine g_iadd dX2_behindStep_91 ?_
    cases h
    exact g_iret dX2_behindStep_92 rfl rfl hq
  replace h := z_iff s11 h
  by_cases s12 : M.1 (p + 18) a2.toNatClampNeg = (29 : Int32)
  · replace h := z_ift s12 h
    refine g_top (v := (29 : Int32)) s12 ?_
    refine g_tsIn (off := 73) (t := 84) dX2_behindStep_11 (by decide) (by decide) (by decide) ?_
    refine g_aload_n dX2_behindStep_84 rfl rfl ?_
    refine g_get (a := p + 17) (v := .int (M.1 (p + 17) 5)) dX2_behindStep_85 f_2_26 (shp_17 hp) rfl rfl ?_
    cases h
    exact g_iret dX2_behindStep_88 rfl rfl hq
  replace h := z_iff s12 h
  refine g_tsOut (t := 89) dX2_behindStep_11 (by have t0 := z_neL (n := 25) (by decide) s2; have t1 := z_neL (n := 26) (by decide) s7; have t2 := z_neL (n := 27) (by decide) s8; have t3 := z_neL (n := 28) (by decide) s11; have t4 := z_neL (n := 29) (by decide) s12; omega) (by decide) ?_
  refine g_iload_n dX2_behindStep_89 rfl rfl ?_
  refine g_iconst (v := (1 : Int32)) dX2_behindStep_90 (by decide) ?_
  refine g_iadd dX2_behindStep_91 ?_
  cases h
  exact g_iret dX2_behindStep_92 rfl rfl hq
theorem dX2_finish_0 : decode cX2_finish 0 = .ok (.aload_n 0, 1) := by decide +kernel
theorem dX2_finish_1 : decode cX2_finish 1 = .ok (.dup, 1) := by decide +kernel
theorem dX2_finish_2 : decode cX2_finish 2 = .ok (.getfield 70, 3) := by decide +kernel
theorem dX2_finish_5 : decode cX2_finish 5 = .ok (.aload_n 1, 1) := by decide +kernel
theorem dX2_finish_6 : decode cX2_finish 6 = .ok (.getfield 67, 3) := by decide +kernel
theorem dX2_finish_9 : decode cX2_finish 9 = .ok (.iadd, 1) := by decide +kernel
theorem dX2_finish_10 : decode cX2_finish 10 = .ok (.putfield 70, 3) := by decide +kernel
theorem dX2_finish_13 : decode cX2_finish 13 = .ok (.aload_n 0, 1) := by decide +kernel
theorem dX2_finish_14 : decode cX2_finish 14 = .ok (.dup, 1) := by decide +kernel
theorem dX2_finish_15 : decode cX2_finish 15 = .ok (.getfield 76, 3) := by decide +kernel
theorem dX2_finish_18 : decode cX2_finish 18 = .ok (.aload_n 1, 1) := by decide +kernel
theorem dX2_finish_19 : decode cX2_finish 19 = .ok (.getfield 73, 3) := by decide +kernel
theorem dX2_finish_22 : decode cX2_finish 22 = .ok (.iadd, 1) := by decide +kernel
theorem dX2_finish_23 : decode cX2_finish 23 = .ok (.putfield 76, 3) := by decide +kernel
theorem dX2_finish_26 : decode cX2_finish 26 = .ok (.aload_n 0, 1) := by decide +kernel
theorem dX2_finish_27 : decode cX2_finish 27 = .ok (.dup, 1) := by decide +kernel
theorem dX2_finish_28 : decode cX2_finish 28 = .ok (.getfield 86, 3) := by decide +kernel
theorem dX2_finish_31 : decode cX2_finish 31 = .ok (.aload_n 1, 1) := by decide +kernel
theorem dX2_finish_32 : decode cX2_finish 32 = .ok (.getfield 77, 3) := by decide +kernel
theorem dX2_finish_35 : decode cX2_finish 35 = .ok (.getfield 81, 3) := by decide +kernel
theorem dX2_finish_38 : decode cX2_finish 38 = .ok (.iadd, 1) := by decide +kernel
theorem dX2_finish_39 : decode cX2_finish 39 = .ok (.putfield 86, 3) := by decide +kernel
theorem dX2_finish_42 : decode cX2_finish 42 = .ok (.return_, 1) := by decide +kernel
def F_X2_finish (w : Nat) (M : z_Mem) (l : Nat) (p : Nat) : Option (Unit × z_Mem) :=
  some ((), (z_wI (z_wI (z_wI M l 4 ((M.1 l 4) + (M.1 p 10))) l 5 ((M.1 l 5) + ((z_wI M l 4 ((M.1 l 4) + (M.1 p 10))).1 p 11))) l 6 ((M.1 l 6) + ((z_wI (z_wI M l 4 ((M.1 l 4) + (M.1 p 10))) l 5 ((M.1 l 5) + ((z_wI M l 4 ((M.1 l 4) + (M.1 p 10))).1 p 11))).1 (p + 8) 4))))
set_option maxHeartbeats 4000000 in
theorem A_X2_finish {w : Nat} {M : z_Mem} {l : Nat} (hl : z_lif l) {p : Nat} (hp : z_par p) {r : Unit} {M' : z_Mem} {Q : Option Value → z_Mem → Prop} (h : F_X2_finish w M l p = some (r, M')) (hq : Q none M') : z_Cl 0 mX2_finish [.ref (l + 2), .ref (p + 2)] M Q := by
  refine g_in (ls := [some (.ref (l + 2)), some (.ref (p + 2))]) rfl ?_
  unfold F_X2_finish at h
  refine g_aload_n dX2_finish_0 rfl rfl ?_
  refine g_dup dX2_finish_1 rfl ?_
  refine g_get (a := l) (v := .int (M.1 l 4)) dX2_finish_2 f_2_70 (shl_0 hl) rfl rfl ?_
  refine g_aload_n dX2_finish_5 rfl rfl ?_
  refine g_get (a := p) (v := .int (M.1 p 10)) dX2_finish_6 f_2_67 (shp_0 hp) rfl rfl ?_
  refine g_iadd dX2_finish_9 ?_
  refine g_putI (a := l) dX2_finish_10 f_2_70 (shl_0 hl) rfl rfl rfl ?_
  refine g_aload_n dX2_finish_13 rfl rfl ?_
  refine g_dup dX2_finish_14 rfl ?_
  refine g_get (a := l) (v := .int (M.1 l 5)) dX2_finish_15 f_2_76 (shl_0 hl) rfl (by simp [z_fv, z_wI, z_wL, z_wLs, upd, vp_updL]) ?_
  refine g_aload_n dX2_finish_18 rfl rfl ?_
  refine g_get (a := p) (v := .int ((z_wI M l 4 ((M.1 l 4) + (M.1 p 10))).1 p 11)) dX2_finish_19 f_2_73 (shp_0 hp) rfl (by simp [z_fv, z_wI, z_wL, z_wLs, upd, vp_updL]) ?_
  refine g_iadd dX2_finish_22 ?_
  refine g_putI (a := l) dX2_finish_23 f_2_76 (shl_0 hl) rfl rfl rfl ?_
  refine g_aload_n dX2_finish_26 rfl rfl ?_
  refine g_dup dX2_finish_27 rfl ?_
  refine g_get (a := l) (v := .int (M.1 l 6)) dX2_finish_28 f_2_86 (shl_0 hl) rfl (by simp [z_fv, z_wI, z_wL, z_wLs, upd, vp_updL]) ?_
  refine g_aload_n dX2_finish_31 rfl rfl ?_
  refine g_get (a := p) (v := .ref (p + 10)) dX2_finish_32 f_2_77 (shp_0 hp) rfl rfl ?_
  refine g_get (a := p + 8) (v := .int ((z_wI (z_wI M l 4 ((M.1 l 4) + (M.1 p 10))) l 5 ((M.1 l 5) + ((z_wI M l 4 ((M.1 l 4) + (M.1 p 10))).1 p 11))).1 (p + 8) 4)) dX2_finish_35 f_2_81 (shp_8 hp) rfl (by simp [z_fv, z_wI, z_wL, z_wLs, upd, vp_updL]) ?_
  refine g_iadd dX2_finish_38 ?_
  refine g_putI (a := l) dX2_finish_39 f_2_86 (shl_0 hl) rfl rfl rfl ?_
  cases h
  exact g_vret dX2_finish_42 rfl hq
theorem dX2_run_0 : decode cX2_run 0 = .ok (.aload_n 1, 1) := by decide +kernel
theorem dX2_run_1 : decode cX2_run 1 = .ok (.getfield 15, 3) := by decide +kernel
theorem dX2_run_4 : decode cX2_run 4 = .ok (.astore_n 3, 1) := by decide +kernel
theorem dX2_run_5 : decode cX2_run 5 = .ok (.aload_n 0, 1) := by decide +kernel
theorem dX2_run_6 : decode cX2_run 6 = .ok (.aload_n 1, 1) := by decide +kernel
theorem dX2_run_7 : decode cX2_run 7 = .ok (.iload_n 2, 1) := by decide +kernel
theorem dX2_run_8 : decode cX2_run 8 = .ok (.invokevirtual 21, 3) := by decide +kernel
theorem dX2_run_11 : decode cX2_run 11 = .ok (.iconst 0, 1) := by decide +kernel
theorem dX2_run_12 : decode cX2_run 12 = .ok (.istore 4, 2) := by decide +kernel
theorem dX2_run_14 : decode cX2_run 14 = .ok (.iconst 0, 1) := by decide +kernel
theorem dX2_run_15 : decode cX2_run 15 = .ok (.istore 5, 2) := by decide +kernel
theorem dX2_run_17 : decode cX2_run 17 = .ok (.iload 5, 2) := by decide +kernel
theorem dX2_run_19 : decode cX2_run 19 = .ok (.ldc 25, 2) := by decide +kernel
theorem dX2_run_21 : decode cX2_run 21 = .ok (.if_icmp .ge 110, 3) := by decide +kernel
theorem dX2_run_24 : decode cX2_run 24 = .ok (.iload 4, 2) := by decide +kernel
theorem dX2_run_26 : decode cX2_run 26 = .ok (.aload_n 3, 1) := by decide +kernel
theorem dX2_run_27 : decode cX2_run 27 = .ok (.getfield 26, 3) := by decide +kernel
theorem dX2_run_30 : decode cX2_run 30 = .ok (.if_icmp .ge 101, 3) := by decide +kernel
theorem dX2_run_33 : decode cX2_run 33 = .ok (.aload_n 0, 1) := by decide +kernel
theorem dX2_run_34 : decode cX2_run 34 = .ok (.getfield 30, 3) := by decide +kernel
theorem dX2_run_37 : decode cX2_run 37 = .ok (.ifCond .ne 94, 3) := by decide +kernel
theorem dX2_run_40 : decode cX2_run 40 = .ok (.aload_n 3, 1) := by decide +kernel
theorem dX2_run_41 : decode cX2_run 41 = .ok (.getfield 33, 3) := by decide +kernel
theorem dX2_run_44 : decode cX2_run 44 = .ok (.iload 4, 2) := by decide +kernel
theorem dX2_run_46 : decode cX2_run 46 = .ok (.iaload, 1) := by decide +kernel
theorem dX2_run_47 : decode cX2_run 47 = .ok (.istore 6, 2) := by decide +kernel
theorem dX2_run_49 : decode cX2_run 49 = .ok (.iload 6, 2) := by decide +kernel
theorem dX2_run_51 : decode cX2_run 51 = .ok (.bipush 28, 2) := by decide +kernel
theorem dX2_run_53 : decode cX2_run 53 = .ok (.if_icmp .ne 15, 3) := by decide +kernel
theorem dX2_run_56 : decode cX2_run 56 = .ok (.aload_n 0, 1) := by decide +kernel
theorem dX2_run_57 : decode cX2_run 57 = .ok (.aload_n 3, 1) := by decide +kernel
theorem dX2_run_58 : decode cX2_run 58 = .ok (.iload 4, 2) := by decide +kernel
theorem dX2_run_60 : decode cX2_run 60 = .ok (.invokevirtual 38, 3) := by decide +kernel
theorem dX2_run_63 : decode cX2_run 63 = .ok (.istore 4, 2) := by decide +kernel
theorem dX2_run_65 : decode cX2_run 65 = .ok (.goto 60, 3) := by decide +kernel
theorem dX2_run_68 : decode cX2_run 68 = .ok (.aload_n 0, 1) := by decide +kernel
theorem dX2_run_69 : decode cX2_run 69 = .ok (.getfield 42, 3) := by decide +kernel
theorem dX2_run_72 : decode cX2_run 72 = .ok (.sipush 300, 3) := by decide +kernel
theorem dX2_run_75 : decode cX2_run 75 = .ok (.if_icmp .lt 11, 3) := by decide +kernel
theorem dX2_run_78 : decode cX2_run 78 = .ok (.aload_n 0, 1) := by decide +kernel
theorem dX2_run_79 : decode cX2_run 79 = .ok (.iconst 1, 1) := by decide +kernel
theorem dX2_run_80 : decode cX2_run 80 = .ok (.putfield 30, 3) := by decide +kernel
theorem dX2_run_83 : decode cX2_run 83 = .ok (.goto 42, 3) := by decide +kernel
theorem dX2_run_86 : decode cX2_run 86 = .ok (.aload_n 0, 1) := by decide +kernel
theorem dX2_run_87 : decode cX2_run 87 = .ok (.dup, 1) := by decide +kernel
theorem dX2_run_88 : decode cX2_run 88 = .ok (.getfield 42, 3) := by decide +kernel
theorem dX2_run_91 : decode cX2_run 91 = .ok (.iconst 1, 1) := by decide +kernel
theorem dX2_run_92 : decode cX2_run 92 = .ok (.iadd, 1) := by decide +kernel
theorem dX2_run_93 : decode cX2_run 93 = .ok (.putfield 42, 3) := by decide +kernel
theorem dX2_run_96 : decode cX2_run 96 = .ok (.aload_n 0, 1) := by decide +kernel
theorem dX2_run_97 : decode cX2_run 97 = .ok (.aload_n 1, 1) := by decide +kernel
theorem dX2_run_98 : decode cX2_run 98 = .ok (.iload 4, 2) := by decide +kernel
theorem dX2_run_100 : decode cX2_run 100 = .ok (.invokevirtual 45, 3) := by decide +kernel
theorem dX2_run_103 : decode cX2_run 103 = .ok (.ifCond .ne 13, 3) := by decide +kernel
theorem dX2_run_106 : decode cX2_run 106 = .ok (.aload_n 0, 1) := by decide +kernel
theorem dX2_run_107 : decode cX2_run 107 = .ok (.dup, 1) := by decide +kernel
theorem dX2_run_108 : decode cX2_run 108 = .ok (.getfield 49, 3) := by decide +kernel
theorem dX2_run_111 : decode cX2_run 111 = .ok (.iconst 1, 1) := by decide +kernel
theorem dX2_run_112 : decode cX2_run 112 = .ok (.iadd, 1) := by decide +kernel
theorem dX2_run_113 : decode cX2_run 113 = .ok (.putfield 49, 3) := by decide +kernel
theorem dX2_run_116 : decode cX2_run 116 = .ok (.aload_n 0, 1) := by decide +kernel
theorem dX2_run_117 : decode cX2_run 117 = .ok (.aload_n 1, 1) := by decide +kernel
theorem dX2_run_118 : decode cX2_run 118 = .ok (.iload 4, 2) := by decide +kernel
theorem dX2_run_120 : decode cX2_run 120 = .ok (.invokevirtual 52, 3) := by decide +kernel
theorem dX2_run_123 : decode cX2_run 123 = .ok (.istore 4, 2) := by decide +kernel
theorem dX2_run_125 : decode cX2_run 125 = .ok (.iinc 5 1, 3) := by decide +kernel
theorem dX2_run_128 : decode cX2_run 128 = .ok (.goto (-111), 3) := by decide +kernel
theorem dX2_run_131 : decode cX2_run 131 = .ok (.aload_n 0, 1) := by decide +kernel
theorem dX2_run_132 : decode cX2_run 132 = .ok (.aload_n 1, 1) := by decide +kernel
theorem dX2_run_133 : decode cX2_run 133 = .ok (.invokevirtual 56, 3) := by decide +kernel
theorem dX2_run_136 : decode cX2_run 136 = .ok (.return_, 1) := by decide +kernel
def L_X2_run (w : Nat) (l : Nat) (p : Nat) : Nat → z_Mem → Int32 → Int32 → Option (Unit × z_Mem)
  | 0, _, _, _ => none
  | c + 1, M, x4, x5 =>
    if (1000000 : Int32) ≤ x5 then
    (F_X2_finish w M l p).bind fun q2 =>
    some ((), q2.2)
    else
    if (M.1 (p + 17) 5) ≤ x4 then
    (F_X2_finish w M l p).bind fun q5 =>
    some ((), q5.2)
    else
    if (M.1 l 7) = (0 : Int32) then
    if x4 < 0 ∨ 60 ≤ x4.toNatClampNeg then none else
    if (M.1 (p + 18) x4.toNatClampNeg) = (28 : Int32) then
    (F_X2_behindEnd w M l p x4).bind fun q20 =>
    L_X2_run w l p c q20.2 q20.1 (x5 + (1 : Int32))
    else
    if (M.1 l 2) < (300 : Int32) then
    (F_X2_isDone w (z_wI M l 2 ((M.1 l 2) + (1 : Int32))) l p x4).bind fun q13 =>
    if q13.1 = true then
    (F_X2_behindStep w q13.2 l p x4).bind fun q16 =>
    L_X2_run w l p c q16.2 q16.1 (x5 + (1 : Int32))
    else
    (F_X2_behindStep w (z_wI q13.2 l 3 ((q13.2.1 l 3) + (1 : Int32))) l p x4).bind fun q18 =>
    L_X2_run w l p c q18.2 q18.1 (x5 + (1 : Int32))
    else
    L_X2_run w l p c (z_wI M l 7 (1 : Int32)) x4 (x5 + (1 : Int32))
    else
    (F_X2_finish w M l p).bind fun q8 =>
    some ((), q8.2)
set_option maxHeartbeats 4000000 in
theorem AL_X2_run {w : Nat} {l : Nat} (hl : z_lif l) {p : Nat} (hp : z_par p) : ∀ (c : Nat), (∀ (M : z_Mem) (x4 : Int32) (x5 : Int32) (r : Unit) (M' : z_Mem) (Q : Option Value → z_Mem → Prop), L_X2_run w l p c M x4 x5 = some (r, M') → Q none M' → z_G none 6 mX2_run 17 [some (.ref (l + 2)), some (.ref (p + 2)), none, some (.ref (p + 19)), some (.int x4), some (.int x5), none] [] M Q) := by
  intro c
  induction c with
  | zero => exact (fun M x4 x5 r M' Q h hq => by rw [L_X2_run] at h; cases h)
  | succ c ih =>
    intro M x4 x5 r M' Q h hq
    rw [L_X2_run] at h
    refine g_iload dX2_run_17 rfl ?_
    refine g_ldc dX2_run_19 rfl ?_
    refine g_ic_ge (t := 131) dX2_run_21 (by decide) (fun c1 => ?_) (fun c1 => ?_)
    · replace h := z_ift c1 h
      refine g_aload_n dX2_run_131 rfl rfl ?_
      refine g_aload_n dX2_run_132 rfl rfl ?_
      obtain ⟨q2, e3, h⟩ := z_bd h
      refine g_callV (a := l) (as := [.ref (p + 2)]) (rest := []) (c := mX2_finish) (k1 := 0) dX2_run_133 rfl rfl rfl (shl_0 hl) rfl rfl (Nat.le_of_ble_eq_true rfl) (Nat.le_of_ble_eq_true rfl) (by decide) ?_
      refine A_X2_finish hl hp e3 ?_
      show z_G none 6 mX2_run 136 [some (.ref (l + 2)), some (.ref (p + 2)), none, some (.ref (p + 19)), some (.int x4), some (.int x5), none] [] q2.2 Q
      cases h
      exact g_vret dX2_run_136 rfl hq
    · replace h := z_iff c1 h
      refine g_iload dX2_run_24 rfl ?_
      refine g_aload_n dX2_run_26 rfl rfl ?_
      refine g_get (a := p + 17) (v := .int (M.1 (p + 17) 5)) dX2_run_27 f_2_26 (shp_17 hp) rfl rfl ?_
      refine g_ic_ge (t := 131) dX2_run_30 (by decide) (fun c4 => ?_) (fun c4 => ?_)
      · replace h := z_ift c4 h
        refine g_aload_n dX2_run_131 rfl rfl ?_
        refine g_aload_n dX2_run_132 rfl rfl ?_
        obtain ⟨q5, e6, h⟩ := z_bd h
        refine g_callV (a := l) (as := [.ref (p + 2)]) (rest := []) (c := mX2_finish) (k1 := 0) dX2_run_133 rfl rfl rfl (shl_0 hl) rfl rfl (Nat.le_of_ble_eq_true rfl) (Nat.le_of_ble_eq_true rfl) (by decide) ?_
        refine A_X2_finish hl hp e6 ?_
        show z_G none 6 mX2_run 136 [some (.ref (l + 2)), some (.ref (p + 2)), none, some (.ref (p + 19)), some (.int x4), some (.int x5), none] [] q5.2 Q
        cases h
        exact g_vret dX2_run_136 rfl hq
      · replace h := z_iff c4 h
        refine g_aload_n dX2_run_33 rfl rfl ?_
        refine g_get (a := l) (v := .int (M.1 l 7)) dX2_run_34 f_2_30 (shl_0 hl) rfl rfl ?_
        refine g_if_ne (t := 131) dX2_run_37 (by decide) (fun c7 => ?_) (fun c7 => ?_)
        · replace h := z_iff c7 h
          refine g_aload_n dX2_run_131 rfl rfl ?_
          refine g_aload_n dX2_run_132 rfl rfl ?_
          obtain ⟨q8, e9, h⟩ := z_bd h
          refine g_callV (a := l) (as := [.ref (p + 2)]) (rest := []) (c := mX2_finish) (k1 := 0) dX2_run_133 rfl rfl rfl (shl_0 hl) rfl rfl (Nat.le_of_ble_eq_true rfl) (Nat.le_of_ble_eq_true rfl) (by decide) ?_
          refine A_X2_finish hl hp e9 ?_
          show z_G none 6 mX2_run 136 [some (.ref (l + 2)), some (.ref (p + 2)), none, some (.ref (p + 19)), some (.int x4), some (.int x5), none] [] q8.2 Q
          cases h
          exact g_vret dX2_run_136 rfl hq
        · replace h := z_ift c7 h
          refine g_aload_n dX2_run_40 rfl rfl ?_
          refine g_get (a := p + 17) (v := .ref (p + 20)) dX2_run_41 f_2_33 (shp_17 hp) rfl rfl ?_
          refine g_iload dX2_run_44 rfl ?_
          by_cases g10 : x4 < 0 ∨ 60 ≤ x4.toNatClampNeg
          · rw [if_pos g10] at h; cases h
          replace h := z_iff g10 h
          refine g_iald (a := p + 18) dX2_run_46 (shp_18 hp) g10 ?_
          refine g_istore (ls' := [some (.ref (l + 2)), some (.ref (p + 2)), none, some (.ref (p + 19)), some (.int x4), some (.int x5), some (.int (M.1 (p + 18) x4.toNatClampNeg))]) dX2_run_47 (Nat.le_of_ble_eq_true rfl) rfl ?_
          refine g_iload dX2_run_49 rfl ?_
          refine g_bipush (v := (28 : Int32)) dX2_run_51 (by decide) ?_
          refine g_ic_ne (t := 68) dX2_run_53 (by decide) (fun c11 => ?_) (fun c11 => ?_)
          · replace h := z_iff c11 h
            refine g_aload_n dX2_run_68 rfl rfl ?_
            refine g_get (a := l) (v := .int (M.1 l 2)) dX2_run_69 f_2_42 (shl_0 hl) rfl rfl ?_
            refine g_sipush (v := (300 : Int32)) dX2_run_72 (by decide) ?_
            refine g_ic_lt (t := 86) dX2_run_75 (by decide) (fun c12 => ?_) (fun c12 => ?_)
            · replace h := z_ift c12 h
              refine g_aload_n dX2_run_86 rfl rfl ?_
              refine g_dup dX2_run_87 rfl ?_
              refine g_get (a := l) (v := .int (M.1 l 2)) dX2_run_88 f_2_42 (shl_0 hl) rfl rfl ?_
              refine g_iconst (v := (1 : Int32)) dX2_run_91 (by decide) ?_
              refine g_iadd dX2_run_92 ?_
              refine g_putI (a := l) dX2_run_93 f_2_42 (shl_0 hl) rfl rfl rfl ?_
              refine g_aload_n dX2_run_96 rfl rfl ?_
              refine g_aload_n dX2_run_97 rfl rfl ?_
              refine g_iload dX2_run_98 rfl ?_
              obtain ⟨q13, e14, h⟩ := z_bd h
              refine g_callV (a := l) (as := [.ref (p + 2), .int x4]) (rest := []) (c := mX2_isDone) (k1 := 5) dX2_run_100 rfl rfl rfl (shl_0 hl) rfl rfl (Nat.le_of_ble_eq_true rfl) (Nat.le_of_ble_eq_true rfl) (by decide) ?_
              refine A_X2_isDone hl hp e14 ?_
              show z_G none 6 mX2_run 103 [some (.ref (l + 2)), some (.ref (p + 2)), none, some (.ref (p + 19)), some (.int x4), some (.int x5), some (.int (M.1 (p + 18) x4.toNatClampNeg))] [.int (z_tb q13.1)] q13.2 Q
              refine g_if_ne (t := 116) dX2_run_103 (by decide) (fun c15 => ?_) (fun c15 => ?_)
              · replace h := z_ift (z_tbn.mp c15) h
                refine g_aload_n dX2_run_116 rfl rfl ?_
                refine g_aload_n dX2_run_117 rfl rfl ?_
                refine g_iload dX2_run_118 rfl ?_
                obtain ⟨q16, e17, h⟩ := z_bd h
                refine g_callV (a := l) (as := [.ref (p + 2), .int x4]) (rest := []) (c := mX2_behindStep) (k1 := 2) dX2_run_120 rfl rfl rfl (shl_0 hl) rfl rfl (Nat.le_of_ble_eq_true rfl) (Nat.le_of_ble_eq_true rfl) (by decide) ?_
                refine A_X2_behindStep hl hp e17 ?_
                show z_G none 6 mX2_run 123 [some (.ref (l + 2)), some (.ref (p + 2)), none, some (.ref (p + 19)), some (.int x4), some (.int x5), some (.int (M.1 (p + 18) x4.toNatClampNeg))] [.int q16.1] q16.2 Q
                refine g_istore (ls' := [some (.ref (l + 2)), some (.ref (p + 2)), none, some (.ref (p + 19)), some (.int q16.1), some (.int x5), some (.int (M.1 (p + 18) x4.toNatClampNeg))]) dX2_run_123 (Nat.le_of_ble_eq_true rfl) rfl ?_
                refine g_iinc (v := x5 + (1 : Int32)) (ls' := [some (.ref (l + 2)), some (.ref (p + 2)), none, some (.ref (p + 19)), some (.int q16.1), some (.int (x5 + (1 : Int32))), some (.int (M.1 (p + 18) x4.toNatClampNeg))]) dX2_run_125 rfl rfl rfl ?_
                refine g_goto (t := 17) dX2_run_128 (by decide) ?_
                exact g_sub (z_sub_s (z_sub_s (z_sub_n (z_sub_s (z_sub_s (z_sub_s (z_sub_n z_sub_nil))))))) (ih _ _ _ _ _ _ h hq)
              · replace h := z_iff (z_tb0.mp c15) h
                refine g_aload_n dX2_run_106 rfl rfl ?_
                refine g_dup dX2_run_107 rfl ?_
                refine g_get (a := l) (v := .int (q13.2.1 l 3)) dX2_run_108 f_2_49 (shl_0 hl) rfl rfl ?_
                refine g_iconst (v := (1 : Int32)) dX2_run_111 (by decide) ?_
                refine g_iadd dX2_run_112 ?_
                refine g_putI (a := l) dX2_run_113 f_2_49 (shl_0 hl) rfl rfl rfl ?_
                refine g_aload_n dX2_run_116 rfl rfl ?_
                refine g_aload_n dX2_run_117 rfl rfl ?_
                refine g_iload dX2_run_118 rfl ?_
                obtain ⟨q18, e19, h⟩ := z_bd h
                refine g_callV (a := l) (as := [.ref (p + 2), .int x4]) (rest := []) (c := mX2_behindStep) (k1 := 2) dX2_run_120 rfl rfl rfl (shl_0 hl) rfl rfl (Nat.le_of_ble_eq_true rfl) (Nat.le_of_ble_eq_true rfl) (by decide) ?_
                refine A_X2_behindStep hl hp e19 ?_
                show z_G none 6 mX2_run 123 [some (.ref (l + 2)), some (.ref (p + 2)), none, some (.ref (p + 19)), some (.int x4), some (.int x5), some (.int (M.1 (p + 18) x4.toNatClampNeg))] [.int q18.1] q18.2 Q
                refine g_istore (ls' := [some (.ref (l + 2)), some (.ref (p + 2)), none, some (.ref (p + 19)), some (.int q18.1), some (.int x5), some (.int (M.1 (p + 18) x4.toNatClampNeg))]) dX2_run_123 (Nat.le_of_ble_eq_true rfl) rfl ?_
                refine g_iinc (v := x5 + (1 : Int32)) (ls' := [some (.ref (l + 2)), some (.ref (p + 2)), none, some (.ref (p + 19)), some (.int q18.1), some (.int (x5 + (1 : Int32))), some (.int (M.1 (p + 18) x4.toNatClampNeg))]) dX2_run_125 rfl rfl rfl ?_
                refine g_goto (t := 17) dX2_run_128 (by decide) ?_
                exact g_sub (z_sub_s (z_sub_s (z_sub_n (z_sub_s (z_sub_s (z_sub_s (z_sub_n z_sub_nil))))))) (ih _ _ _ _ _ _ h hq)
            · replace h := z_iff c12 h
              refine g_aload_n dX2_run_78 rfl rfl ?_
              refine g_iconst (v := (1 : Int32)) dX2_run_79 (by decide) ?_
              refine g_putI (a := l) dX2_run_80 f_2_30 (shl_0 hl) rfl rfl rfl ?_
              refine g_goto (t := 125) dX2_run_83 (by decide) ?_
              refine g_iinc (v := x5 + (1 : Int32)) (ls' := [some (.ref (l + 2)), some (.ref (p + 2)), none, some (.ref (p + 19)), some (.int x4), some (.int (x5 + (1 : Int32))), some (.int (M.1 (p + 18) x4.toNatClampNeg))]) dX2_run_125 rfl rfl rfl ?_
              refine g_goto (t := 17) dX2_run_128 (by decide) ?_
              exact g_sub (z_sub_s (z_sub_s (z_sub_n (z_sub_s (z_sub_s (z_sub_s (z_sub_n z_sub_nil))))))) (ih _ _ _ _ _ _ h hq)
          · replace h := z_ift c11 h
            refine g_aload_n dX2_run_56 rfl rfl ?_
            refine g_aload_n dX2_run_57 rfl rfl ?_
            refine g_iload dX2_run_58 rfl ?_
            obtain ⟨q20, e21, h⟩ := z_bd h
            refine g_callV (a := l) (as := [.ref (p + 19), .int x4]) (rest := []) (c := mX2_behindEnd) (k1 := 0) dX2_run_60 rfl rfl rfl (shl_0 hl) rfl rfl (Nat.le_of_ble_eq_true rfl) (Nat.le_of_ble_eq_true rfl) (by decide) ?_
            refine A_X2_behindEnd hl hp e21 ?_
            show z_G none 6 mX2_run 63 [some (.ref (l + 2)), some (.ref (p + 2)), none, some (.ref (p + 19)), some (.int x4), some (.int x5), some (.int (M.1 (p + 18) x4.toNatClampNeg))] [.int q20.1] q20.2 Q
            refine g_istore (ls' := [some (.ref (l + 2)), some (.ref (p + 2)), none, some (.ref (p + 19)), some (.int q20.1), some (.int x5), some (.int (M.1 (p + 18) x4.toNatClampNeg))]) dX2_run_63 (Nat.le_of_ble_eq_true rfl) rfl ?_
            refine g_goto (t := 125) dX2_run_65 (by decide) ?_
            refine g_iinc (v := x5 + (1 : Int32)) (ls' := [some (.ref (l + 2)), some (.ref (p + 2)), none, some (.ref (p + 19)), some (.int q20.1), some (.int (x5 + (1 : Int32))), some (.int (M.1 (p + 18) x4.toNatClampNeg))]) dX2_run_125 rfl rfl rfl ?_
            refine g_goto (t := 17) dX2_run_128 (by decide) ?_
            exact g_sub (z_sub_s (z_sub_s (z_sub_n (z_sub_s (z_sub_s (z_sub_s (z_sub_n z_sub_nil))))))) (ih _ _ _ _ _ _ h hq)
def F_X2_run (w : Nat) (M : z_Mem) (l : Nat) (p : Nat) (a2 : Int32) : Option (Unit × z_Mem) :=
  (F_X2_begin w M l p a2).bind fun q22 =>
  L_X2_run w l p w q22.2 (0 : Int32) (0 : Int32)
set_option maxHeartbeats 4000000 in
theorem A_X2_run {w : Nat} {M : z_Mem} {l : Nat} (hl : z_lif l) {p : Nat} (hp : z_par p) {a2 : Int32} {r : Unit} {M' : z_Mem} {Q : Option Value → z_Mem → Prop} (h : F_X2_run w M l p a2 = some (r, M')) (hq : Q none M') : z_Cl 6 mX2_run [.ref (l + 2), .ref (p + 2), .int a2] M Q := by
  refine g_in (ls := [some (.ref (l + 2)), some (.ref (p + 2)), some (.int a2), none, none, none, none]) rfl ?_
  unfold F_X2_run at h
  refine g_aload_n dX2_run_0 rfl rfl ?_
  refine g_get (a := p) (v := .ref (p + 19)) dX2_run_1 f_2_15 (shp_0 hp) rfl rfl ?_
  refine g_astore_n (ls' := [some (.ref (l + 2)), some (.ref (p + 2)), some (.int a2), some (.ref (p + 19)), none, none, none]) dX2_run_4 rfl (Nat.le_of_ble_eq_true rfl) rfl ?_
  refine g_aload_n dX2_run_5 rfl rfl ?_
  refine g_aload_n dX2_run_6 rfl rfl ?_
  refine g_iload_n dX2_run_7 rfl rfl ?_
  obtain ⟨q22, e23, h⟩ := z_bd h
  refine g_callV (a := l) (as := [.ref (p + 2), .int a2]) (rest := []) (c := mX2_begin) (k1 := 0) dX2_run_8 rfl rfl rfl (shl_0 hl) rfl rfl (Nat.le_of_ble_eq_true rfl) (Nat.le_of_ble_eq_true rfl) (by decide) ?_
  refine A_X2_begin hl hp e23 ?_
  show z_G none 6 mX2_run 11 [some (.ref (l + 2)), some (.ref (p + 2)), some (.int a2), some (.ref (p + 19)), none, none, none] [] q22.2 Q
  refine g_iconst (v := (0 : Int32)) dX2_run_11 (by decide) ?_
  refine g_istore (ls' := [some (.ref (l + 2)), some (.ref (p + 2)), some (.int a2), some (.ref (p + 19)), some (.int (0 : Int32)), none, none]) dX2_run_12 (Nat.le_of_ble_eq_true rfl) rfl ?_
  refine g_iconst (v := (0 : Int32)) dX2_run_14 (by decide) ?_
  refine g_istore (ls' := [some (.ref (l + 2)), some (.ref (p + 2)), some (.int a2), some (.ref (p + 19)), some (.int (0 : Int32)), some (.int (0 : Int32)), none]) dX2_run_15 (Nat.le_of_ble_eq_true rfl) rfl ?_
  exact g_sub (z_sub_s (z_sub_s (z_sub_n (z_sub_s (z_sub_s (z_sub_s (z_sub_n z_sub_nil))))))) ((AL_X2_run (w := w) hl hp w) _ _ _ _ _ _ h hq)
theorem dX9_beginAnew_0 : decode cX9_beginAnew 0 = .ok (.aload_n 0, 1) := by decide +kernel
theorem dX9_beginAnew_1 : decode cX9_beginAnew 1 = .ok (.iconst 0, 1) := by decide +kernel
theorem dX9_beginAnew_2 : decode cX9_beginAnew 2 = .ok (.putfield 25, 3) := by decide +kernel
theorem dX9_beginAnew_5 : decode cX9_beginAnew 5 = .ok (.aload_n 0, 1) := by decide +kernel
theorem dX9_beginAnew_6 : decode cX9_beginAnew 6 = .ok (.iconst 0, 1) := by decide +kernel
theorem dX9_beginAnew_7 : decode cX9_beginAnew 7 = .ok (.putfield 29, 3) := by decide +kernel
theorem dX9_beginAnew_10 : decode cX9_beginAnew 10 = .ok (.aload_n 0, 1) := by decide +kernel
theorem dX9_beginAnew_11 : decode cX9_beginAnew 11 = .ok (.iconst 0, 1) := by decide +kernel
theorem dX9_beginAnew_12 : decode cX9_beginAnew 12 = .ok (.putfield 32, 3) := by decide +kernel
theorem dX9_beginAnew_15 : decode cX9_beginAnew 15 = .ok (.return_, 1) := by decide +kernel
def F_X9_beginAnew (w : Nat) (M : z_Mem) (p : Nat) : Option (Unit × z_Mem) :=
  some ((), (z_wI (z_wI (z_wI M (p + 17) 5 (0 : Int32)) (p + 17) 6 (0 : Int32)) (p + 17) 7 (0 : Int32)))
set_option maxHeartbeats 4000000 in
theorem A_X9_beginAnew {w : Nat} {M : z_Mem} {p : Nat} (hp : z_par p) {r : Unit} {M' : z_Mem} {Q : Option Value → z_Mem → Prop} (h : F_X9_beginAnew w M p = some (r, M')) (hq : Q none M') : z_Cl 0 mX9_beginAnew [.ref (p + 19)] M Q := by
  refine g_in (ls := [some (.ref (p + 19))]) rfl ?_
  unfold F_X9_beginAnew at h
  refine g_aload_n dX9_beginAnew_0 rfl rfl ?_
  refine g_iconst (v := (0 : Int32)) dX9_beginAnew_1 (by decide) ?_
  refine g_putI (a := p + 17) dX9_beginAnew_2 f_9_25 (shp_17 hp) rfl rfl rfl ?_
  refine g_aload_n dX9_beginAnew_5 rfl rfl ?_
  refine g_iconst (v := (0 : Int32)) dX9_beginAnew_6 (by decide) ?_
  refine g_putI (a := p + 17) dX9_beginAnew_7 f_9_29 (shp_17 hp) rfl rfl rfl ?_
  refine g_aload_n dX9_beginAnew_10 rfl rfl ?_
  refine g_iconst (v := (0 : Int32)) dX9_beginAnew_11 (by decide) ?_
  refine g_putZ (a := p + 17) dX9_beginAnew_12 f_9_32 (shp_17 hp) rfl rfl rfl (by first | exact Or.inl rfl | exact Or.inr rfl | exact z_tb01) ?_
  cases h
  exact g_vret dX9_beginAnew_15 rfl hq
theorem dX3_lieEver_0 : decode cX3_lieEver 0 = .ok (.aload_n 0, 1) := by decide +kernel
theorem dX3_lieEver_1 : decode cX3_lieEver 1 = .ok (.iload_n 1, 1) := by decide +kernel
theorem dX3_lieEver_2 : decode cX3_lieEver 2 = .ok (.putfield 75, 3) := by decide +kernel
theorem dX3_lieEver_5 : decode cX3_lieEver 5 = .ok (.aload_n 0, 1) := by decide +kernel
theorem dX3_lieEver_6 : decode cX3_lieEver 6 = .ok (.iload_n 1, 1) := by decide +kernel
theorem dX3_lieEver_7 : decode cX3_lieEver 7 = .ok (.iconst 1, 1) := by decide +kernel
theorem dX3_lieEver_8 : decode cX3_lieEver 8 = .ok (.if_icmp .ne 8, 3) := by decide +kernel
theorem dX3_lieEver_11 : decode cX3_lieEver 11 = .ok (.bipush 63, 2) := by decide +kernel
theorem dX3_lieEver_13 : decode cX3_lieEver 13 = .ok (.goto 4, 3) := by decide +kernel
theorem dX3_lieEver_16 : decode cX3_lieEver 16 = .ok (.iconst 0, 1) := by decide +kernel
theorem dX3_lieEver_17 : decode cX3_lieEver 17 = .ok (.putfield 78, 3) := by decide +kernel
theorem dX3_lieEver_20 : decode cX3_lieEver 20 = .ok (.return_, 1) := by decide +kernel
def F_X3_lieEver (w : Nat) (M : z_Mem) (p : Nat) (a1 : Int32) : Option (Unit × z_Mem) :=
  if a1 = (1 : Int32) then
  some ((), (z_wI (z_wI M p 8 a1) p 9 (63 : Int32)))
  else
  some ((), (z_wI (z_wI M p 8 a1) p 9 (0 : Int32)))
set_option maxHeartbeats 4000000 in
theorem A_X3_lieEver {w : Nat} {M : z_Mem} {p : Nat} (hp : z_par p) {a1 : Int32} {r : Unit} {M' : z_Mem} {Q : Option Value → z_Mem → Prop} (h : F_X3_lieEver w M p a1 = some (r, M')) (hq : Q none M') : z_Cl 0 mX3_lieEver [.ref (p + 2), .int a1] M Q := by
  refine g_in (ls := [some (.ref (p + 2)), some (.int a1)]) rfl ?_
  unfold F_X3_lieEver at h
  refine g_aload_n dX3_lieEver_0 rfl rfl ?_
  refine g_iload_n dX3_lieEver_1 rfl rfl ?_
  refine g_putI (a := p) dX3_lieEver_2 f_3_75 (shp_0 hp) rfl rfl rfl ?_
  refine g_aload_n dX3_lieEver_5 rfl rfl ?_
  refine g_iload_n dX3_lieEver_6 rfl rfl ?_
  refine g_iconst (v := (1 : Int32)) dX3_lieEver_7 (by decide) ?_
  refine g_ic_ne (t := 16) dX3_lieEver_8 (by decide) (fun c1 => ?_) (fun c1 => ?_)
  · replace h := z_iff c1 h
    refine g_iconst (v := (0 : Int32)) dX3_lieEver_16 (by decide) ?_
    refine g_putI (a := p) dX3_lieEver_17 f_3_78 (shp_0 hp) rfl rfl rfl ?_
    cases h
    exact g_vret dX3_lieEver_20 rfl hq
  · replace h := z_ift c1 h
    refine g_bipush (v := (63 : Int32)) dX3_lieEver_11 (by decide) ?_
    refine g_goto (t := 17) dX3_lieEver_13 (by decide) ?_
    refine g_putI (a := p) dX3_lieEver_17 f_3_78 (shp_0 hp) rfl rfl rfl ?_
    cases h
    exact g_vret dX3_lieEver_20 rfl hq
theorem dX3_beginAnew_0 : decode cX3_beginAnew 0 = .ok (.aload_n 0, 1) := by decide +kernel
theorem dX3_beginAnew_1 : decode cX3_beginAnew 1 = .ok (.getfield 9, 3) := by decide +kernel
theorem dX3_beginAnew_4 : decode cX3_beginAnew 4 = .ok (.iconst 0, 1) := by decide +kernel
theorem dX3_beginAnew_5 : decode cX3_beginAnew 5 = .ok (.iconst 0, 1) := by decide +kernel
theorem dX3_beginAnew_6 : decode cX3_beginAnew 6 = .ok (.iastore, 1) := by decide +kernel
theorem dX3_beginAnew_7 : decode cX3_beginAnew 7 = .ok (.aload_n 0, 1) := by decide +kernel
theorem dX3_beginAnew_8 : decode cX3_beginAnew 8 = .ok (.getfield 9, 3) := by decide +kernel
theorem dX3_beginAnew_11 : decode cX3_beginAnew 11 = .ok (.iconst 1, 1) := by decide +kernel
theorem dX3_beginAnew_12 : decode cX3_beginAnew 12 = .ok (.iconst 0, 1) := by decide +kernel
theorem dX3_beginAnew_13 : decode cX3_beginAnew 13 = .ok (.iastore, 1) := by decide +kernel
theorem dX3_beginAnew_14 : decode cX3_beginAnew 14 = .ok (.aload_n 0, 1) := by decide +kernel
theorem dX3_beginAnew_15 : decode cX3_beginAnew 15 = .ok (.getfield 18, 3) := by decide +kernel
theorem dX3_beginAnew_18 : decode cX3_beginAnew 18 = .ok (.iconst 0, 1) := by decide +kernel
theorem dX3_beginAnew_19 : decode cX3_beginAnew 19 = .ok (.putfield 46, 3) := by decide +kernel
theorem dX3_beginAnew_22 : decode cX3_beginAnew 22 = .ok (.aload_n 0, 1) := by decide +kernel
theorem dX3_beginAnew_23 : decode cX3_beginAnew 23 = .ok (.getfield 25, 3) := by decide +kernel
theorem dX3_beginAnew_26 : decode cX3_beginAnew 26 = .ok (.iconst 0, 1) := by decide +kernel
theorem dX3_beginAnew_27 : decode cX3_beginAnew 27 = .ok (.putfield 50, 3) := by decide +kernel
theorem dX3_beginAnew_30 : decode cX3_beginAnew 30 = .ok (.aload_n 0, 1) := by decide +kernel
theorem dX3_beginAnew_31 : decode cX3_beginAnew 31 = .ok (.getfield 25, 3) := by decide +kernel
theorem dX3_beginAnew_34 : decode cX3_beginAnew 34 = .ok (.iconst 0, 1) := by decide +kernel
theorem dX3_beginAnew_35 : decode cX3_beginAnew 35 = .ok (.putfield 51, 3) := by decide +kernel
theorem dX3_beginAnew_38 : decode cX3_beginAnew 38 = .ok (.aload_n 0, 1) := by decide +kernel
theorem dX3_beginAnew_39 : decode cX3_beginAnew 39 = .ok (.getfield 32, 3) := by decide +kernel
theorem dX3_beginAnew_42 : decode cX3_beginAnew 42 = .ok (.invokevirtual 54, 3) := by decide +kernel
theorem dX3_beginAnew_45 : decode cX3_beginAnew 45 = .ok (.aload_n 0, 1) := by decide +kernel
theorem dX3_beginAnew_46 : decode cX3_beginAnew 46 = .ok (.getfield 39, 3) := by decide +kernel
theorem dX3_beginAnew_49 : decode cX3_beginAnew 49 = .ok (.invokevirtual 55, 3) := by decide +kernel
theorem dX3_beginAnew_52 : decode cX3_beginAnew 52 = .ok (.aload_n 0, 1) := by decide +kernel
theorem dX3_beginAnew_53 : decode cX3_beginAnew 53 = .ok (.bipush 8, 2) := by decide +kernel
theorem dX3_beginAnew_55 : decode cX3_beginAnew 55 = .ok (.putfield 56, 3) := by decide +kernel
theorem dX3_beginAnew_58 : decode cX3_beginAnew 58 = .ok (.aload_n 0, 1) := by decide +kernel
theorem dX3_beginAnew_59 : decode cX3_beginAnew 59 = .ok (.iconst 2, 1) := by decide +kernel
theorem dX3_beginAnew_60 : decode cX3_beginAnew 60 = .ok (.putfield 59, 3) := by decide +kernel
theorem dX3_beginAnew_63 : decode cX3_beginAnew 63 = .ok (.aload_n 0, 1) := by decide +kernel
theorem dX3_beginAnew_64 : decode cX3_beginAnew 64 = .ok (.iconst 5, 1) := by decide +kernel
theorem dX3_beginAnew_65 : decode cX3_beginAnew 65 = .ok (.putfield 62, 3) := by decide +kernel
theorem dX3_beginAnew_68 : decode cX3_beginAnew 68 = .ok (.aload_n 0, 1) := by decide +kernel
theorem dX3_beginAnew_69 : decode cX3_beginAnew 69 = .ok (.iconst 0, 1) := by decide +kernel
theorem dX3_beginAnew_70 : decode cX3_beginAnew 70 = .ok (.putfield 65, 3) := by decide +kernel
theorem dX3_beginAnew_73 : decode cX3_beginAnew 73 = .ok (.aload_n 0, 1) := by decide +kernel
theorem dX3_beginAnew_74 : decode cX3_beginAnew 74 = .ok (.iconst 0, 1) := by decide +kernel
theorem dX3_beginAnew_75 : decode cX3_beginAnew 75 = .ok (.putfield 68, 3) := by decide +kernel
theorem dX3_beginAnew_78 : decode cX3_beginAnew 78 = .ok (.aload_n 0, 1) := by decide +kernel
theorem dX3_beginAnew_79 : decode cX3_beginAnew 79 = .ok (.iconst 0, 1) := by decide +kernel
theorem dX3_beginAnew_80 : decode cX3_beginAnew 80 = .ok (.invokevirtual 71, 3) := by decide +kernel
theorem dX3_beginAnew_83 : decode cX3_beginAnew 83 = .ok (.return_, 1) := by decide +kernel
def F_X3_beginAnew (w : Nat) (M : z_Mem) (p : Nat) : Option (Unit × z_Mem) :=
  (F_X0_beginAnew w (z_wI (z_wI (z_wI (z_wI (z_wI M (p + 1) 0 (0 : Int32)) (p + 1) 1 (0 : Int32)) (p + 2) 5 (0 : Int32)) (p + 8) 3 (0 : Int32)) (p + 8) 4 (0 : Int32)) p).bind fun q1 =>
  (F_X9_beginAnew w q1.2 p).bind fun q3 =>
  (F_X3_lieEver w (z_wI (z_wI (z_wI (z_wI (z_wI q3.2 p 5 (8 : Int32)) p 6 (2 : Int32)) p 7 (5 : Int32)) p 10 (0 : Int32)) p 11 (0 : Int32)) p (0 : Int32)).bind fun q5 =>
  some ((), q5.2)
set_option maxHeartbeats 4000000 in
theorem A_X3_beginAnew {w : Nat} {M : z_Mem} {p : Nat} (hp : z_par p) {r : Unit} {M' : z_Mem} {Q : Option Value → z_Mem → Prop} (h : F_X3_beginAnew w M p = some (r, M')) (hq : Q none M') : z_Cl 1 mX3_beginAnew [.ref (p + 2)] M Q := by
  refine g_in (ls := [some (.ref (p + 2))]) rfl ?_
  unfold F_X3_beginAnew at h
  refine g_aload_n dX3_beginAnew_0 rfl rfl ?_
  refine g_get (a := p) (v := .ref (p + 3)) dX3_beginAnew_1 f_3_9 (shp_0 hp) rfl rfl ?_
  refine g_iconst (v := (0 : Int32)) dX3_beginAnew_4 (by decide) ?_
  refine g_iconst (v := (0 : Int32)) dX3_beginAnew_5 (by decide) ?_
  refine g_iasN (a := p + 1) (j := 0) dX3_beginAnew_6 (shp_1 hp) rfl (by decide) ?_
  refine g_aload_n dX3_beginAnew_7 rfl rfl ?_
  refine g_get (a := p) (v := .ref (p + 3)) dX3_beginAnew_8 f_3_9 (shp_0 hp) rfl rfl ?_
  refine g_iconst (v := (1 : Int32)) dX3_beginAnew_11 (by decide) ?_
  refine g_iconst (v := (0 : Int32)) dX3_beginAnew_12 (by decide) ?_
  refine g_iasN (a := p + 1) (j := 1) dX3_beginAnew_13 (shp_1 hp) rfl (by decide) ?_
  refine g_aload_n dX3_beginAnew_14 rfl rfl ?_
  refine g_get (a := p) (v := .ref (p + 4)) dX3_beginAnew_15 f_3_18 (shp_0 hp) rfl rfl ?_
  refine g_iconst (v := (0 : Int32)) dX3_beginAnew_18 (by decide) ?_
  refine g_putI (a := p + 2) dX3_beginAnew_19 f_3_46 (shp_2 hp) rfl rfl rfl ?_
  refine g_aload_n dX3_beginAnew_22 rfl rfl ?_
  refine g_get (a := p) (v := .ref (p + 10)) dX3_beginAnew_23 f_3_25 (shp_0 hp) rfl rfl ?_
  refine g_iconst (v := (0 : Int32)) dX3_beginAnew_26 (by decide) ?_
  refine g_putI (a := p + 8) dX3_beginAnew_27 f_3_50 (shp_8 hp) rfl rfl rfl ?_
  refine g_aload_n dX3_beginAnew_30 rfl rfl ?_
  refine g_get (a := p) (v := .ref (p + 10)) dX3_beginAnew_31 f_3_25 (shp_0 hp) rfl rfl ?_
  refine g_iconst (v := (0 : Int32)) dX3_beginAnew_34 (by decide) ?_
  refine g_putI (a := p + 8) dX3_beginAnew_35 f_3_51 (shp_8 hp) rfl rfl rfl ?_
  refine g_aload_n dX3_beginAnew_38 rfl rfl ?_
  refine g_get (a := p) (v := .ref (p + 14)) dX3_beginAnew_39 f_3_32 (shp_0 hp) rfl rfl ?_
  obtain ⟨q1, e2, h⟩ := z_bd h
  refine g_callV (a := p + 12) (as := []) (rest := []) (c := mX0_beginAnew) (k1 := 0) dX3_beginAnew_42 rfl rfl rfl (shp_12 hp) rfl rfl (Nat.le_of_ble_eq_true rfl) (Nat.le_of_ble_eq_true rfl) (by decide) ?_
  refine A_X0_beginAnew hp e2 ?_
  show z_G none 1 mX3_beginAnew 45 [some (.ref (p + 2))] [] q1.2 Q
  refine g_aload_n dX3_beginAnew_45 rfl rfl ?_
  refine g_get (a := p) (v := .ref (p + 19)) dX3_beginAnew_46 f_3_39 (shp_0 hp) rfl rfl ?_
  obtain ⟨q3, e4, h⟩ := z_bd h
  refine g_callV (a := p + 17) (as := []) (rest := []) (c := mX9_beginAnew) (k1 := 0) dX3_beginAnew_49 rfl rfl rfl (shp_17 hp) rfl rfl (Nat.le_of_ble_eq_true rfl) (Nat.le_of_ble_eq_true rfl) (by decide) ?_
  refine A_X9_beginAnew hp e4 ?_
  show z_G none 1 mX3_beginAnew 52 [some (.ref (p + 2))] [] q3.2 Q
  refine g_aload_n dX3_beginAnew_52 rfl rfl ?_
  refine g_bipush (v := (8 : Int32)) dX3_beginAnew_53 (by decide) ?_
  refine g_putI (a := p) dX3_beginAnew_55 f_3_56 (shp_0 hp) rfl rfl rfl ?_
  refine g_aload_n dX3_beginAnew_58 rfl rfl ?_
  refine g_iconst (v := (2 : Int32)) dX3_beginAnew_59 (by decide) ?_
  refine g_putI (a := p) dX3_beginAnew_60 f_3_59 (shp_0 hp) rfl rfl rfl ?_
  refine g_aload_n dX3_beginAnew_63 rfl rfl ?_
  refine g_iconst (v := (5 : Int32)) dX3_beginAnew_64 (by decide) ?_
  refine g_putI (a := p) dX3_beginAnew_65 f_3_62 (shp_0 hp) rfl rfl rfl ?_
  refine g_aload_n dX3_beginAnew_68 rfl rfl ?_
  refine g_iconst (v := (0 : Int32)) dX3_beginAnew_69 (by decide) ?_
  refine g_putI (a := p) dX3_beginAnew_70 f_3_65 (shp_0 hp) rfl rfl rfl ?_
  refine g_aload_n dX3_beginAnew_73 rfl rfl ?_
  refine g_iconst (v := (0 : Int32)) dX3_beginAnew_74 (by decide) ?_
  refine g_putI (a := p) dX3_beginAnew_75 f_3_68 (shp_0 hp) rfl rfl rfl ?_
  refine g_aload_n dX3_beginAnew_78 rfl rfl ?_
  refine g_iconst (v := (0 : Int32)) dX3_beginAnew_79 (by decide) ?_
  obtain ⟨q5, e6, h⟩ := z_bd h
  refine g_callV (a := p) (as := [.int (0 : Int32)]) (rest := []) (c := mX3_lieEver) (k1 := 0) dX3_beginAnew_80 rfl rfl rfl (shp_0 hp) rfl rfl (Nat.le_of_ble_eq_true rfl) (Nat.le_of_ble_eq_true rfl) (by decide) ?_
  refine A_X3_lieEver hp e6 ?_
  show z_G none 1 mX3_beginAnew 83 [some (.ref (p + 2))] [] q5.2 Q
  cases h
  exact g_vret dX3_beginAnew_83 rfl hq
theorem dX3_setRule_0 : decode cX3_setRule 0 = .ok (.iload_n 1, 1) := by decide +kernel
theorem dX3_setRule_1 : decode cX3_setRule 1 = .ok (.ifCond .ne 11, 3) := by decide +kernel
theorem dX3_setRule_4 : decode cX3_setRule 4 = .ok (.aload_n 0, 1) := by decide +kernel
theorem dX3_setRule_5 : decode cX3_setRule 5 = .ok (.iload_n 2, 1) := by decide +kernel
theorem dX3_setRule_6 : decode cX3_setRule 6 = .ok (.putfield 56, 3) := by decide +kernel
theorem dX3_setRule_9 : decode cX3_setRule 9 = .ok (.goto 21, 3) := by decide +kernel
theorem dX3_setRule_12 : decode cX3_setRule 12 = .ok (.iload_n 1, 1) := by decide +kernel
theorem dX3_setRule_13 : decode cX3_setRule 13 = .ok (.iconst 1, 1) := by decide +kernel
theorem dX3_setRule_14 : decode cX3_setRule 14 = .ok (.if_icmp .ne 11, 3) := by decide +kernel
theorem dX3_setRule_17 : decode cX3_setRule 17 = .ok (.aload_n 0, 1) := by decide +kernel
theorem dX3_setRule_18 : decode cX3_setRule 18 = .ok (.iload_n 2, 1) := by decide +kernel
theorem dX3_setRule_19 : decode cX3_setRule 19 = .ok (.putfield 59, 3) := by decide +kernel
theorem dX3_setRule_22 : decode cX3_setRule 22 = .ok (.goto 8, 3) := by decide +kernel
theorem dX3_setRule_25 : decode cX3_setRule 25 = .ok (.aload_n 0, 1) := by decide +kernel
theorem dX3_setRule_26 : decode cX3_setRule 26 = .ok (.iload_n 2, 1) := by decide +kernel
theorem dX3_setRule_27 : decode cX3_setRule 27 = .ok (.putfield 62, 3) := by decide +kernel
theorem dX3_setRule_30 : decode cX3_setRule 30 = .ok (.return_, 1) := by decide +kernel
def F_X3_setRule (w : Nat) (M : z_Mem) (p : Nat) (a1 : Int32) (a2 : Int32) : Option (Unit × z_Mem) :=
  if a1 = (0 : Int32) then
  some ((), (z_wI M p 5 a2))
  else
  if a1 = (1 : Int32) then
  some ((), (z_wI M p 6 a2))
  else
  some ((), (z_wI M p 7 a2))
set_option maxHeartbeats 4000000 in
theorem A_X3_setRule {w : Nat} {M : z_Mem} {p : Nat} (hp : z_par p) {a1 : Int32} {a2 : Int32} {r : Unit} {M' : z_Mem} {Q : Option Value → z_Mem → Prop} (h : F_X3_setRule w M p a1 a2 = some (r, M')) (hq : Q none M') : z_Cl 0 mX3_setRule [.ref (p + 2), .int a1, .int a2] M Q := by
  refine g_in (ls := [some (.ref (p + 2)), some (.int a1), some (.int a2)]) rfl ?_
  unfold F_X3_setRule at h
  refine g_iload_n dX3_setRule_0 rfl rfl ?_
  refine g_if_ne (t := 12) dX3_setRule_1 (by decide) (fun c1 => ?_) (fun c1 => ?_)
  · replace h := z_iff c1 h
    refine g_iload_n dX3_setRule_12 rfl rfl ?_
    refine g_iconst (v := (1 : Int32)) dX3_setRule_13 (by decide) ?_
    refine g_ic_ne (t := 25) dX3_setRule_14 (by decide) (fun c2 => ?_) (fun c2 => ?_)
    · replace h := z_iff c2 h
      refine g_aload_n dX3_setRule_25 rfl rfl ?_
      refine g_iload_n dX3_setRule_26 rfl rfl ?_
      refine g_putI (a := p) dX3_setRule_27 f_3_62 (shp_0 hp) rfl rfl rfl ?_
      cases h
      exact g_vret dX3_setRule_30 rfl hq
    · replace h := z_ift c2 h
      refine g_aload_n dX3_setRule_17 rfl rfl ?_
      refine g_iload_n dX3_setRule_18 rfl rfl ?_
      refine g_putI (a := p) dX3_setRule_19 f_3_59 (shp_0 hp) rfl rfl rfl ?_
      refine g_goto (t := 30) dX3_setRule_22 (by decide) ?_
      cases h
      exact g_vret dX3_setRule_30 rfl hq
  · replace h := z_ift c1 h
    refine g_aload_n dX3_setRule_4 rfl rfl ?_
    refine g_iload_n dX3_setRule_5 rfl rfl ?_
    refine g_putI (a := p) dX3_setRule_6 f_3_56 (shp_0 hp) rfl rfl rfl ?_
    refine g_goto (t := 30) dX3_setRule_9 (by decide) ?_
    cases h
    exact g_vret dX3_setRule_30 rfl hq
theorem dX3_bothChests_0 : decode cX3_bothChests 0 = .ok (.aload_n 0, 1) := by decide +kernel
theorem dX3_bothChests_1 : decode cX3_bothChests 1 = .ok (.getfield 9, 3) := by decide +kernel
theorem dX3_bothChests_4 : decode cX3_bothChests 4 = .ok (.iconst 0, 1) := by decide +kernel
theorem dX3_bothChests_5 : decode cX3_bothChests 5 = .ok (.iaload, 1) := by decide +kernel
theorem dX3_bothChests_6 : decode cX3_bothChests 6 = .ok (.aload_n 0, 1) := by decide +kernel
theorem dX3_bothChests_7 : decode cX3_bothChests 7 = .ok (.getfield 9, 3) := by decide +kernel
theorem dX3_bothChests_10 : decode cX3_bothChests 10 = .ok (.iconst 1, 1) := by decide +kernel
theorem dX3_bothChests_11 : decode cX3_bothChests 11 = .ok (.iaload, 1) := by decide +kernel
theorem dX3_bothChests_12 : decode cX3_bothChests 12 = .ok (.iadd, 1) := by decide +kernel
theorem dX3_bothChests_13 : decode cX3_bothChests 13 = .ok (.ireturn, 1) := by decide +kernel
def F_X3_bothChests (w : Nat) (M : z_Mem) (p : Nat) : Option (Int32 × z_Mem) :=
  some ((M.1 (p + 1) 0) + (M.1 (p + 1) 1), M)
set_option maxHeartbeats 4000000 in
theorem A_X3_bothChests {w : Nat} {M : z_Mem} {p : Nat} (hp : z_par p) {r : Int32} {M' : z_Mem} {Q : Option Value → z_Mem → Prop} (h : F_X3_bothChests w M p = some (r, M')) (hq : Q (some (.int r)) M') : z_Cl 0 mX3_bothChests [.ref (p + 2)] M Q := by
  refine g_in (ls := [some (.ref (p + 2))]) rfl ?_
  unfold F_X3_bothChests at h
  refine g_aload_n dX3_bothChests_0 rfl rfl ?_
  refine g_get (a := p) (v := .ref (p + 3)) dX3_bothChests_1 f_3_9 (shp_0 hp) rfl rfl ?_
  refine g_iconst (v := (0 : Int32)) dX3_bothChests_4 (by decide) ?_
  refine g_ialN (a := p + 1) (j := 0) (v := M.1 (p + 1) 0) dX3_bothChests_5 (shp_1 hp) rfl (by decide) rfl ?_
  refine g_aload_n dX3_bothChests_6 rfl rfl ?_
  refine g_get (a := p) (v := .ref (p + 3)) dX3_bothChests_7 f_3_9 (shp_0 hp) rfl rfl ?_
  refine g_iconst (v := (1 : Int32)) dX3_bothChests_10 (by decide) ?_
  refine g_ialN (a := p + 1) (j := 1) (v := M.1 (p + 1) 1) dX3_bothChests_11 (shp_1 hp) rfl (by decide) rfl ?_
  refine g_iadd dX3_bothChests_12 ?_
  cases h
  exact g_iret dX3_bothChests_13 rfl rfl hq
theorem dX6_copyFrom_0 : decode cX6_copyFrom 0 = .ok (.aload_n 0, 1) := by decide +kernel
theorem dX6_copyFrom_1 : decode cX6_copyFrom 1 = .ok (.aload_n 1, 1) := by decide +kernel
theorem dX6_copyFrom_2 : decode cX6_copyFrom 2 = .ok (.getfield 25, 3) := by decide +kernel
theorem dX6_copyFrom_5 : decode cX6_copyFrom 5 = .ok (.putfield 25, 3) := by decide +kernel
theorem dX6_copyFrom_8 : decode cX6_copyFrom 8 = .ok (.iconst 0, 1) := by decide +kernel
theorem dX6_copyFrom_9 : decode cX6_copyFrom 9 = .ok (.istore_n 2, 1) := by decide +kernel
theorem dX6_copyFrom_10 : decode cX6_copyFrom 10 = .ok (.iload_n 2, 1) := by decide +kernel
theorem dX6_copyFrom_11 : decode cX6_copyFrom 11 = .ok (.aload_n 0, 1) := by decide +kernel
theorem dX6_copyFrom_12 : decode cX6_copyFrom 12 = .ok (.getfield 25, 3) := by decide +kernel
theorem dX6_copyFrom_15 : decode cX6_copyFrom 15 = .ok (.if_icmp .ge 69, 3) := by decide +kernel
theorem dX6_copyFrom_18 : decode cX6_copyFrom 18 = .ok (.aload_n 0, 1) := by decide +kernel
theorem dX6_copyFrom_19 : decode cX6_copyFrom 19 = .ok (.getfield 9, 3) := by decide +kernel
theorem dX6_copyFrom_22 : decode cX6_copyFrom 22 = .ok (.iload_n 2, 1) := by decide +kernel
theorem dX6_copyFrom_23 : decode cX6_copyFrom 23 = .ok (.aload_n 1, 1) := by decide +kernel
theorem dX6_copyFrom_24 : decode cX6_copyFrom 24 = .ok (.getfield 9, 3) := by decide +kernel
theorem dX6_copyFrom_27 : decode cX6_copyFrom 27 = .ok (.iload_n 2, 1) := by decide +kernel
theorem dX6_copyFrom_28 : decode cX6_copyFrom 28 = .ok (.iaload, 1) := by decide +kernel
theorem dX6_copyFrom_29 : decode cX6_copyFrom 29 = .ok (.iastore, 1) := by decide +kernel
theorem dX6_copyFrom_30 : decode cX6_copyFrom 30 = .ok (.aload_n 0, 1) := by decide +kernel
theorem dX6_copyFrom_31 : decode cX6_copyFrom 31 = .ok (.getfield 13, 3) := by decide +kernel
theorem dX6_copyFrom_34 : decode cX6_copyFrom 34 = .ok (.iload_n 2, 1) := by decide +kernel
theorem dX6_copyFrom_35 : decode cX6_copyFrom 35 = .ok (.aload_n 1, 1) := by decide +kernel
theorem dX6_copyFrom_36 : decode cX6_copyFrom 36 = .ok (.getfield 13, 3) := by decide +kernel
theorem dX6_copyFrom_39 : decode cX6_copyFrom 39 = .ok (.iload_n 2, 1) := by decide +kernel
theorem dX6_copyFrom_40 : decode cX6_copyFrom 40 = .ok (.iaload, 1) := by decide +kernel
theorem dX6_copyFrom_41 : decode cX6_copyFrom 41 = .ok (.iastore, 1) := by decide +kernel
theorem dX6_copyFrom_42 : decode cX6_copyFrom 42 = .ok (.aload_n 0, 1) := by decide +kernel
theorem dX6_copyFrom_43 : decode cX6_copyFrom 43 = .ok (.getfield 16, 3) := by decide +kernel
theorem dX6_copyFrom_46 : decode cX6_copyFrom 46 = .ok (.iload_n 2, 1) := by decide +kernel
theorem dX6_copyFrom_47 : decode cX6_copyFrom 47 = .ok (.aload_n 1, 1) := by decide +kernel
theorem dX6_copyFrom_48 : decode cX6_copyFrom 48 = .ok (.getfield 16, 3) := by decide +kernel
theorem dX6_copyFrom_51 : decode cX6_copyFrom 51 = .ok (.iload_n 2, 1) := by decide +kernel
theorem dX6_copyFrom_52 : decode cX6_copyFrom 52 = .ok (.iaload, 1) := by decide +kernel
theorem dX6_copyFrom_53 : decode cX6_copyFrom 53 = .ok (.iastore, 1) := by decide +kernel
theorem dX6_copyFrom_54 : decode cX6_copyFrom 54 = .ok (.aload_n 0, 1) := by decide +kernel
theorem dX6_copyFrom_55 : decode cX6_copyFrom 55 = .ok (.getfield 19, 3) := by decide +kernel
theorem dX6_copyFrom_58 : decode cX6_copyFrom 58 = .ok (.iload_n 2, 1) := by decide +kernel
theorem dX6_copyFrom_59 : decode cX6_copyFrom 59 = .ok (.aload_n 1, 1) := by decide +kernel
theorem dX6_copyFrom_60 : decode cX6_copyFrom 60 = .ok (.getfield 19, 3) := by decide +kernel
theorem dX6_copyFrom_63 : decode cX6_copyFrom 63 = .ok (.iload_n 2, 1) := by decide +kernel
theorem dX6_copyFrom_64 : decode cX6_copyFrom 64 = .ok (.iaload, 1) := by decide +kernel
theorem dX6_copyFrom_65 : decode cX6_copyFrom 65 = .ok (.iastore, 1) := by decide +kernel
theorem dX6_copyFrom_66 : decode cX6_copyFrom 66 = .ok (.aload_n 0, 1) := by decide +kernel
theorem dX6_copyFrom_67 : decode cX6_copyFrom 67 = .ok (.getfield 22, 3) := by decide +kernel
theorem dX6_copyFrom_70 : decode cX6_copyFrom 70 = .ok (.iload_n 2, 1) := by decide +kernel
theorem dX6_copyFrom_71 : decode cX6_copyFrom 71 = .ok (.aload_n 1, 1) := by decide +kernel
theorem dX6_copyFrom_72 : decode cX6_copyFrom 72 = .ok (.getfield 22, 3) := by decide +kernel
theorem dX6_copyFrom_75 : decode cX6_copyFrom 75 = .ok (.iload_n 2, 1) := by decide +kernel
theorem dX6_copyFrom_76 : decode cX6_copyFrom 76 = .ok (.iaload, 1) := by decide +kernel
theorem dX6_copyFrom_77 : decode cX6_copyFrom 77 = .ok (.iastore, 1) := by decide +kernel
theorem dX6_copyFrom_78 : decode cX6_copyFrom 78 = .ok (.iinc 2 1, 3) := by decide +kernel
theorem dX6_copyFrom_81 : decode cX6_copyFrom 81 = .ok (.goto (-71), 3) := by decide +kernel
theorem dX6_copyFrom_84 : decode cX6_copyFrom 84 = .ok (.return_, 1) := by decide +kernel
def L_X6_copyFrom (w : Nat) (p : Nat) (q : Nat) : Nat → z_Mem → Int32 → Option (Unit × z_Mem)
  | 0, _, _ => none
  | c + 1, M, x2 =>
    if (M.1 (p + 2) 5) ≤ x2 then
    some ((), M)
    else
    if x2 < 0 ∨ 8 ≤ x2.toNatClampNeg then none else
    if x2 < 0 ∨ 8 ≤ x2.toNatClampNeg then none else
    if x2 < 0 ∨ 8 ≤ x2.toNatClampNeg then none else
    if x2 < 0 ∨ 8 ≤ x2.toNatClampNeg then none else
    if x2 < 0 ∨ 8 ≤ x2.toNatClampNeg then none else
    if x2 < 0 ∨ 8 ≤ x2.toNatClampNeg then none else
    if x2 < 0 ∨ 8 ≤ x2.toNatClampNeg then none else
    if x2 < 0 ∨ 8 ≤ x2.toNatClampNeg then none else
    if x2 < 0 ∨ 8 ≤ x2.toNatClampNeg then none else
    if x2 < 0 ∨ 8 ≤ x2.toNatClampNeg then none else
    L_X6_copyFrom w p q c (z_wI (z_wI (z_wI (z_wI (z_wI M (p + 3) x2.toNatClampNeg (M.1 (q + 3) x2.toNatClampNeg)) (p + 4) x2.toNatClampNeg ((z_wI M (p + 3) x2.toNatClampNeg (M.1 (q + 3) x2.toNatClampNeg)).1 (q + 4) x2.toNatClampNeg)) (p + 5) x2.toNatClampNeg ((z_wI (z_wI M (p + 3) x2.toNatClampNeg (M.1 (q + 3) x2.toNatClampNeg)) (p + 4) x2.toNatClampNeg ((z_wI M (p + 3) x2.toNatClampNeg (M.1 (q + 3) x2.toNatClampNeg)).1 (q + 4) x2.toNatClampNeg)).1 (q + 5) x2.toNatClampNeg)) (p + 6) x2.toNatClampNeg ((z_wI (z_wI (z_wI M (p + 3) x2.toNatClampNeg (M.1 (q + 3) x2.toNatClampNeg)) (p + 4) x2.toNatClampNeg ((z_wI M (p + 3) x2.toNatClampNeg (M.1 (q + 3) x2.toNatClampNeg)).1 (q + 4) x2.toNatClampNeg)) (p + 5) x2.toNatClampNeg ((z_wI (z_wI M (p + 3) x2.toNatClampNeg (M.1 (q + 3) x2.toNatClampNeg)) (p + 4) x2.toNatClampNeg ((z_wI M (p + 3) x2.toNatClampNeg (M.1 (q + 3) x2.toNatClampNeg)).1 (q + 4) x2.toNatClampNeg)).1 (q + 5) x2.toNatClampNeg)).1 (q + 6) x2.toNatClampNeg)) (p + 7) x2.toNatClampNeg ((z_wI (z_wI (z_wI (z_wI M (p + 3) x2.toNatClampNeg (M.1 (q + 3) x2.toNatClampNeg)) (p + 4) x2.toNatClampNeg ((z_wI M (p + 3) x2.toNatClampNeg (M.1 (q + 3) x2.toNatClampNeg)).1 (q + 4) x2.toNatClampNeg)) (p + 5) x2.toNatClampNeg ((z_wI (z_wI M (p + 3) x2.toNatClampNeg (M.1 (q + 3) x2.toNatClampNeg)) (p + 4) x2.toNatClampNeg ((z_wI M (p + 3) x2.toNatClampNeg (M.1 (q + 3) x2.toNatClampNeg)).1 (q + 4) x2.toNatClampNeg)).1 (q + 5) x2.toNatClampNeg)) (p + 6) x2.toNatClampNeg ((z_wI (z_wI (z_wI M (p + 3) x2.toNatClampNeg (M.1 (q + 3) x2.toNatClampNeg)) (p + 4) x2.toNatClampNeg ((z_wI M (p + 3) x2.toNatClampNeg (M.1 (q + 3) x2.toNatClampNeg)).1 (q + 4) x2.toNatClampNeg)) (p + 5) x2.toNatClampNeg ((z_wI (z_wI M (p + 3) x2.toNatClampNeg (M.1 (q + 3) x2.toNatClampNeg)) (p + 4) x2.toNatClampNeg ((z_wI M (p + 3) x2.toNatClampNeg (M.1 (q + 3) x2.toNatClampNeg)).1 (q + 4) x2.toNatClampNeg)).1 (q + 5) x2.toNatClampNeg)).1 (q + 6) x2.toNatClampNeg)).1 (q + 7) x2.toNatClampNeg)) (x2 + (1 : Int32))
set_option maxHeartbeats 4000000 in
theorem AL_X6_copyFrom {w : Nat} {p : Nat} (hp : z_par p) {q : Nat} (hq2 : z_par q) : ∀ (c : Nat), (∀ (M : z_Mem) (x2 : Int32) (r : Unit) (M' : z_Mem) (Q : Option Value → z_Mem → Prop), L_X6_copyFrom w p q c M x2 = some (r, M') → Q none M' → z_G none 0 mX6_copyFrom 10 [some (.ref (p + 4)), some (.ref (q + 4)), some (.int x2)] [] M Q) := by
  intro c
  induction c with
  | zero => exact (fun M x2 r M' Q h hq => by rw [L_X6_copyFrom] at h; cases h)
  | succ c ih =>
    intro M x2 r M' Q h hq
    rw [L_X6_copyFrom] at h
    refine g_iload_n dX6_copyFrom_10 rfl rfl ?_
    refine g_aload_n dX6_copyFrom_11 rfl rfl ?_
    refine g_get (a := p + 2) (v := .int (M.1 (p + 2) 5)) dX6_copyFrom_12 f_6_25 (shp_2 hp) rfl rfl ?_
    refine g_ic_ge (t := 84) dX6_copyFrom_15 (by decide) (fun c1 => ?_) (fun c1 => ?_)
    · replace h := z_ift c1 h
      cases h
      exact g_vret dX6_copyFrom_84 rfl hq
    · replace h := z_iff c1 h
      refine g_aload_n dX6_copyFrom_18 rfl rfl ?_
      refine g_get (a := p + 2) (v := .ref (p + 5)) dX6_copyFrom_19 f_6_9 (shp_2 hp) rfl rfl ?_
      refine g_iload_n dX6_copyFrom_22 rfl rfl ?_
      refine g_aload_n dX6_copyFrom_23 rfl rfl ?_
      refine g_get (a := q + 2) (v := .ref (q + 5)) dX6_copyFrom_24 f_6_9 (shp_2 hq2) rfl rfl ?_
      refine g_iload_n dX6_copyFrom_27 rfl rfl ?_
      by_cases g2 : x2 < 0 ∨ 8 ≤ x2.toNatClampNeg
      · rw [if_pos g2] at h; cases h
      replace h := z_iff g2 h
      refine g_iald (a := q + 3) dX6_copyFrom_28 (shp_3 hq2) g2 ?_
      by_cases g3 : x2 < 0 ∨ 8 ≤ x2.toNatClampNeg
      · rw [if_pos g3] at h; cases h
      replace h := z_iff g3 h
      refine g_iast (a := p + 3) dX6_copyFrom_29 (shp_3 hp) g3 ?_
      refine g_aload_n dX6_copyFrom_30 rfl rfl ?_
      refine g_get (a := p + 2) (v := .ref (p + 6)) dX6_copyFrom_31 f_6_13 (shp_2 hp) rfl rfl ?_
      refine g_iload_n dX6_copyFrom_34 rfl rfl ?_
      refine g_aload_n dX6_copyFrom_35 rfl rfl ?_
      refine g_get (a := q + 2) (v := .ref (q + 6)) dX6_copyFrom_36 f_6_13 (shp_2 hq2) rfl rfl ?_
      refine g_iload_n dX6_copyFrom_39 rfl rfl ?_
      by_cases g4 : x2 < 0 ∨ 8 ≤ x2.toNatClampNeg
      · rw [if_pos g4] at h; cases h
      replace h := z_iff g4 h
      refine g_iald (a := q + 4) dX6_copyFrom_40 (shp_4 hq2) g4 ?_
      by_cases g5 : x2 < 0 ∨ 8 ≤ x2.toNatClampNeg
      · rw [if_pos g5] at h; cases h
      replace h := z_iff g5 h
      refine g_iast (a := p + 4) dX6_copyFrom_41 (shp_4 hp) g5 ?_
      refine g_aload_n dX6_copyFrom_42 rfl rfl ?_
      refine g_get (a := p + 2) (v := .ref (p + 7)) dX6_copyFrom_43 f_6_16 (shp_2 hp) rfl rfl ?_
      refine g_iload_n dX6_copyFrom_46 rfl rfl ?_
      refine g_aload_n dX6_copyFrom_47 rfl rfl ?_
      refine g_get (a := q + 2) (v := .ref (q + 7)) dX6_copyFrom_48 f_6_16 (shp_2 hq2) rfl rfl ?_
      refine g_iload_n dX6_copyFrom_51 rfl rfl ?_
      by_cases g6 : x2 < 0 ∨ 8 ≤ x2.toNatClampNeg
      · rw [if_pos g6] at h; cases h
      replace h := z_iff g6 h
      refine g_iald (a := q + 5) dX6_copyFrom_52 (shp_5 hq2) g6 ?_
      by_cases g7 : x2 < 0 ∨ 8 ≤ x2.toNatClampNeg
      · rw [if_pos g7] at h; cases h
      replace h := z_iff g7 h
      refine g_iast (a := p + 5) dX6_copyFrom_53 (shp_5 hp) g7 ?_
      refine g_aload_n dX6_copyFrom_54 rfl rfl ?_
      refine g_get (a := p + 2) (v := .ref (p + 8)) dX6_copyFrom_55 f_6_19 (shp_2 hp) rfl rfl ?_
      refine g_iload_n dX6_copyFrom_58 rfl rfl ?_
      refine g_aload_n dX6_copyFrom_59 rfl rfl ?_
      refine g_get (a := q + 2) (v := .ref (q + 8)) dX6_copyFrom_60 f_6_19 (shp_2 hq2) rfl rfl ?_
      refine g_iload_n dX6_copyFrom_63 rfl rfl ?_
      by_cases g8 : x2 < 0 ∨ 8 ≤ x2.toNatClampNeg
      · rw [if_pos g8] at h; cases h
      replace h := z_iff g8 h
      refine g_iald (a := q + 6) dX6_copyFrom_64 (shp_6 hq2) g8 ?_
      by_cases g9 : x2 < 0 ∨ 8 ≤ x2.toNatClampNeg
      · rw [if_pos g9] at h; cases h
      replace h := z_iff g9 h
      refine g_iast (a := p + 6) dX6_copyFrom_65 (shp_6 hp) g9 ?_
      refine g_aload_n dX6_copyFrom_66 rfl rfl ?_
      refine g_get (a := p + 2) (v := .ref (p + 9)) dX6_copyFrom_67 f_6_22 (shp_2 hp) rfl rfl ?_
      refine g_iload_n dX6_copyFrom_70 rfl rfl ?_
      refine g_aload_n dX6_copyFrom_71 rfl rfl ?_
      refine g_get (a := q + 2) (v := .ref (q + 9)) dX6_copyFrom_72 f_6_22 (shp_2 hq2) rfl rfl ?_
      refine g_iload_n dX6_copyFrom_75 rfl rfl ?_
      by_cases g10 : x2 < 0 ∨ 8 ≤ x2.toNatClampNeg
      · rw [if_pos g10] at h; cases h
      replace h := z_iff g10 h
      refine g_iald (a := q + 7) dX6_copyFrom_76 (shp_7 hq2) g10 ?_
      by_cases g11 : x2 < 0 ∨ 8 ≤ x2.toNatClampNeg
      · rw [if_pos g11] at h; cases h
      replace h := z_iff g11 h
      refine g_iast (a := p + 7) dX6_copyFrom_77 (shp_7 hp) g11 ?_
      refine g_iinc (v := x2 + (1 : Int32)) (ls' := [some (.ref (p + 4)), some (.ref (q + 4)), some (.int (x2 + (1 : Int32)))]) dX6_copyFrom_78 rfl rfl rfl ?_
      refine g_goto (t := 10) dX6_copyFrom_81 (by decide) ?_
      exact g_sub (z_sub_s (z_sub_s (z_sub_s z_sub_nil))) (ih _ _ _ _ _ h hq)
def F_X6_copyFrom (w : Nat) (M : z_Mem) (p : Nat) (q : Nat) : Option (Unit × z_Mem) :=
  L_X6_copyFrom w p q w (z_wI M (p + 2) 5 (M.1 (q + 2) 5)) (0 : Int32)
set_option maxHeartbeats 4000000 in
theorem A_X6_copyFrom {w : Nat} {M : z_Mem} {p : Nat} (hp : z_par p) {q : Nat} (hq2 : z_par q) {r : Unit} {M' : z_Mem} {Q : Option Value → z_Mem → Prop} (h : F_X6_copyFrom w M p q = some (r, M')) (hq : Q none M') : z_Cl 0 mX6_copyFrom [.ref (p + 4), .ref (q + 4)] M Q := by
  refine g_in (ls := [some (.ref (p + 4)), some (.ref (q + 4)), none]) rfl ?_
  unfold F_X6_copyFrom at h
  refine g_aload_n dX6_copyFrom_0 rfl rfl ?_
  refine g_aload_n dX6_copyFrom_1 rfl rfl ?_
  refine g_get (a := q + 2) (v := .int (M.1 (q + 2) 5)) dX6_copyFrom_2 f_6_25 (shp_2 hq2) rfl rfl ?_
  refine g_putI (a := p + 2) dX6_copyFrom_5 f_6_25 (shp_2 hp) rfl rfl rfl ?_
  refine g_iconst (v := (0 : Int32)) dX6_copyFrom_8 (by decide) ?_
  refine g_istore_n (ls' := [some (.ref (p + 4)), some (.ref (q + 4)), some (.int (0 : Int32))]) dX6_copyFrom_9 rfl (Nat.le_of_ble_eq_true rfl) rfl ?_
  exact g_sub (z_sub_s (z_sub_s (z_sub_s z_sub_nil))) ((AL_X6_copyFrom (w := w) hp hq2 w) _ _ _ _ _ h hq)
theorem dX9_copyFrom_0 : decode cX9_copyFrom 0 = .ok (.aload_n 0, 1) := by decide +kernel
theorem dX9_copyFrom_1 : decode cX9_copyFrom 1 = .ok (.aload_n 1, 1) := by decide +kernel
theorem dX9_copyFrom_2 : decode cX9_copyFrom 2 = .ok (.getfield 25, 3) := by decide +kernel
theorem dX9_copyFrom_5 : decode cX9_copyFrom 5 = .ok (.putfield 25, 3) := by decide +kernel
theorem dX9_copyFrom_8 : decode cX9_copyFrom 8 = .ok (.aload_n 0, 1) := by decide +kernel
theorem dX9_copyFrom_9 : decode cX9_copyFrom 9 = .ok (.aload_n 1, 1) := by decide +kernel
theorem dX9_copyFrom_10 : decode cX9_copyFrom 10 = .ok (.getfield 29, 3) := by decide +kernel
theorem dX9_copyFrom_13 : decode cX9_copyFrom 13 = .ok (.putfield 29, 3) := by decide +kernel
theorem dX9_copyFrom_16 : decode cX9_copyFrom 16 = .ok (.aload_n 0, 1) := by decide +kernel
theorem dX9_copyFrom_17 : decode cX9_copyFrom 17 = .ok (.aload_n 1, 1) := by decide +kernel
theorem dX9_copyFrom_18 : decode cX9_copyFrom 18 = .ok (.getfield 32, 3) := by decide +kernel
theorem dX9_copyFrom_21 : decode cX9_copyFrom 21 = .ok (.putfield 32, 3) := by decide +kernel
theorem dX9_copyFrom_24 : decode cX9_copyFrom 24 = .ok (.iconst 0, 1) := by decide +kernel
theorem dX9_copyFrom_25 : decode cX9_copyFrom 25 = .ok (.istore_n 2, 1) := by decide +kernel
theorem dX9_copyFrom_26 : decode cX9_copyFrom 26 = .ok (.iload_n 2, 1) := by decide +kernel
theorem dX9_copyFrom_27 : decode cX9_copyFrom 27 = .ok (.aload_n 0, 1) := by decide +kernel
theorem dX9_copyFrom_28 : decode cX9_copyFrom 28 = .ok (.getfield 25, 3) := by decide +kernel
theorem dX9_copyFrom_31 : decode cX9_copyFrom 31 = .ok (.if_icmp .ge 69, 3) := by decide +kernel
theorem dX9_copyFrom_34 : decode cX9_copyFrom 34 = .ok (.aload_n 0, 1) := by decide +kernel
theorem dX9_copyFrom_35 : decode cX9_copyFrom 35 = .ok (.getfield 9, 3) := by decide +kernel
theorem dX9_copyFrom_38 : decode cX9_copyFrom 38 = .ok (.iload_n 2, 1) := by decide +kernel
theorem dX9_copyFrom_39 : decode cX9_copyFrom 39 = .ok (.aload_n 1, 1) := by decide +kernel
theorem dX9_copyFrom_40 : decode cX9_copyFrom 40 = .ok (.getfield 9, 3) := by decide +kernel
theorem dX9_copyFrom_43 : decode cX9_copyFrom 43 = .ok (.iload_n 2, 1) := by decide +kernel
theorem dX9_copyFrom_44 : decode cX9_copyFrom 44 = .ok (.iaload, 1) := by decide +kernel
theorem dX9_copyFrom_45 : decode cX9_copyFrom 45 = .ok (.iastore, 1) := by decide +kernel
theorem dX9_copyFrom_46 : decode cX9_copyFrom 46 = .ok (.aload_n 0, 1) := by decide +kernel
theorem dX9_copyFrom_47 : decode cX9_copyFrom 47 = .ok (.getfield 13, 3) := by decide +kernel
theorem dX9_copyFrom_50 : decode cX9_copyFrom 50 = .ok (.iload_n 2, 1) := by decide +kernel
theorem dX9_copyFrom_51 : decode cX9_copyFrom 51 = .ok (.aload_n 1, 1) := by decide +kernel
theorem dX9_copyFrom_52 : decode cX9_copyFrom 52 = .ok (.getfield 13, 3) := by decide +kernel
theorem dX9_copyFrom_55 : decode cX9_copyFrom 55 = .ok (.iload_n 2, 1) := by decide +kernel
theorem dX9_copyFrom_56 : decode cX9_copyFrom 56 = .ok (.iaload, 1) := by decide +kernel
theorem dX9_copyFrom_57 : decode cX9_copyFrom 57 = .ok (.iastore, 1) := by decide +kernel
theorem dX9_copyFrom_58 : decode cX9_copyFrom 58 = .ok (.aload_n 0, 1) := by decide +kernel
theorem dX9_copyFrom_59 : decode cX9_copyFrom 59 = .ok (.getfield 16, 3) := by decide +kernel
theorem dX9_copyFrom_62 : decode cX9_copyFrom 62 = .ok (.iload_n 2, 1) := by decide +kernel
theorem dX9_copyFrom_63 : decode cX9_copyFrom 63 = .ok (.aload_n 1, 1) := by decide +kernel
theorem dX9_copyFrom_64 : decode cX9_copyFrom 64 = .ok (.getfield 16, 3) := by decide +kernel
theorem dX9_copyFrom_67 : decode cX9_copyFrom 67 = .ok (.iload_n 2, 1) := by decide +kernel
theorem dX9_copyFrom_68 : decode cX9_copyFrom 68 = .ok (.iaload, 1) := by decide +kernel
theorem dX9_copyFrom_69 : decode cX9_copyFrom 69 = .ok (.iastore, 1) := by decide +kernel
theorem dX9_copyFrom_70 : decode cX9_copyFrom 70 = .ok (.aload_n 0, 1) := by decide +kernel
theorem dX9_copyFrom_71 : decode cX9_copyFrom 71 = .ok (.getfield 19, 3) := by decide +kernel
theorem dX9_copyFrom_74 : decode cX9_copyFrom 74 = .ok (.iload_n 2, 1) := by decide +kernel
theorem dX9_copyFrom_75 : decode cX9_copyFrom 75 = .ok (.aload_n 1, 1) := by decide +kernel
theorem dX9_copyFrom_76 : decode cX9_copyFrom 76 = .ok (.getfield 19, 3) := by decide +kernel
theorem dX9_copyFrom_79 : decode cX9_copyFrom 79 = .ok (.iload_n 2, 1) := by decide +kernel
theorem dX9_copyFrom_80 : decode cX9_copyFrom 80 = .ok (.iaload, 1) := by decide +kernel
theorem dX9_copyFrom_81 : decode cX9_copyFrom 81 = .ok (.iastore, 1) := by decide +kernel
theorem dX9_copyFrom_82 : decode cX9_copyFrom 82 = .ok (.aload_n 0, 1) := by decide +kernel
theorem dX9_copyFrom_83 : decode cX9_copyFrom 83 = .ok (.getfield 22, 3) := by decide +kernel
theorem dX9_copyFrom_86 : decode cX9_copyFrom 86 = .ok (.iload_n 2, 1) := by decide +kernel
theorem dX9_copyFrom_87 : decode cX9_copyFrom 87 = .ok (.aload_n 1, 1) := by decide +kernel
theorem dX9_copyFrom_88 : decode cX9_copyFrom 88 = .ok (.getfield 22, 3) := by decide +kernel
theorem dX9_copyFrom_91 : decode cX9_copyFrom 91 = .ok (.iload_n 2, 1) := by decide +kernel
theorem dX9_copyFrom_92 : decode cX9_copyFrom 92 = .ok (.iaload, 1) := by decide +kernel
theorem dX9_copyFrom_93 : decode cX9_copyFrom 93 = .ok (.iastore, 1) := by decide +kernel
theorem dX9_copyFrom_94 : decode cX9_copyFrom 94 = .ok (.iinc 2 1, 3) := by decide +kernel
theorem dX9_copyFrom_97 : decode cX9_copyFrom 97 = .ok (.goto (-71), 3) := by decide +kernel
theorem dX9_copyFrom_100 : decode cX9_copyFrom 100 = .ok (.return_, 1) := by decide +kernel
def L_X9_copyFrom (w : Nat) (p : Nat) (q : Nat) : Nat → z_Mem → Int32 → Option (Unit × z_Mem)
  | 0, _, _ => none
  | c + 1, M, x2 =>
    if (M.1 (p + 17) 5) ≤ x2 then
    some ((), M)
    else
    if x2 < 0 ∨ 60 ≤ x2.toNatClampNeg then none else
    if x2 < 0 ∨ 60 ≤ x2.toNatClampNeg then none else
    if x2 < 0 ∨ 60 ≤ x2.toNatClampNeg then none else
    if x2 < 0 ∨ 60 ≤ x2.toNatClampNeg then none else
    if x2 < 0 ∨ 60 ≤ x2.toNatClampNeg then none else
    if x2 < 0 ∨ 60 ≤ x2.toNatClampNeg then none else
    if x2 < 0 ∨ 60 ≤ x2.toNatClampNeg then none else
    if x2 < 0 ∨ 60 ≤ x2.toNatClampNeg then none else
    if x2 < 0 ∨ 60 ≤ x2.toNatClampNeg then none else
    if x2 < 0 ∨ 60 ≤ x2.toNatClampNeg then none else
    L_X9_copyFrom w p q c (z_wI (z_wI (z_wI (z_wI (z_wI M (p + 18) x2.toNatClampNeg (M.1 (q + 18) x2.toNatClampNeg)) (p + 19) x2.toNatClampNeg ((z_wI M (p + 18) x2.toNatClampNeg (M.1 (q + 18) x2.toNatClampNeg)).1 (q + 19) x2.toNatClampNeg)) (p + 20) x2.toNatClampNeg ((z_wI (z_wI M (p + 18) x2.toNatClampNeg (M.1 (q + 18) x2.toNatClampNeg)) (p + 19) x2.toNatClampNeg ((z_wI M (p + 18) x2.toNatClampNeg (M.1 (q + 18) x2.toNatClampNeg)).1 (q + 19) x2.toNatClampNeg)).1 (q + 20) x2.toNatClampNeg)) (p + 21) x2.toNatClampNeg ((z_wI (z_wI (z_wI M (p + 18) x2.toNatClampNeg (M.1 (q + 18) x2.toNatClampNeg)) (p + 19) x2.toNatClampNeg ((z_wI M (p + 18) x2.toNatClampNeg (M.1 (q + 18) x2.toNatClampNeg)).1 (q + 19) x2.toNatClampNeg)) (p + 20) x2.toNatClampNeg ((z_wI (z_wI M (p + 18) x2.toNatClampNeg (M.1 (q + 18) x2.toNatClampNeg)) (p + 19) x2.toNatClampNeg ((z_wI M (p + 18) x2.toNatClampNeg (M.1 (q + 18) x2.toNatClampNeg)).1 (q + 19) x2.toNatClampNeg)).1 (q + 20) x2.toNatClampNeg)).1 (q + 21) x2.toNatClampNeg)) (p + 22) x2.toNatClampNeg ((z_wI (z_wI (z_wI (z_wI M (p + 18) x2.toNatClampNeg (M.1 (q + 18) x2.toNatClampNeg)) (p + 19) x2.toNatClampNeg ((z_wI M (p + 18) x2.toNatClampNeg (M.1 (q + 18) x2.toNatClampNeg)).1 (q + 19) x2.toNatClampNeg)) (p + 20) x2.toNatClampNeg ((z_wI (z_wI M (p + 18) x2.toNatClampNeg (M.1 (q + 18) x2.toNatClampNeg)) (p + 19) x2.toNatClampNeg ((z_wI M (p + 18) x2.toNatClampNeg (M.1 (q + 18) x2.toNatClampNeg)).1 (q + 19) x2.toNatClampNeg)).1 (q + 20) x2.toNatClampNeg)) (p + 21) x2.toNatClampNeg ((z_wI (z_wI (z_wI M (p + 18) x2.toNatClampNeg (M.1 (q + 18) x2.toNatClampNeg)) (p + 19) x2.toNatClampNeg ((z_wI M (p + 18) x2.toNatClampNeg (M.1 (q + 18) x2.toNatClampNeg)).1 (q + 19) x2.toNatClampNeg)) (p + 20) x2.toNatClampNeg ((z_wI (z_wI M (p + 18) x2.toNatClampNeg (M.1 (q + 18) x2.toNatClampNeg)) (p + 19) x2.toNatClampNeg ((z_wI M (p + 18) x2.toNatClampNeg (M.1 (q + 18) x2.toNatClampNeg)).1 (q + 19) x2.toNatClampNeg)).1 (q + 20) x2.toNatClampNeg)).1 (q + 21) x2.toNatClampNeg)).1 (q + 22) x2.toNatClampNeg)) (x2 + (1 : Int32))
set_option maxHeartbeats 4000000 in
theorem AL_X9_copyFrom {w : Nat} {p : Nat} (hp : z_par p) {q : Nat} (hq2 : z_par q) : ∀ (c : Nat), (∀ (M : z_Mem) (x2 : Int32) (r : Unit) (M' : z_Mem) (Q : Option Value → z_Mem → Prop), L_X9_copyFrom w p q c M x2 = some (r, M') → Q none M' → z_G none 0 mX9_copyFrom 26 [some (.ref (p + 19)), some (.ref (q + 19)), some (.int x2)] [] M Q) := by
  intro c
  induction c with
  | zero => exact (fun M x2 r M' Q h hq => by rw [L_X9_copyFrom] at h; cases h)
  | succ c ih =>
    intro M x2 r M' Q h hq
    rw [L_X9_copyFrom] at h
    refine g_iload_n dX9_copyFrom_26 rfl rfl ?_
    refine g_aload_n dX9_copyFrom_27 rfl rfl ?_
    refine g_get (a := p + 17) (v := .int (M.1 (p + 17) 5)) dX9_copyFrom_28 f_9_25 (shp_17 hp) rfl rfl ?_
    refine g_ic_ge (t := 100) dX9_copyFrom_31 (by decide) (fun c1 => ?_) (fun c1 => ?_)
    · replace h := z_ift c1 h
      cases h
      exact g_vret dX9_copyFrom_100 rfl hq
    · replace h := z_iff c1 h
      refine g_aload_n dX9_copyFrom_34 rfl rfl ?_
      refine g_get (a := p + 17) (v := .ref (p + 20)) dX9_copyFrom_35 f_9_9 (shp_17 hp) rfl rfl ?_
      refine g_iload_n dX9_copyFrom_38 rfl rfl ?_
      refine g_aload_n dX9_copyFrom_39 rfl rfl ?_
      refine g_get (a := q + 17) (v := .ref (q + 20)) dX9_copyFrom_40 f_9_9 (shp_17 hq2) rfl rfl ?_
      refine g_iload_n dX9_copyFrom_43 rfl rfl ?_
      by_cases g2 : x2 < 0 ∨ 60 ≤ x2.toNatClampNeg
      · rw [if_pos g2] at h; cases h
      replace h := z_iff g2 h
      refine g_iald (a := q + 18) dX9_copyFrom_44 (shp_18 hq2) g2 ?_
      by_cases g3 : x2 < 0 ∨ 60 ≤ x2.toNatClampNeg
      · rw [if_pos g3] at h; cases h
      replace h := z_iff g3 h
      refine g_iast (a := p + 18) dX9_copyFrom_45 (shp_18 hp) g3 ?_
      refine g_aload_n dX9_copyFrom_46 rfl rfl ?_
      refine g_get (a := p + 17) (v := .ref (p + 21)) dX9_copyFrom_47 f_9_13 (shp_17 hp) rfl rfl ?_
      refine g_iload_n dX9_copyFrom_50 rfl rfl ?_
      refine g_aload_n dX9_copyFrom_51 rfl rfl ?_
      refine g_get (a := q + 17) (v := .ref (q + 21)) dX9_copyFrom_52 f_9_13 (shp_17 hq2) rfl rfl ?_
      refine g_iload_n dX9_copyFrom_55 rfl rfl ?_
      by_cases g4 : x2 < 0 ∨ 60 ≤ x2.toNatClampNeg
      · rw [if_pos g4] at h; cases h
      replace h := z_iff g4 h
      refine g_iald (a := q + 19) dX9_copyFrom_56 (shp_19 hq2) g4 ?_
      by_cases g5 : x2 < 0 ∨ 60 ≤ x2.toNatClampNeg
      · rw [if_pos g5] at h; cases h
      replace h := z_iff g5 h
      refine g_iast (a := p + 19) dX9_copyFrom_57 (shp_19 hp) g5 ?_
      refine g_aload_n dX9_copyFrom_58 rfl rfl ?_
      refine g_get (a := p + 17) (v := .ref (p + 22)) dX9_copyFrom_59 f_9_16 (shp_17 hp) rfl rfl ?_
      refine g_iload_n dX9_copyFrom_62 rfl rfl ?_
      refine g_aload_n dX9_copyFrom_63 rfl rfl ?_
      refine g_get (a := q + 17) (v := .ref (q + 22)) dX9_copyFrom_64 f_9_16 (shp_17 hq2) rfl rfl ?_
      refine g_iload_n dX9_copyFrom_67 rfl rfl ?_
      by_cases g6 : x2 < 0 ∨ 60 ≤ x2.toNatClampNeg
      · rw [if_pos g6] at h; cases h
      replace h := z_iff g6 h
      refine g_iald (a := q + 20) dX9_copyFrom_68 (shp_20 hq2) g6 ?_
      by_cases g7 : x2 < 0 ∨ 60 ≤ x2.toNatClampNeg
      · rw [if_pos g7] at h; cases h
      replace h := z_iff g7 h
      refine g_iast (a := p + 20) dX9_copyFrom_69 (shp_20 hp) g7 ?_
      refine g_aload_n dX9_copyFrom_70 rfl rfl ?_
      refine g_get (a := p + 17) (v := .ref (p + 23)) dX9_copyFrom_71 f_9_19 (shp_17 hp) rfl rfl ?_
      refine g_iload_n dX9_copyFrom_74 rfl rfl ?_
      refine g_aload_n dX9_copyFrom_75 rfl rfl ?_
      refine g_get (a := q + 17) (v := .ref (q + 23)) dX9_copyFrom_76 f_9_19 (shp_17 hq2) rfl rfl ?_
      refine g_iload_n dX9_copyFrom_79 rfl rfl ?_
      by_cases g8 : x2 < 0 ∨ 60 ≤ x2.toNatClampNeg
      · rw [if_pos g8] at h; cases h
      replace h := z_iff g8 h
      refine g_iald (a := q + 21) dX9_copyFrom_80 (shp_21 hq2) g8 ?_
      by_cases g9 : x2 < 0 ∨ 60 ≤ x2.toNatClampNeg
      · rw [if_pos g9] at h; cases h
      replace h := z_iff g9 h
      refine g_iast (a := p + 21) dX9_copyFrom_81 (shp_21 hp) g9 ?_
      refine g_aload_n dX9_copyFrom_82 rfl rfl ?_
      refine g_get (a := p + 17) (v := .ref (p + 24)) dX9_copyFrom_83 f_9_22 (shp_17 hp) rfl rfl ?_
      refine g_iload_n dX9_copyFrom_86 rfl rfl ?_
      refine g_aload_n dX9_copyFrom_87 rfl rfl ?_
      refine g_get (a := q + 17) (v := .ref (q + 24)) dX9_copyFrom_88 f_9_22 (shp_17 hq2) rfl rfl ?_
      refine g_iload_n dX9_copyFrom_91 rfl rfl ?_
      by_cases g10 : x2 < 0 ∨ 60 ≤ x2.toNatClampNeg
      · rw [if_pos g10] at h; cases h
      replace h := z_iff g10 h
      refine g_iald (a := q + 22) dX9_copyFrom_92 (shp_22 hq2) g10 ?_
      by_cases g11 : x2 < 0 ∨ 60 ≤ x2.toNatClampNeg
      · rw [if_pos g11] at h; cases h
      replace h := z_iff g11 h
      refine g_iast (a := p + 22) dX9_copyFrom_93 (shp_22 hp) g11 ?_
      refine g_iinc (v := x2 + (1 : Int32)) (ls' := [some (.ref (p + 19)), some (.ref (q + 19)), some (.int (x2 + (1 : Int32)))]) dX9_copyFrom_94 rfl rfl rfl ?_
      refine g_goto (t := 26) dX9_copyFrom_97 (by decide) ?_
      exact g_sub (z_sub_s (z_sub_s (z_sub_s z_sub_nil))) (ih _ _ _ _ _ h hq)
def F_X9_copyFrom (w : Nat) (M : z_Mem) (p : Nat) (q : Nat) : Option (Unit × z_Mem) :=
  L_X9_copyFrom w p q w (z_wI (z_wI (z_wI M (p + 17) 5 (M.1 (q + 17) 5)) (p + 17) 6 ((z_wI M (p + 17) 5 (M.1 (q + 17) 5)).1 (q + 17) 6)) (p + 17) 7 (z_tb (z_bb ((z_wI (z_wI M (p + 17) 5 (M.1 (q + 17) 5)) (p + 17) 6 ((z_wI M (p + 17) 5 (M.1 (q + 17) 5)).1 (q + 17) 6)).1 (q + 17) 7)))) (0 : Int32)
set_option maxHeartbeats 4000000 in
theorem A_X9_copyFrom {w : Nat} {M : z_Mem} {p : Nat} (hp : z_par p) {q : Nat} (hq2 : z_par q) {r : Unit} {M' : z_Mem} {Q : Option Value → z_Mem → Prop} (h : F_X9_copyFrom w M p q = some (r, M')) (hq : Q none M') : z_Cl 0 mX9_copyFrom [.ref (p + 19), .ref (q + 19)] M Q := by
  refine g_in (ls := [some (.ref (p + 19)), some (.ref (q + 19)), none]) rfl ?_
  unfold F_X9_copyFrom at h
  refine g_aload_n dX9_copyFrom_0 rfl rfl ?_
  refine g_aload_n dX9_copyFrom_1 rfl rfl ?_
  refine g_get (a := q + 17) (v := .int (M.1 (q + 17) 5)) dX9_copyFrom_2 f_9_25 (shp_17 hq2) rfl rfl ?_
  refine g_putI (a := p + 17) dX9_copyFrom_5 f_9_25 (shp_17 hp) rfl rfl rfl ?_
  refine g_aload_n dX9_copyFrom_8 rfl rfl ?_
  refine g_aload_n dX9_copyFrom_9 rfl rfl ?_
  refine g_get (a := q + 17) (v := .int ((z_wI M (p + 17) 5 (M.1 (q + 17) 5)).1 (q + 17) 6)) dX9_copyFrom_10 f_9_29 (shp_17 hq2) rfl (by simp [z_fv, z_wI, z_wL, z_wLs, upd, vp_updL]) ?_
  refine g_putI (a := p + 17) dX9_copyFrom_13 f_9_29 (shp_17 hp) rfl rfl rfl ?_
  refine g_aload_n dX9_copyFrom_16 rfl rfl ?_
  refine g_aload_n dX9_copyFrom_17 rfl rfl ?_
  refine g_get (a := q + 17) (v := .int (z_tb (z_bb ((z_wI (z_wI M (p + 17) 5 (M.1 (q + 17) 5)) (p + 17) 6 ((z_wI M (p + 17) 5 (M.1 (q + 17) 5)).1 (q + 17) 6)).1 (q + 17) 7)))) dX9_copyFrom_18 f_9_32 (shp_17 hq2) rfl (by simp [z_fv, z_bz_tb, z_wI, z_wL, z_wLs, upd, vp_updL]) ?_
  refine g_putZ (a := p + 17) dX9_copyFrom_21 f_9_32 (shp_17 hp) rfl rfl rfl (by first | exact Or.inl rfl | exact Or.inr rfl | exact z_tb01) ?_
  refine g_iconst (v := (0 : Int32)) dX9_copyFrom_24 (by decide) ?_
  refine g_istore_n (ls' := [some (.ref (p + 19)), some (.ref (q + 19)), some (.int (0 : Int32))]) dX9_copyFrom_25 rfl (Nat.le_of_ble_eq_true rfl) rfl ?_
  exact g_sub (z_sub_s (z_sub_s (z_sub_s z_sub_nil))) ((AL_X9_copyFrom (w := w) hp hq2 w) _ _ _ _ _ h hq)
theorem dX3_copyFrom_0 : decode cX3_copyFrom 0 = .ok (.aload_n 0, 1) := by decide +kernel
theorem dX3_copyFrom_1 : decode cX3_copyFrom 1 = .ok (.getfield 9, 3) := by decide +kernel
theorem dX3_copyFrom_4 : decode cX3_copyFrom 4 = .ok (.iconst 0, 1) := by decide +kernel
theorem dX3_copyFrom_5 : decode cX3_copyFrom 5 = .ok (.aload_n 1, 1) := by decide +kernel
theorem dX3_copyFrom_6 : decode cX3_copyFrom 6 = .ok (.getfield 9, 3) := by decide +kernel
theorem dX3_copyFrom_9 : decode cX3_copyFrom 9 = .ok (.iconst 0, 1) := by decide +kernel
theorem dX3_copyFrom_10 : decode cX3_copyFrom 10 = .ok (.iaload, 1) := by decide +kernel
theorem dX3_copyFrom_11 : decode cX3_copyFrom 11 = .ok (.iastore, 1) := by decide +kernel
theorem dX3_copyFrom_12 : decode cX3_copyFrom 12 = .ok (.aload_n 0, 1) := by decide +kernel
theorem dX3_copyFrom_13 : decode cX3_copyFrom 13 = .ok (.getfield 9, 3) := by decide +kernel
theorem dX3_copyFrom_16 : decode cX3_copyFrom 16 = .ok (.iconst 1, 1) := by decide +kernel
theorem dX3_copyFrom_17 : decode cX3_copyFrom 17 = .ok (.aload_n 1, 1) := by decide +kernel
theorem dX3_copyFrom_18 : decode cX3_copyFrom 18 = .ok (.getfield 9, 3) := by decide +kernel
theorem dX3_copyFrom_21 : decode cX3_copyFrom 21 = .ok (.iconst 1, 1) := by decide +kernel
theorem dX3_copyFrom_22 : decode cX3_copyFrom 22 = .ok (.iaload, 1) := by decide +kernel
theorem dX3_copyFrom_23 : decode cX3_copyFrom 23 = .ok (.iastore, 1) := by decide +kernel
theorem dX3_copyFrom_24 : decode cX3_copyFrom 24 = .ok (.aload_n 0, 1) := by decide +kernel
theorem dX3_copyFrom_25 : decode cX3_copyFrom 25 = .ok (.getfield 18, 3) := by decide +kernel
theorem dX3_copyFrom_28 : decode cX3_copyFrom 28 = .ok (.aload_n 1, 1) := by decide +kernel
theorem dX3_copyFrom_29 : decode cX3_copyFrom 29 = .ok (.getfield 18, 3) := by decide +kernel
theorem dX3_copyFrom_32 : decode cX3_copyFrom 32 = .ok (.invokevirtual 134, 3) := by decide +kernel
theorem dX3_copyFrom_35 : decode cX3_copyFrom 35 = .ok (.aload_n 0, 1) := by decide +kernel
theorem dX3_copyFrom_36 : decode cX3_copyFrom 36 = .ok (.getfield 25, 3) := by decide +kernel
theorem dX3_copyFrom_39 : decode cX3_copyFrom 39 = .ok (.aload_n 1, 1) := by decide +kernel
theorem dX3_copyFrom_40 : decode cX3_copyFrom 40 = .ok (.getfield 25, 3) := by decide +kernel
theorem dX3_copyFrom_43 : decode cX3_copyFrom 43 = .ok (.invokevirtual 138, 3) := by decide +kernel
theorem dX3_copyFrom_46 : decode cX3_copyFrom 46 = .ok (.aload_n 0, 1) := by decide +kernel
theorem dX3_copyFrom_47 : decode cX3_copyFrom 47 = .ok (.getfield 32, 3) := by decide +kernel
theorem dX3_copyFrom_50 : decode cX3_copyFrom 50 = .ok (.aload_n 1, 1) := by decide +kernel
theorem dX3_copyFrom_51 : decode cX3_copyFrom 51 = .ok (.getfield 32, 3) := by decide +kernel
theorem dX3_copyFrom_54 : decode cX3_copyFrom 54 = .ok (.invokevirtual 141, 3) := by decide +kernel
theorem dX3_copyFrom_57 : decode cX3_copyFrom 57 = .ok (.aload_n 0, 1) := by decide +kernel
theorem dX3_copyFrom_58 : decode cX3_copyFrom 58 = .ok (.getfield 39, 3) := by decide +kernel
theorem dX3_copyFrom_61 : decode cX3_copyFrom 61 = .ok (.aload_n 1, 1) := by decide +kernel
theorem dX3_copyFrom_62 : decode cX3_copyFrom 62 = .ok (.getfield 39, 3) := by decide +kernel
theorem dX3_copyFrom_65 : decode cX3_copyFrom 65 = .ok (.invokevirtual 144, 3) := by decide +kernel
theorem dX3_copyFrom_68 : decode cX3_copyFrom 68 = .ok (.aload_n 0, 1) := by decide +kernel
theorem dX3_copyFrom_69 : decode cX3_copyFrom 69 = .ok (.aload_n 1, 1) := by decide +kernel
theorem dX3_copyFrom_70 : decode cX3_copyFrom 70 = .ok (.getfield 56, 3) := by decide +kernel
theorem dX3_copyFrom_73 : decode cX3_copyFrom 73 = .ok (.putfield 56, 3) := by decide +kernel
theorem dX3_copyFrom_76 : decode cX3_copyFrom 76 = .ok (.aload_n 0, 1) := by decide +kernel
theorem dX3_copyFrom_77 : decode cX3_copyFrom 77 = .ok (.aload_n 1, 1) := by decide +kernel
theorem dX3_copyFrom_78 : decode cX3_copyFrom 78 = .ok (.getfield 59, 3) := by decide +kernel
theorem dX3_copyFrom_81 : decode cX3_copyFrom 81 = .ok (.putfield 59, 3) := by decide +kernel
theorem dX3_copyFrom_84 : decode cX3_copyFrom 84 = .ok (.aload_n 0, 1) := by decide +kernel
theorem dX3_copyFrom_85 : decode cX3_copyFrom 85 = .ok (.aload_n 1, 1) := by decide +kernel
theorem dX3_copyFrom_86 : decode cX3_copyFrom 86 = .ok (.getfield 62, 3) := by decide +kernel
theorem dX3_copyFrom_89 : decode cX3_copyFrom 89 = .ok (.putfield 62, 3) := by decide +kernel
theorem dX3_copyFrom_92 : decode cX3_copyFrom 92 = .ok (.aload_n 0, 1) := by decide +kernel
theorem dX3_copyFrom_93 : decode cX3_copyFrom 93 = .ok (.aload_n 1, 1) := by decide +kernel
theorem dX3_copyFrom_94 : decode cX3_copyFrom 94 = .ok (.getfield 75, 3) := by decide +kernel
theorem dX3_copyFrom_97 : decode cX3_copyFrom 97 = .ok (.putfield 75, 3) := by decide +kernel
theorem dX3_copyFrom_100 : decode cX3_copyFrom 100 = .ok (.aload_n 0, 1) := by decide +kernel
theorem dX3_copyFrom_101 : decode cX3_copyFrom 101 = .ok (.aload_n 1, 1) := by decide +kernel
theorem dX3_copyFrom_102 : decode cX3_copyFrom 102 = .ok (.getfield 78, 3) := by decide +kernel
theorem dX3_copyFrom_105 : decode cX3_copyFrom 105 = .ok (.putfield 78, 3) := by decide +kernel
theorem dX3_copyFrom_108 : decode cX3_copyFrom 108 = .ok (.aload_n 0, 1) := by decide +kernel
theorem dX3_copyFrom_109 : decode cX3_copyFrom 109 = .ok (.aload_n 1, 1) := by decide +kernel
theorem dX3_copyFrom_110 : decode cX3_copyFrom 110 = .ok (.getfield 65, 3) := by decide +kernel
theorem dX3_copyFrom_113 : decode cX3_copyFrom 113 = .ok (.putfield 65, 3) := by decide +kernel
theorem dX3_copyFrom_116 : decode cX3_copyFrom 116 = .ok (.aload_n 0, 1) := by decide +kernel
theorem dX3_copyFrom_117 : decode cX3_copyFrom 117 = .ok (.aload_n 1, 1) := by decide +kernel
theorem dX3_copyFrom_118 : decode cX3_copyFrom 118 = .ok (.getfield 68, 3) := by decide +kernel
theorem dX3_copyFrom_121 : decode cX3_copyFrom 121 = .ok (.putfield 68, 3) := by decide +kernel
theorem dX3_copyFrom_124 : decode cX3_copyFrom 124 = .ok (.return_, 1) := by decide +kernel
def F_X3_copyFrom (w : Nat) (M : z_Mem) (p : Nat) (q : Nat) : Option (Unit × z_Mem) :=
  (F_X6_copyFrom w (z_wI (z_wI M (p + 1) 0 (M.1 (q + 1) 0)) (p + 1) 1 ((z_wI M (p + 1) 0 (M.1 (q + 1) 0)).1 (q + 1) 1)) p q).bind fun q1 =>
  (F_X1_copyFrom w q1.2 p q).bind fun q3 =>
  (F_X0_copyFrom w q3.2 p q).bind fun q5 =>
  (F_X9_copyFrom w q5.2 p q).bind fun q7 =>
  some ((), (z_wI (z_wI (z_wI (z_wI (z_wI (z_wI (z_wI q7.2 p 5 (q7.2.1 q 5)) p 6 ((z_wI q7.2 p 5 (q7.2.1 q 5)).1 q 6)) p 7 ((z_wI (z_wI q7.2 p 5 (q7.2.1 q 5)) p 6 ((z_wI q7.2 p 5 (q7.2.1 q 5)).1 q 6)).1 q 7)) p 8 ((z_wI (z_wI (z_wI q7.2 p 5 (q7.2.1 q 5)) p 6 ((z_wI q7.2 p 5 (q7.2.1 q 5)).1 q 6)) p 7 ((z_wI (z_wI q7.2 p 5 (q7.2.1 q 5)) p 6 ((z_wI q7.2 p 5 (q7.2.1 q 5)).1 q 6)).1 q 7)).1 q 8)) p 9 ((z_wI (z_wI (z_wI (z_wI q7.2 p 5 (q7.2.1 q 5)) p 6 ((z_wI q7.2 p 5 (q7.2.1 q 5)).1 q 6)) p 7 ((z_wI (z_wI q7.2 p 5 (q7.2.1 q 5)) p 6 ((z_wI q7.2 p 5 (q7.2.1 q 5)).1 q 6)).1 q 7)) p 8 ((z_wI (z_wI (z_wI q7.2 p 5 (q7.2.1 q 5)) p 6 ((z_wI q7.2 p 5 (q7.2.1 q 5)).1 q 6)) p 7 ((z_wI (z_wI q7.2 p 5 (q7.2.1 q 5)) p 6 ((z_wI q7.2 p 5 (q7.2.1 q 5)).1 q 6)).1 q 7)).1 q 8)).1 q 9)) p 10 ((z_wI (z_wI (z_wI (z_wI (z_wI q7.2 p 5 (q7.2.1 q 5)) p 6 ((z_wI q7.2 p 5 (q7.2.1 q 5)).1 q 6)) p 7 ((z_wI (z_wI q7.2 p 5 (q7.2.1 q 5)) p 6 ((z_wI q7.2 p 5 (q7.2.1 q 5)).1 q 6)).1 q 7)) p 8 ((z_wI (z_wI (z_wI q7.2 p 5 (q7.2.1 q 5)) p 6 ((z_wI q7.2 p 5 (q7.2.1 q 5)).1 q 6)) p 7 ((z_wI (z_wI q7.2 p 5 (q7.2.1 q 5)) p 6 ((z_wI q7.2 p 5 (q7.2.1 q 5)).1 q 6)).1 q 7)).1 q 8)) p 9 ((z_wI (z_wI (z_wI (z_wI q7.2 p 5 (q7.2.1 q 5)) p 6 ((z_wI q7.2 p 5 (q7.2.1 q 5)).1 q 6)) p 7 ((z_wI (z_wI q7.2 p 5 (q7.2.1 q 5)) p 6 ((z_wI q7.2 p 5 (q7.2.1 q 5)).1 q 6)).1 q 7)) p 8 ((z_wI (z_wI (z_wI q7.2 p 5 (q7.2.1 q 5)) p 6 ((z_wI q7.2 p 5 (q7.2.1 q 5)).1 q 6)) p 7 ((z_wI (z_wI q7.2 p 5 (q7.2.1 q 5)) p 6 ((z_wI q7.2 p 5 (q7.2.1 q 5)).1 q 6)).1 q 7)).1 q 8)).1 q 9)).1 q 10)) p 11 ((z_wI (z_wI (z_wI (z_wI (z_wI (z_wI q7.2 p 5 (q7.2.1 q 5)) p 6 ((z_wI q7.2 p 5 (q7.2.1 q 5)).1 q 6)) p 7 ((z_wI (z_wI q7.2 p 5 (q7.2.1 q 5)) p 6 ((z_wI q7.2 p 5 (q7.2.1 q 5)).1 q 6)).1 q 7)) p 8 ((z_wI (z_wI (z_wI q7.2 p 5 (q7.2.1 q 5)) p 6 ((z_wI q7.2 p 5 (q7.2.1 q 5)).1 q 6)) p 7 ((z_wI (z_wI q7.2 p 5 (q7.2.1 q 5)) p 6 ((z_wI q7.2 p 5 (q7.2.1 q 5)).1 q 6)).1 q 7)).1 q 8)) p 9 ((z_wI (z_wI (z_wI (z_wI q7.2 p 5 (q7.2.1 q 5)) p 6 ((z_wI q7.2 p 5 (q7.2.1 q 5)).1 q 6)) p 7 ((z_wI (z_wI q7.2 p 5 (q7.2.1 q 5)) p 6 ((z_wI q7.2 p 5 (q7.2.1 q 5)).1 q 6)).1 q 7)) p 8 ((z_wI (z_wI (z_wI q7.2 p 5 (q7.2.1 q 5)) p 6 ((z_wI q7.2 p 5 (q7.2.1 q 5)).1 q 6)) p 7 ((z_wI (z_wI q7.2 p 5 (q7.2.1 q 5)) p 6 ((z_wI q7.2 p 5 (q7.2.1 q 5)).1 q 6)).1 q 7)).1 q 8)).1 q 9)) p 10 ((z_wI (z_wI (z_wI (z_wI (z_wI q7.2 p 5 (q7.2.1 q 5)) p 6 ((z_wI q7.2 p 5 (q7.2.1 q 5)).1 q 6)) p 7 ((z_wI (z_wI q7.2 p 5 (q7.2.1 q 5)) p 6 ((z_wI q7.2 p 5 (q7.2.1 q 5)).1 q 6)).1 q 7)) p 8 ((z_wI (z_wI (z_wI q7.2 p 5 (q7.2.1 q 5)) p 6 ((z_wI q7.2 p 5 (q7.2.1 q 5)).1 q 6)) p 7 ((z_wI (z_wI q7.2 p 5 (q7.2.1 q 5)) p 6 ((z_wI q7.2 p 5 (q7.2.1 q 5)).1 q 6)).1 q 7)).1 q 8)) p 9 ((z_wI (z_wI (z_wI (z_wI q7.2 p 5 (q7.2.1 q 5)) p 6 ((z_wI q7.2 p 5 (q7.2.1 q 5)).1 q 6)) p 7 ((z_wI (z_wI q7.2 p 5 (q7.2.1 q 5)) p 6 ((z_wI q7.2 p 5 (q7.2.1 q 5)).1 q 6)).1 q 7)) p 8 ((z_wI (z_wI (z_wI q7.2 p 5 (q7.2.1 q 5)) p 6 ((z_wI q7.2 p 5 (q7.2.1 q 5)).1 q 6)) p 7 ((z_wI (z_wI q7.2 p 5 (q7.2.1 q 5)) p 6 ((z_wI q7.2 p 5 (q7.2.1 q 5)).1 q 6)).1 q 7)).1 q 8)).1 q 9)).1 q 10)).1 q 11)))
set_option maxHeartbeats 4000000 in
theorem A_X3_copyFrom {w : Nat} {M : z_Mem} {p : Nat} (hp : z_par p) {q : Nat} (hq2 : z_par q) {r : Unit} {M' : z_Mem} {Q : Option Value → z_Mem → Prop} (h : F_X3_copyFrom w M p q = some (r, M')) (hq : Q none M') : z_Cl 2 mX3_copyFrom [.ref (p + 2), .ref (q + 2)] M Q := by
  refine g_in (ls := [some (.ref (p + 2)), some (.ref (q + 2))]) rfl ?_
  unfold F_X3_copyFrom at h
  refine g_aload_n dX3_copyFrom_0 rfl rfl ?_
  refine g_get (a := p) (v := .ref (p + 3)) dX3_copyFrom_1 f_3_9 (shp_0 hp) rfl rfl ?_
  refine g_iconst (v := (0 : Int32)) dX3_copyFrom_4 (by decide) ?_
  refine g_aload_n dX3_copyFrom_5 rfl rfl ?_
  refine g_get (a := q) (v := .ref (q + 3)) dX3_copyFrom_6 f_3_9 (shp_0 hq2) rfl rfl ?_
  refine g_iconst (v := (0 : Int32)) dX3_copyFrom_9 (by decide) ?_
  refine g_ialN (a := q + 1) (j := 0) (v := M.1 (q + 1) 0) dX3_copyFrom_10 (shp_1 hq2) rfl (by decide) rfl ?_
  refine g_iasN (a := p + 1) (j := 0) dX3_copyFrom_11 (shp_1 hp) rfl (by decide) ?_
  refine g_aload_n dX3_copyFrom_12 rfl rfl ?_
  refine g_get (a := p) (v := .ref (p + 3)) dX3_copyFrom_13 f_3_9 (shp_0 hp) rfl rfl ?_
  refine g_iconst (v := (1 : Int32)) dX3_copyFrom_16 (by decide) ?_
  refine g_aload_n dX3_copyFrom_17 rfl rfl ?_
  refine g_get (a := q) (v := .ref (q + 3)) dX3_copyFrom_18 f_3_9 (shp_0 hq2) rfl rfl ?_
  refine g_iconst (v := (1 : Int32)) dX3_copyFrom_21 (by decide) ?_
  refine g_ialN (a := q + 1) (j := 1) (v := (z_wI M (p + 1) 0 (M.1 (q + 1) 0)).1 (q + 1) 1) dX3_copyFrom_22 (shp_1 hq2) rfl (by decide) (by simp [z_wI, z_wL, z_wLs, upd, vp_updL]) ?_
  refine g_iasN (a := p + 1) (j := 1) dX3_copyFrom_23 (shp_1 hp) rfl (by decide) ?_
  refine g_aload_n dX3_copyFrom_24 rfl rfl ?_
  refine g_get (a := p) (v := .ref (p + 4)) dX3_copyFrom_25 f_3_18 (shp_0 hp) rfl rfl ?_
  refine g_aload_n dX3_copyFrom_28 rfl rfl ?_
  refine g_get (a := q) (v := .ref (q + 4)) dX3_copyFrom_29 f_3_18 (shp_0 hq2) rfl rfl ?_
  obtain ⟨q1, e2, h⟩ := z_bd h
  refine g_callV (a := p + 2) (as := [.ref (q + 4)]) (rest := []) (c := mX6_copyFrom) (k1 := 0) dX3_copyFrom_32 rfl rfl rfl (shp_2 hp) rfl rfl (Nat.le_of_ble_eq_true rfl) (Nat.le_of_ble_eq_true rfl) (by decide) ?_
  refine A_X6_copyFrom hp hq2 e2 ?_
  show z_G none 2 mX3_copyFrom 35 [some (.ref (p + 2)), some (.ref (q + 2))] [] q1.2 Q
  refine g_aload_n dX3_copyFrom_35 rfl rfl ?_
  refine g_get (a := p) (v := .ref (p + 10)) dX3_copyFrom_36 f_3_25 (shp_0 hp) rfl rfl ?_
  refine g_aload_n dX3_copyFrom_39 rfl rfl ?_
  refine g_get (a := q) (v := .ref (q + 10)) dX3_copyFrom_40 f_3_25 (shp_0 hq2) rfl rfl ?_
  obtain ⟨q3, e4, h⟩ := z_bd h
  refine g_callV (a := p + 8) (as := [.ref (q + 10)]) (rest := []) (c := mX1_copyFrom) (k1 := 1) dX3_copyFrom_43 rfl rfl rfl (shp_8 hp) rfl rfl (Nat.le_of_ble_eq_true rfl) (Nat.le_of_ble_eq_true rfl) (by decide) ?_
  refine A_X1_copyFrom hp hq2 e4 ?_
  show z_G none 2 mX3_copyFrom 46 [some (.ref (p + 2)), some (.ref (q + 2))] [] q3.2 Q
  refine g_aload_n dX3_copyFrom_46 rfl rfl ?_
  refine g_get (a := p) (v := .ref (p + 14)) dX3_copyFrom_47 f_3_32 (shp_0 hp) rfl rfl ?_
  refine g_aload_n dX3_copyFrom_50 rfl rfl ?_
  refine g_get (a := q) (v := .ref (q + 14)) dX3_copyFrom_51 f_3_32 (shp_0 hq2) rfl rfl ?_
  obtain ⟨q5, e6, h⟩ := z_bd h
  refine g_callV (a := p + 12) (as := [.ref (q + 14)]) (rest := []) (c := mX0_copyFrom) (k1 := 0) dX3_copyFrom_54 rfl rfl rfl (shp_12 hp) rfl rfl (Nat.le_of_ble_eq_true rfl) (Nat.le_of_ble_eq_true rfl) (by decide) ?_
  refine A_X0_copyFrom hp hq2 e6 ?_
  show z_G none 2 mX3_copyFrom 57 [some (.ref (p + 2)), some (.ref (q + 2))] [] q5.2 Q
  refine g_aload_n dX3_copyFrom_57 rfl rfl ?_
  refine g_get (a := p) (v := .ref (p + 19)) dX3_copyFrom_58 f_3_39 (shp_0 hp) rfl rfl ?_
  refine g_aload_n dX3_copyFrom_61 rfl rfl ?_
  refine g_get (a := q) (v := .ref (q + 19)) dX3_copyFrom_62 f_3_39 (shp_0 hq2) rfl rfl ?_
  obtain ⟨q7, e8, h⟩ := z_bd h
  refine g_callV (a := p + 17) (as := [.ref (q + 19)]) (rest := []) (c := mX9_copyFrom) (k1 := 0) dX3_copyFrom_65 rfl rfl rfl (shp_17 hp) rfl rfl (Nat.le_of_ble_eq_true rfl) (Nat.le_of_ble_eq_true rfl) (by decide) ?_
  refine A_X9_copyFrom hp hq2 e8 ?_
  show z_G none 2 mX3_copyFrom 68 [some (.ref (p + 2)), some (.ref (q + 2))] [] q7.2 Q
  refine g_aload_n dX3_copyFrom_68 rfl rfl ?_
  refine g_aload_n dX3_copyFrom_69 rfl rfl ?_
  refine g_get (a := q) (v := .int (q7.2.1 q 5)) dX3_copyFrom_70 f_3_56 (shp_0 hq2) rfl rfl ?_
  refine g_putI (a := p) dX3_copyFrom_73 f_3_56 (shp_0 hp) rfl rfl rfl ?_
  refine g_aload_n dX3_copyFrom_76 rfl rfl ?_
  refine g_aload_n dX3_copyFrom_77 rfl rfl ?_
  refine g_get (a := q) (v := .int ((z_wI q7.2 p 5 (q7.2.1 q 5)).1 q 6)) dX3_copyFrom_78 f_3_59 (shp_0 hq2) rfl (by simp [z_fv, z_wI, z_wL, z_wLs, upd, vp_updL]) ?_
  refine g_putI (a := p) dX3_copyFrom_81 f_3_59 (shp_0 hp) rfl rfl rfl ?_
  refine g_aload_n dX3_copyFrom_84 rfl rfl ?_
  refine g_aload_n dX3_copyFrom_85 rfl rfl ?_
  refine g_get (a := q) (v := .int ((z_wI (z_wI q7.2 p 5 (q7.2.1 q 5)) p 6 ((z_wI q7.2 p 5 (q7.2.1 q 5)).1 q 6)).1 q 7)) dX3_copyFrom_86 f_3_62 (shp_0 hq2) rfl (by simp [z_fv, z_wI, z_wL, z_wLs, upd, vp_updL]) ?_
  refine g_putI (a := p) dX3_copyFrom_89 f_3_62 (shp_0 hp) rfl rfl rfl ?_
  refine g_aload_n dX3_copyFrom_92 rfl rfl ?_
  refine g_aload_n dX3_copyFrom_93 rfl rfl ?_
  refine g_get (a := q) (v := .int ((z_wI (z_wI (z_wI q7.2 p 5 (q7.2.1 q 5)) p 6 ((z_wI q7.2 p 5 (q7.2.1 q 5)).1 q 6)) p 7 ((z_wI (z_wI q7.2 p 5 (q7.2.1 q 5)) p 6 ((z_wI q7.2 p 5 (q7.2.1 q 5)).1 q 6)).1 q 7)).1 q 8)) dX3_copyFrom_94 f_3_75 (shp_0 hq2) rfl (by simp [z_fv, z_wI, z_wL, z_wLs, upd, vp_updL]) ?_
  refine g_putI (a := p) dX3_copyFrom_97 f_3_75 (shp_0 hp) rfl rfl rfl ?_
  refine g_aload_n dX3_copyFrom_100 rfl rfl ?_
  refine g_aload_n dX3_copyFrom_101 rfl rfl ?_
  refine g_get (a := q) (v := .int ((z_wI (z_wI (z_wI (z_wI q7.2 p 5 (q7.2.1 q 5)) p 6 ((z_wI q7.2 p 5 (q7.2.1 q 5)).1 q 6)) p 7 ((z_wI (z_wI q7.2 p 5 (q7.2.1 q 5)) p 6 ((z_wI q7.2 p 5 (q7.2.1 q 5)).1 q 6)).1 q 7)) p 8 ((z_wI (z_wI (z_wI q7.2 p 5 (q7.2.1 q 5)) p 6 ((z_wI q7.2 p 5 (q7.2.1 q 5)).1 q 6)) p 7 ((z_wI (z_wI q7.2 p 5 (q7.2.1 q 5)) p 6 ((z_wI q7.2 p 5 (q7.2.1 q 5)).1 q 6)).1 q 7)).1 q 8)).1 q 9)) dX3_copyFrom_102 f_3_78 (shp_0 hq2) rfl (by simp [z_fv, z_wI, z_wL, z_wLs, upd, vp_updL]) ?_
  refine g_putI (a := p) dX3_copyFrom_105 f_3_78 (shp_0 hp) rfl rfl rfl ?_
  refine g_aload_n dX3_copyFrom_108 rfl rfl ?_
  refine g_aload_n dX3_copyFrom_109 rfl rfl ?_
  refine g_get (a := q) (v := .int ((z_wI (z_wI (z_wI (z_wI (z_wI q7.2 p 5 (q7.2.1 q 5)) p 6 ((z_wI q7.2 p 5 (q7.2.1 q 5)).1 q 6)) p 7 ((z_wI (z_wI q7.2 p 5 (q7.2.1 q 5)) p 6 ((z_wI q7.2 p 5 (q7.2.1 q 5)).1 q 6)).1 q 7)) p 8 ((z_wI (z_wI (z_wI q7.2 p 5 (q7.2.1 q 5)) p 6 ((z_wI q7.2 p 5 (q7.2.1 q 5)).1 q 6)) p 7 ((z_wI (z_wI q7.2 p 5 (q7.2.1 q 5)) p 6 ((z_wI q7.2 p 5 (q7.2.1 q 5)).1 q 6)).1 q 7)).1 q 8)) p 9 ((z_wI (z_wI (z_wI (z_wI q7.2 p 5 (q7.2.1 q 5)) p 6 ((z_wI q7.2 p 5 (q7.2.1 q 5)).1 q 6)) p 7 ((z_wI (z_wI q7.2 p 5 (q7.2.1 q 5)) p 6 ((z_wI q7.2 p 5 (q7.2.1 q 5)).1 q 6)).1 q 7)) p 8 ((z_wI (z_wI (z_wI q7.2 p 5 (q7.2.1 q 5)) p 6 ((z_wI q7.2 p 5 (q7.2.1 q 5)).1 q 6)) p 7 ((z_wI (z_wI q7.2 p 5 (q7.2.1 q 5)) p 6 ((z_wI q7.2 p 5 (q7.2.1 q 5)).1 q 6)).1 q 7)).1 q 8)).1 q 9)).1 q 10)) dX3_copyFrom_110 f_3_65 (shp_0 hq2) rfl (by simp [z_fv, z_wI, z_wL, z_wLs, upd, vp_updL]) ?_
  refine g_putI (a := p) dX3_copyFrom_113 f_3_65 (shp_0 hp) rfl rfl rfl ?_
  refine g_aload_n dX3_copyFrom_116 rfl rfl ?_
  refine g_aload_n dX3_copyFrom_117 rfl rfl ?_
  refine g_get (a := q) (v := .int ((z_wI (z_wI (z_wI (z_wI (z_wI (z_wI q7.2 p 5 (q7.2.1 q 5)) p 6 ((z_wI q7.2 p 5 (q7.2.1 q 5)).1 q 6)) p 7 ((z_wI (z_wI q7.2 p 5 (q7.2.1 q 5)) p 6 ((z_wI q7.2 p 5 (q7.2.1 q 5)).1 q 6)).1 q 7)) p 8 ((z_wI (z_wI (z_wI q7.2 p 5 (q7.2.1 q 5)) p 6 ((z_wI q7.2 p 5 (q7.2.1 q 5)).1 q 6)) p 7 ((z_wI (z_wI q7.2 p 5 (q7.2.1 q 5)) p 6 ((z_wI q7.2 p 5 (q7.2.1 q 5)).1 q 6)).1 q 7)).1 q 8)) p 9 ((z_wI (z_wI (z_wI (z_wI q7.2 p 5 (q7.2.1 q 5)) p 6 ((z_wI q7.2 p 5 (q7.2.1 q 5)).1 q 6)) p 7 ((z_wI (z_wI q7.2 p 5 (q7.2.1 q 5)) p 6 ((z_wI q7.2 p 5 (q7.2.1 q 5)).1 q 6)).1 q 7)) p 8 ((z_wI (z_wI (z_wI q7.2 p 5 (q7.2.1 q 5)) p 6 ((z_wI q7.2 p 5 (q7.2.1 q 5)).1 q 6)) p 7 ((z_wI (z_wI q7.2 p 5 (q7.2.1 q 5)) p 6 ((z_wI q7.2 p 5 (q7.2.1 q 5)).1 q 6)).1 q 7)).1 q 8)).1 q 9)) p 10 ((z_wI (z_wI (z_wI (z_wI (z_wI q7.2 p 5 (q7.2.1 q 5)) p 6 ((z_wI q7.2 p 5 (q7.2.1 q 5)).1 q 6)) p 7 ((z_wI (z_wI q7.2 p 5 (q7.2.1 q 5)) p 6 ((z_wI q7.2 p 5 (q7.2.1 q 5)).1 q 6)).1 q 7)) p 8 ((z_wI (z_wI (z_wI q7.2 p 5 (q7.2.1 q 5)) p 6 ((z_wI q7.2 p 5 (q7.2.1 q 5)).1 q 6)) p 7 ((z_wI (z_wI q7.2 p 5 (q7.2.1 q 5)) p 6 ((z_wI q7.2 p 5 (q7.2.1 q 5)).1 q 6)).1 q 7)).1 q 8)) p 9 ((z_wI (z_wI (z_wI (z_wI q7.2 p 5 (q7.2.1 q 5)) p 6 ((z_wI q7.2 p 5 (q7.2.1 q 5)).1 q 6)) p 7 ((z_wI (z_wI q7.2 p 5 (q7.2.1 q 5)) p 6 ((z_wI q7.2 p 5 (q7.2.1 q 5)).1 q 6)).1 q 7)) p 8 ((z_wI (z_wI (z_wI q7.2 p 5 (q7.2.1 q 5)) p 6 ((z_wI q7.2 p 5 (q7.2.1 q 5)).1 q 6)) p 7 ((z_wI (z_wI q7.2 p 5 (q7.2.1 q 5)) p 6 ((z_wI q7.2 p 5 (q7.2.1 q 5)).1 q 6)).1 q 7)).1 q 8)).1 q 9)).1 q 10)).1 q 11)) dX3_copyFrom_118 f_3_68 (shp_0 hq2) rfl (by simp [z_fv, z_wI, z_wL, z_wLs, upd, vp_updL]) ?_
  refine g_putI (a := p) dX3_copyFrom_121 f_3_68 (shp_0 hp) rfl rfl rfl ?_
  cases h
  exact g_vret dX3_copyFrom_124 rfl hq
theorem dX7_isBetween_0 : decode cX7_isBetween 0 = .ok (.aload_n 0, 1) := by decide +kernel
theorem dX7_isBetween_1 : decode cX7_isBetween 1 = .ok (.getfield 11, 3) := by decide +kernel
theorem dX7_isBetween_4 : decode cX7_isBetween 4 = .ok (.iload_n 1, 1) := by decide +kernel
theorem dX7_isBetween_5 : decode cX7_isBetween 5 = .ok (.baload, 1) := by decide +kernel
theorem dX7_isBetween_6 : decode cX7_isBetween 6 = .ok (.iload_n 2, 1) := by decide +kernel
theorem dX7_isBetween_7 : decode cX7_isBetween 7 = .ok (.if_icmp .lt 17, 3) := by decide +kernel
theorem dX7_isBetween_10 : decode cX7_isBetween 10 = .ok (.aload_n 0, 1) := by decide +kernel
theorem dX7_isBetween_11 : decode cX7_isBetween 11 = .ok (.getfield 11, 3) := by decide +kernel
theorem dX7_isBetween_14 : decode cX7_isBetween 14 = .ok (.iload_n 1, 1) := by decide +kernel
theorem dX7_isBetween_15 : decode cX7_isBetween 15 = .ok (.baload, 1) := by decide +kernel
theorem dX7_isBetween_16 : decode cX7_isBetween 16 = .ok (.iload_n 3, 1) := by decide +kernel
theorem dX7_isBetween_17 : decode cX7_isBetween 17 = .ok (.if_icmp .gt 7, 3) := by decide +kernel
theorem dX7_isBetween_20 : decode cX7_isBetween 20 = .ok (.iconst 1, 1) := by decide +kernel
theorem dX7_isBetween_21 : decode cX7_isBetween 21 = .ok (.goto 4, 3) := by decide +kernel
theorem dX7_isBetween_24 : decode cX7_isBetween 24 = .ok (.iconst 0, 1) := by decide +kernel
theorem dX7_isBetween_25 : decode cX7_isBetween 25 = .ok (.ireturn, 1) := by decide +kernel
def F_X7_isBetween (w : Nat) (M : z_Mem) (a1 : Int32) (a2 : Int32) (a3 : Int32) : Option (Bool × z_Mem) :=
  if a1 < 0 ∨ 900 ≤ a1.toNatClampNeg then none else
  if (M.1 6 a1.toNatClampNeg) < a2 then
  some (false, M)
  else
  if a1 < 0 ∨ 900 ≤ a1.toNatClampNeg then none else
  if a3 < (M.1 6 a1.toNatClampNeg) then
  some (false, M)
  else
  some (true, M)
set_option maxHeartbeats 4000000 in
theorem A_X7_isBetween {w : Nat} {M : z_Mem} {a1 : Int32} {a2 : Int32} {a3 : Int32} {r : Bool} {M' : z_Mem} {Q : Option Value → z_Mem → Prop} (h : F_X7_isBetween w M a1 a2 a3 = some (r, M')) (hq : Q (some (.int (z_tb r))) M') : z_Cl 0 mX7_isBetween [.ref 7, .int a1, .int a2, .int a3] M Q := by
  refine g_in (ls := [some (.ref 7), some (.int a1), some (.int a2), some (.int a3)]) rfl ?_
  unfold F_X7_isBetween at h
  refine g_aload_n dX7_isBetween_0 rfl rfl ?_
  refine g_get (a := 5) (v := .ref 8) dX7_isBetween_1 f_7_11 sh_5 rfl rfl ?_
  refine g_iload_n dX7_isBetween_4 rfl rfl ?_
  by_cases g1 : a1 < 0 ∨ 900 ≤ a1.toNatClampNeg
  · rw [if_pos g1] at h; cases h
  replace h := z_iff g1 h
  refine g_bald (a := 6) dX7_isBetween_5 sh_6 g1 ?_
  refine g_iload_n dX7_isBetween_6 rfl rfl ?_
  refine g_ic_lt (t := 24) dX7_isBetween_7 (by decide) (fun c2 => ?_) (fun c2 => ?_)
  · replace h := z_ift c2 h
    refine g_iconst (v := (0 : Int32)) dX7_isBetween_24 (by decide) ?_
    cases h
    exact g_iret dX7_isBetween_25 rfl rfl hq
  · replace h := z_iff c2 h
    refine g_aload_n dX7_isBetween_10 rfl rfl ?_
    refine g_get (a := 5) (v := .ref 8) dX7_isBetween_11 f_7_11 sh_5 rfl rfl ?_
    refine g_iload_n dX7_isBetween_14 rfl rfl ?_
    by_cases g3 : a1 < 0 ∨ 900 ≤ a1.toNatClampNeg
    · rw [if_pos g3] at h; cases h
    replace h := z_iff g3 h
    refine g_bald (a := 6) dX7_isBetween_15 sh_6 g3 ?_
    refine g_iload_n dX7_isBetween_16 rfl rfl ?_
    refine g_ic_gt (t := 24) dX7_isBetween_17 (by decide) (fun c4 => ?_) (fun c4 => ?_)
    · replace h := z_ift c4 h
      refine g_iconst (v := (0 : Int32)) dX7_isBetween_24 (by decide) ?_
      cases h
      exact g_iret dX7_isBetween_25 rfl rfl hq
    · replace h := z_iff c4 h
      refine g_iconst (v := (1 : Int32)) dX7_isBetween_20 (by decide) ?_
      refine g_goto (t := 25) dX7_isBetween_21 (by decide) ?_
      cases h
      exact g_iret dX7_isBetween_25 rfl rfl hq
theorem dX7_goBehind_0 : decode cX7_goBehind 0 = .ok (.aload_n 0, 1) := by decide +kernel
theorem dX7_goBehind_1 : decode cX7_goBehind 1 = .ok (.getfield 22, 3) := by decide +kernel
theorem dX7_goBehind_4 : decode cX7_goBehind 4 = .ok (.aload_n 0, 1) := by decide +kernel
theorem dX7_goBehind_5 : decode cX7_goBehind 5 = .ok (.getfield 19, 3) := by decide +kernel
theorem dX7_goBehind_8 : decode cX7_goBehind 8 = .ok (.if_icmp .ge 29, 3) := by decide +kernel
theorem dX7_goBehind_11 : decode cX7_goBehind 11 = .ok (.aload_n 0, 1) := by decide +kernel
theorem dX7_goBehind_12 : decode cX7_goBehind 12 = .ok (.aload_n 0, 1) := by decide +kernel
theorem dX7_goBehind_13 : decode cX7_goBehind 13 = .ok (.getfield 22, 3) := by decide +kernel
theorem dX7_goBehind_16 : decode cX7_goBehind 16 = .ok (.iload_n 1, 1) := by decide +kernel
theorem dX7_goBehind_17 : decode cX7_goBehind 17 = .ok (.iload_n 2, 1) := by decide +kernel
theorem dX7_goBehind_18 : decode cX7_goBehind 18 = .ok (.invokevirtual 40, 3) := by decide +kernel
theorem dX7_goBehind_21 : decode cX7_goBehind 21 = .ok (.ifCond .eq 16, 3) := by decide +kernel
theorem dX7_goBehind_24 : decode cX7_goBehind 24 = .ok (.aload_n 0, 1) := by decide +kernel
theorem dX7_goBehind_25 : decode cX7_goBehind 25 = .ok (.dup, 1) := by decide +kernel
theorem dX7_goBehind_26 : decode cX7_goBehind 26 = .ok (.getfield 22, 3) := by decide +kernel
theorem dX7_goBehind_29 : decode cX7_goBehind 29 = .ok (.iconst 1, 1) := by decide +kernel
theorem dX7_goBehind_30 : decode cX7_goBehind 30 = .ok (.iadd, 1) := by decide +kernel
theorem dX7_goBehind_31 : decode cX7_goBehind 31 = .ok (.putfield 22, 3) := by decide +kernel
theorem dX7_goBehind_34 : decode cX7_goBehind 34 = .ok (.goto (-34), 3) := by decide +kernel
theorem dX7_goBehind_37 : decode cX7_goBehind 37 = .ok (.return_, 1) := by decide +kernel
def L_X7_goBehind (w : Nat) : Nat → z_Mem → Int32 → Int32 → Option (Unit × z_Mem)
  | 0, _, _, _ => none
  | c + 1, M, x1, x2 =>
    if (M.1 5 2) ≤ (M.1 5 5) then
    some ((), M)
    else
    (F_X7_isBetween w M (M.1 5 5) x1 x2).bind fun q2 =>
    if q2.1 = true then
    L_X7_goBehind w c (z_wI q2.2 5 5 ((q2.2.1 5 5) + (1 : Int32))) x1 x2
    else
    some ((), q2.2)
set_option maxHeartbeats 4000000 in
theorem AL_X7_goBehind {w : Nat} : ∀ (c : Nat), (∀ (M : z_Mem) (x1 : Int32) (x2 : Int32) (r : Unit) (M' : z_Mem) (Q : Option Value → z_Mem → Prop), L_X7_goBehind w c M x1 x2 = some (r, M') → Q none M' → z_G none 1 mX7_goBehind 0 [some (.ref 7), some (.int x1), some (.int x2)] [] M Q) := by
  intro c
  induction c with
  | zero => exact (fun M x1 x2 r M' Q h hq => by rw [L_X7_goBehind] at h; cases h)
  | succ c ih =>
    intro M x1 x2 r M' Q h hq
    rw [L_X7_goBehind] at h
    refine g_aload_n dX7_goBehind_0 rfl rfl ?_
    refine g_get (a := 5) (v := .int (M.1 5 5)) dX7_goBehind_1 f_7_22 sh_5 rfl rfl ?_
    refine g_aload_n dX7_goBehind_4 rfl rfl ?_
    refine g_get (a := 5) (v := .int (M.1 5 2)) dX7_goBehind_5 f_7_19 sh_5 rfl rfl ?_
    refine g_ic_ge (t := 37) dX7_goBehind_8 (by decide) (fun c1 => ?_) (fun c1 => ?_)
    · replace h := z_ift c1 h
      cases h
      exact g_vret dX7_goBehind_37 rfl hq
    · replace h := z_iff c1 h
      refine g_aload_n dX7_goBehind_11 rfl rfl ?_
      refine g_aload_n dX7_goBehind_12 rfl rfl ?_
      refine g_get (a := 5) (v := .int (M.1 5 5)) dX7_goBehind_13 f_7_22 sh_5 rfl rfl ?_
      refine g_iload_n dX7_goBehind_16 rfl rfl ?_
      refine g_iload_n dX7_goBehind_17 rfl rfl ?_
      obtain ⟨q2, e3, h⟩ := z_bd h
      refine g_callV (a := 5) (as := [.int (M.1 5 5), .int x1, .int x2]) (rest := []) (c := mX7_isBetween) (k1 := 0) dX7_goBehind_18 rfl rfl rfl sh_5 rfl rfl (Nat.le_of_ble_eq_true rfl) (Nat.le_of_ble_eq_true rfl) (by decide) ?_
      refine A_X7_isBetween e3 ?_
      show z_G none 1 mX7_goBehind 21 [some (.ref 7), some (.int x1), some (.int x2)] [.int (z_tb q2.1)] q2.2 Q
      refine g_if_eq (t := 37) dX7_goBehind_21 (by decide) (fun c4 => ?_) (fun c4 => ?_)
      · replace h := z_iff (z_tb0.mp c4) h
        cases h
        exact g_vret dX7_goBehind_37 rfl hq
      · replace h := z_ift (z_tbn.mp c4) h
        refine g_aload_n dX7_goBehind_24 rfl rfl ?_
        refine g_dup dX7_goBehind_25 rfl ?_
        refine g_get (a := 5) (v := .int (q2.2.1 5 5)) dX7_goBehind_26 f_7_22 sh_5 rfl rfl ?_
        refine g_iconst (v := (1 : Int32)) dX7_goBehind_29 (by decide) ?_
        refine g_iadd dX7_goBehind_30 ?_
        refine g_putI (a := 5) dX7_goBehind_31 f_7_22 sh_5 rfl rfl rfl ?_
        refine g_goto (t := 0) dX7_goBehind_34 (by decide) ?_
        exact g_sub (z_sub_s (z_sub_s (z_sub_s z_sub_nil))) (ih _ _ _ _ _ _ h hq)
def F_X7_goBehind (w : Nat) (M : z_Mem) (a1 : Int32) (a2 : Int32) : Option (Unit × z_Mem) :=
  L_X7_goBehind w w M a1 a2
set_option maxHeartbeats 4000000 in
theorem A_X7_goBehind {w : Nat} {M : z_Mem} {a1 : Int32} {a2 : Int32} {r : Unit} {M' : z_Mem} {Q : Option Value → z_Mem → Prop} (h : F_X7_goBehind w M a1 a2 = some (r, M')) (hq : Q none M') : z_Cl 1 mX7_goBehind [.ref 7, .int a1, .int a2] M Q := by
  refine g_in (ls := [some (.ref 7), some (.int a1), some (.int a2)]) rfl ?_
  unfold F_X7_goBehind at h
  exact g_sub (z_sub_s (z_sub_s (z_sub_s z_sub_nil))) ((AL_X7_goBehind (w := w) w) _ _ _ _ _ _ h hq)
theorem dX7_wordNumber_0 : decode cX7_wordNumber 0 = .ok (.aload_n 0, 1) := by decide +kernel
theorem dX7_wordNumber_1 : decode cX7_wordNumber 1 = .ok (.getfield 22, 3) := by decide +kernel
theorem dX7_wordNumber_4 : decode cX7_wordNumber 4 = .ok (.aload_n 0, 1) := by decide +kernel
theorem dX7_wordNumber_5 : decode cX7_wordNumber 5 = .ok (.getfield 34, 3) := by decide +kernel
theorem dX7_wordNumber_8 : decode cX7_wordNumber 8 = .ok (.isub, 1) := by decide +kernel
theorem dX7_wordNumber_9 : decode cX7_wordNumber 9 = .ok (.istore_n 1, 1) := by decide +kernel
theorem dX7_wordNumber_10 : decode cX7_wordNumber 10 = .ok (.iconst 0, 1) := by decide +kernel
theorem dX7_wordNumber_11 : decode cX7_wordNumber 11 = .ok (.istore_n 2, 1) := by decide +kernel
theorem dX7_wordNumber_12 : decode cX7_wordNumber 12 = .ok (.iconst 0, 1) := by decide +kernel
theorem dX7_wordNumber_13 : decode cX7_wordNumber 13 = .ok (.istore_n 3, 1) := by decide +kernel
theorem dX7_wordNumber_14 : decode cX7_wordNumber 14 = .ok (.iconst 0, 1) := by decide +kernel
theorem dX7_wordNumber_15 : decode cX7_wordNumber 15 = .ok (.istore 4, 2) := by decide +kernel
theorem dX7_wordNumber_17 : decode cX7_wordNumber 17 = .ok (.iload 4, 2) := by decide +kernel
theorem dX7_wordNumber_19 : decode cX7_wordNumber 19 = .ok (.ldc 62, 2) := by decide +kernel
theorem dX7_wordNumber_21 : decode cX7_wordNumber 21 = .ok (.invokevirtual 64, 3) := by decide +kernel
theorem dX7_wordNumber_24 : decode cX7_wordNumber 24 = .ok (.if_icmp .ge 73, 3) := by decide +kernel
theorem dX7_wordNumber_27 : decode cX7_wordNumber 27 = .ok (.ldc 62, 2) := by decide +kernel
theorem dX7_wordNumber_29 : decode cX7_wordNumber 29 = .ok (.iload 4, 2) := by decide +kernel
theorem dX7_wordNumber_31 : decode cX7_wordNumber 31 = .ok (.invokevirtual 68, 3) := by decide +kernel
theorem dX7_wordNumber_34 : decode cX7_wordNumber 34 = .ok (.istore 5, 2) := by decide +kernel
theorem dX7_wordNumber_36 : decode cX7_wordNumber 36 = .ok (.iload 5, 2) := by decide +kernel
theorem dX7_wordNumber_38 : decode cX7_wordNumber 38 = .ok (.bipush 32, 2) := by decide +kernel
theorem dX7_wordNumber_40 : decode cX7_wordNumber 40 = .ok (.if_icmp .ne 18, 3) := by decide +kernel
theorem dX7_wordNumber_43 : decode cX7_wordNumber 43 = .ok (.iload_n 3, 1) := by decide +kernel
theorem dX7_wordNumber_44 : decode cX7_wordNumber 44 = .ok (.iload_n 1, 1) := by decide +kernel
theorem dX7_wordNumber_45 : decode cX7_wordNumber 45 = .ok (.if_icmp .ne 5, 3) := by decide +kernel
theorem dX7_wordNumber_48 : decode cX7_wordNumber 48 = .ok (.iload_n 2, 1) := by decide +kernel
theorem dX7_wordNumber_49 : decode cX7_wordNumber 49 = .ok (.ireturn, 1) := by decide +kernel
theorem dX7_wordNumber_50 : decode cX7_wordNumber 50 = .ok (.iinc 2 1, 3) := by decide +kernel
theorem dX7_wordNumber_53 : decode cX7_wordNumber 53 = .ok (.iconst 0, 1) := by decide +kernel
theorem dX7_wordNumber_54 : decode cX7_wordNumber 54 = .ok (.istore_n 3, 1) := by decide +kernel
theorem dX7_wordNumber_55 : decode cX7_wordNumber 55 = .ok (.goto 36, 3) := by decide +kernel
theorem dX7_wordNumber_58 : decode cX7_wordNumber 58 = .ok (.iload_n 3, 1) := by decide +kernel
theorem dX7_wordNumber_59 : decode cX7_wordNumber 59 = .ok (.ifCond .lt 30, 3) := by decide +kernel
theorem dX7_wordNumber_62 : decode cX7_wordNumber 62 = .ok (.iload_n 3, 1) := by decide +kernel
theorem dX7_wordNumber_63 : decode cX7_wordNumber 63 = .ok (.iload_n 1, 1) := by decide +kernel
theorem dX7_wordNumber_64 : decode cX7_wordNumber 64 = .ok (.if_icmp .ge 25, 3) := by decide +kernel
theorem dX7_wordNumber_67 : decode cX7_wordNumber 67 = .ok (.aload_n 0, 1) := by decide +kernel
theorem dX7_wordNumber_68 : decode cX7_wordNumber 68 = .ok (.getfield 11, 3) := by decide +kernel
theorem dX7_wordNumber_71 : decode cX7_wordNumber 71 = .ok (.aload_n 0, 1) := by decide +kernel
theorem dX7_wordNumber_72 : decode cX7_wordNumber 72 = .ok (.getfield 34, 3) := by decide +kernel
theorem dX7_wordNumber_75 : decode cX7_wordNumber 75 = .ok (.iload_n 3, 1) := by decide +kernel
theorem dX7_wordNumber_76 : decode cX7_wordNumber 76 = .ok (.iadd, 1) := by decide +kernel
theorem dX7_wordNumber_77 : decode cX7_wordNumber 77 = .ok (.baload, 1) := by decide +kernel
theorem dX7_wordNumber_78 : decode cX7_wordNumber 78 = .ok (.iload 5, 2) := by decide +kernel
theorem dX7_wordNumber_80 : decode cX7_wordNumber 80 = .ok (.if_icmp .ne 9, 3) := by decide +kernel
theorem dX7_wordNumber_83 : decode cX7_wordNumber 83 = .ok (.iinc 3 1, 3) := by decide +kernel
theorem dX7_wordNumber_86 : decode cX7_wordNumber 86 = .ok (.goto 5, 3) := by decide +kernel
theorem dX7_wordNumber_89 : decode cX7_wordNumber 89 = .ok (.iconst (-1), 1) := by decide +kernel
theorem dX7_wordNumber_90 : decode cX7_wordNumber 90 = .ok (.istore_n 3, 1) := by decide +kernel
theorem dX7_wordNumber_91 : decode cX7_wordNumber 91 = .ok (.iinc 4 1, 3) := by decide +kernel
theorem dX7_wordNumber_94 : decode cX7_wordNumber 94 = .ok (.goto (-77), 3) := by decide +kernel
theorem dX7_wordNumber_97 : decode cX7_wordNumber 97 = .ok (.iload_n 1, 1) := by decide +kernel
theorem dX7_wordNumber_98 : decode cX7_wordNumber 98 = .ok (.bipush 8, 2) := by decide +kernel
theorem dX7_wordNumber_100 : decode cX7_wordNumber 100 = .ok (.if_icmp .gt 8, 3) := by decide +kernel
theorem dX7_wordNumber_103 : decode cX7_wordNumber 103 = .ok (.bipush 30, 2) := by decide +kernel
theorem dX7_wordNumber_105 : decode cX7_wordNumber 105 = .ok (.goto 5, 3) := by decide +kernel
theorem dX7_wordNumber_108 : decode cX7_wordNumber 108 = .ok (.bipush 31, 2) := by decide +kernel
theorem dX7_wordNumber_110 : decode cX7_wordNumber 110 = .ok (.ireturn, 1) := by decide +kernel
def L_X7_wordNumber (w : Nat) : Nat → z_Mem → Int32 → Int32 → Int32 → Int32 → Option (Int32 × z_Mem)
  | 0, _, _, _, _, _ => none
  | c + 1, M, x1, x2, x3, x4 =>
    if (152 : Int32) ≤ x4 then
    if (8 : Int32) < x1 then
    some ((31 : Int32), M)
    else
    some ((30 : Int32), M)
    else
    if x4 < 0 ∨ 152 ≤ x4.toNatClampNeg then none else
    if (z_txt.getD x4.toNatClampNeg 0) = (32 : Int32) then
    if x3 = x1 then
    some (x2, M)
    else
    L_X7_wordNumber w c M x1 (x2 + (1 : Int32)) (0 : Int32) (x4 + (1 : Int32))
    else
    if x3 < (0 : Int32) then
    L_X7_wordNumber w c M x1 x2 (-1 : Int32) (x4 + (1 : Int32))
    else
    if x1 ≤ x3 then
    L_X7_wordNumber w c M x1 x2 (-1 : Int32) (x4 + (1 : Int32))
    else
    if ((M.1 5 4) + x3) < 0 ∨ 900 ≤ ((M.1 5 4) + x3).toNatClampNeg then none else
    if (M.1 6 ((M.1 5 4) + x3).toNatClampNeg) = (z_txt.getD x4.toNatClampNeg 0) then
    L_X7_wordNumber w c M x1 x2 (x3 + (1 : Int32)) (x4 + (1 : Int32))
    else
    L_X7_wordNumber w c M x1 x2 (-1 : Int32) (x4 + (1 : Int32))
set_option maxHeartbeats 4000000 in
theorem AL_X7_wordNumber {w : Nat} : ∀ (c : Nat), (∀ (M : z_Mem) (x1 : Int32) (x2 : Int32) (x3 : Int32) (x4 : Int32) (r : Int32) (M' : z_Mem) (Q : Option Value → z_Mem → Prop), L_X7_wordNumber w c M x1 x2 x3 x4 = some (r, M') → Q (some (.int r)) M' → z_G none 0 mX7_wordNumber 17 [some (.ref 7), some (.int x1), some (.int x2), some (.int x3), some (.int x4), none] [] M Q) := by
  intro c
  induction c with
  | zero => exact (fun M x1 x2 x3 x4 r M' Q h hq => by rw [L_X7_wordNumber] at h; cases h)
  | succ c ih =>
    intro M x1 x2 x3 x4 r M' Q h hq
    rw [L_X7_wordNumber] at h
    refine g_iload dX7_wordNumber_17 rfl ?_
    refine g_ldcS dX7_wordNumber_19 rfl rfl ?_
    refine g_slength dX7_wordNumber_21 rfl (Nat.le_of_ble_eq_true rfl) ?_
    refine g_ic_ge (t := 97) dX7_wordNumber_24 (by decide) (fun c1 => ?_) (fun c1 => ?_)
    · replace h := z_ift c1 h
      refine g_iload_n dX7_wordNumber_97 rfl rfl ?_
      refine g_bipush (v := (8 : Int32)) dX7_wordNumber_98 (by decide) ?_
      refine g_ic_gt (t := 108) dX7_wordNumber_100 (by decide) (fun c2 => ?_) (fun c2 => ?_)
      · replace h := z_ift c2 h
        refine g_bipush (v := (31 : Int32)) dX7_wordNumber_108 (by decide) ?_
        cases h
        exact g_iret dX7_wordNumber_110 rfl rfl hq
      · replace h := z_iff c2 h
        refine g_bipush (v := (30 : Int32)) dX7_wordNumber_103 (by decide) ?_
        refine g_goto (t := 110) dX7_wordNumber_105 (by decide) ?_
        cases h
        exact g_iret dX7_wordNumber_110 rfl rfl hq
    · replace h := z_iff c1 h
      refine g_ldcS dX7_wordNumber_27 rfl rfl ?_
      refine g_iload dX7_wordNumber_29 rfl ?_
      by_cases g3 : x4 < 0 ∨ 152 ≤ x4.toNatClampNeg
      · rw [if_pos g3] at h; cases h
      replace h := z_iff g3 h
      refine g_schar dX7_wordNumber_31 rfl g3 (Nat.le_of_ble_eq_true rfl) ?_
      refine g_istore (ls' := [some (.ref 7), some (.int x1), some (.int x2), some (.int x3), some (.int x4), some (.int (z_txt.getD x4.toNatClampNeg 0))]) dX7_wordNumber_34 (Nat.le_of_ble_eq_true rfl) rfl ?_
      refine g_iload dX7_wordNumber_36 rfl ?_
      refine g_bipush (v := (32 : Int32)) dX7_wordNumber_38 (by decide) ?_
      refine g_ic_ne (t := 58) dX7_wordNumber_40 (by decide) (fun c4 => ?_) (fun c4 => ?_)
      · replace h := z_iff c4 h
        refine g_iload_n dX7_wordNumber_58 rfl rfl ?_
        refine g_if_lt (t := 89) dX7_wordNumber_59 (by decide) (fun c5 => ?_) (fun c5 => ?_)
        · replace h := z_ift c5 h
          refine g_iconst (v := (-1 : Int32)) dX7_wordNumber_89 (by decide) ?_
          refine g_istore_n (ls' := [some (.ref 7), some (.int x1), some (.int x2), some (.int (-1 : Int32)), some (.int x4), some (.int (z_txt.getD x4.toNatClampNeg 0))]) dX7_wordNumber_90 rfl (Nat.le_of_ble_eq_true rfl) rfl ?_
          refine g_iinc (v := x4 + (1 : Int32)) (ls' := [some (.ref 7), some (.int x1), some (.int x2), some (.int (-1 : Int32)), some (.int (x4 + (1 : Int32))), some (.int (z_txt.getD x4.toNatClampNeg 0))]) dX7_wordNumber_91 rfl rfl rfl ?_
          refine g_goto (t := 17) dX7_wordNumber_94 (by decide) ?_
          exact g_sub (z_sub_s (z_sub_s (z_sub_s (z_sub_s (z_sub_s (z_sub_n z_sub_nil)))))) (ih _ _ _ _ _ _ _ _ h hq)
        · replace h := z_iff c5 h
          refine g_iload_n dX7_wordNumber_62 rfl rfl ?_
          refine g_iload_n dX7_wordNumber_63 rfl rfl ?_
          refine g_ic_ge (t := 89) dX7_wordNumber_64 (by decide) (fun c6 => ?_) (fun c6 => ?_)
          · replace h := z_ift c6 h
            refine g_iconst (v := (-1 : Int32)) dX7_wordNumber_89 (by decide) ?_
            refine g_istore_n (ls' := [some (.ref 7), some (.int x1), some (.int x2), some (.int (-1 : Int32)), some (.int x4), some (.int (z_txt.getD x4.toNatClampNeg 0))]) dX7_wordNumber_90 rfl (Nat.le_of_ble_eq_true rfl) rfl ?_
            refine g_iinc (v := x4 + (1 : Int32)) (ls' := [some (.ref 7), some (.int x1), some (.int x2), some (.int (-1 : Int32)), some (.int (x4 + (1 : Int32))), some (.int (z_txt.getD x4.toNatClampNeg 0))]) dX7_wordNumber_91 rfl rfl rfl ?_
            refine g_goto (t := 17) dX7_wordNumber_94 (by decide) ?_
            exact g_sub (z_sub_s (z_sub_s (z_sub_s (z_sub_s (z_sub_s (z_sub_n z_sub_nil)))))) (ih _ _ _ _ _ _ _ _ h hq)
          · replace h := z_iff c6 h
            refine g_aload_n dX7_wordNumber_67 rfl rfl ?_
            refine g_get (a := 5) (v := .ref 8) dX7_wordNumber_68 f_7_11 sh_5 rfl rfl ?_
            refine g_aload_n dX7_wordNumber_71 rfl rfl ?_
            refine g_get (a := 5) (v := .int (M.1 5 4)) dX7_wordNumber_72 f_7_34 sh_5 rfl rfl ?_
            refine g_iload_n dX7_wordNumber_75 rfl rfl ?_
            refine g_iadd dX7_wordNumber_76 ?_
            by_cases g7 : ((M.1 5 4) + x3) < 0 ∨ 900 ≤ ((M.1 5 4) + x3).toNatClampNeg
            · rw [if_pos g7] at h; cases h
            replace h := z_iff g7 h
            refine g_bald (a := 6) dX7_wordNumber_77 sh_6 g7 ?_
            refine g_iload dX7_wordNumber_78 rfl ?_
            refine g_ic_ne (t := 89) dX7_wordNumber_80 (by decide) (fun c8 => ?_) (fun c8 => ?_)
            · replace h := z_iff c8 h
              refine g_iconst (v := (-1 : Int32)) dX7_wordNumber_89 (by decide) ?_
              refine g_istore_n (ls' := [some (.ref 7), some (.int x1), some (.int x2), some (.int (-1 : Int32)), some (.int x4), some (.int (z_txt.getD x4.toNatClampNeg 0))]) dX7_wordNumber_90 rfl (Nat.le_of_ble_eq_true rfl) rfl ?_
              refine g_iinc (v := x4 + (1 : Int32)) (ls' := [some (.ref 7), some (.int x1), some (.int x2), some (.int (-1 : Int32)), some (.int (x4 + (1 : Int32))), some (.int (z_txt.getD x4.toNatClampNeg 0))]) dX7_wordNumber_91 rfl rfl rfl ?_
              refine g_goto (t := 17) dX7_wordNumber_94 (by decide) ?_
              exact g_sub (z_sub_s (z_sub_s (z_sub_s (z_sub_s (z_sub_s (z_sub_n z_sub_nil)))))) (ih _ _ _ _ _ _ _ _ h hq)
            · replace h := z_ift c8 h
              refine g_iinc (v := x3 + (1 : Int32)) (ls' := [some (.ref 7), some (.int x1), some (.int x2), some (.int (x3 + (1 : Int32))), some (.int x4), some (.int (z_txt.getD x4.toNatClampNeg 0))]) dX7_wordNumber_83 rfl rfl rfl ?_
              refine g_goto (t := 91) dX7_wordNumber_86 (by decide) ?_
              refine g_iinc (v := x4 + (1 : Int32)) (ls' := [some (.ref 7), some (.int x1), some (.int x2), some (.int (x3 + (1 : Int32))), some (.int (x4 + (1 : Int32))), some (.int (z_txt.getD x4.toNatClampNeg 0))]) dX7_wordNumber_91 rfl rfl rfl ?_
              refine g_goto (t := 17) dX7_wordNumber_94 (by decide) ?_
              exact g_sub (z_sub_s (z_sub_s (z_sub_s (z_sub_s (z_sub_s (z_sub_n z_sub_nil)))))) (ih _ _ _ _ _ _ _ _ h hq)
      · replace h := z_ift c4 h
        refine g_iload_n dX7_wordNumber_43 rfl rfl ?_
        refine g_iload_n dX7_wordNumber_44 rfl rfl ?_
        refine g_ic_ne (t := 50) dX7_wordNumber_45 (by decide) (fun c9 => ?_) (fun c9 => ?_)
        · replace h := z_iff c9 h
          refine g_iinc (v := x2 + (1 : Int32)) (ls' := [some (.ref 7), some (.int x1), some (.int (x2 + (1 : Int32))), some (.int x3), some (.int x4), some (.int (z_txt.getD x4.toNatClampNeg 0))]) dX7_wordNumber_50 rfl rfl rfl ?_
          refine g_iconst (v := (0 : Int32)) dX7_wordNumber_53 (by decide) ?_
          refine g_istore_n (ls' := [some (.ref 7), some (.int x1), some (.int (x2 + (1 : Int32))), some (.int (0 : Int32)), some (.int x4), some (.int (z_txt.getD x4.toNatClampNeg 0))]) dX7_wordNumber_54 rfl (Nat.le_of_ble_eq_true rfl) rfl ?_
          refine g_goto (t := 91) dX7_wordNumber_55 (by decide) ?_
          refine g_iinc (v := x4 + (1 : Int32)) (ls' := [some (.ref 7), some (.int x1), some (.int (x2 + (1 : Int32))), some (.int (0 : Int32)), some (.int (x4 + (1 : Int32))), some (.int (z_txt.getD x4.toNatClampNeg 0))]) dX7_wordNumber_91 rfl rfl rfl ?_
          refine g_goto (t := 17) dX7_wordNumber_94 (by decide) ?_
          exact g_sub (z_sub_s (z_sub_s (z_sub_s (z_sub_s (z_sub_s (z_sub_n z_sub_nil)))))) (ih _ _ _ _ _ _ _ _ h hq)
        · replace h := z_ift c9 h
          refine g_iload_n dX7_wordNumber_48 rfl rfl ?_
          cases h
          exact g_iret dX7_wordNumber_49 rfl rfl hq
def F_X7_wordNumber (w : Nat) (M : z_Mem) : Option (Int32 × z_Mem) :=
  L_X7_wordNumber w w M ((M.1 5 5) - (M.1 5 4)) (0 : Int32) (0 : Int32) (0 : Int32)
set_option maxHeartbeats 4000000 in
theorem A_X7_wordNumber {w : Nat} {M : z_Mem} {r : Int32} {M' : z_Mem} {Q : Option Value → z_Mem → Prop} (h : F_X7_wordNumber w M = some (r, M')) (hq : Q (some (.int r)) M') : z_Cl 0 mX7_wordNumber [.ref 7] M Q := by
  refine g_in (ls := [some (.ref 7), none, none, none, none, none]) rfl ?_
  unfold F_X7_wordNumber at h
  refine g_aload_n dX7_wordNumber_0 rfl rfl ?_
  refine g_get (a := 5) (v := .int (M.1 5 5)) dX7_wordNumber_1 f_7_22 sh_5 rfl rfl ?_
  refine g_aload_n dX7_wordNumber_4 rfl rfl ?_
  refine g_get (a := 5) (v := .int (M.1 5 4)) dX7_wordNumber_5 f_7_34 sh_5 rfl rfl ?_
  refine g_isub dX7_wordNumber_8 ?_
  refine g_istore_n (ls' := [some (.ref 7), some (.int ((M.1 5 5) - (M.1 5 4))), none, none, none, none]) dX7_wordNumber_9 rfl (Nat.le_of_ble_eq_true rfl) rfl ?_
  refine g_iconst (v := (0 : Int32)) dX7_wordNumber_10 (by decide) ?_
  refine g_istore_n (ls' := [some (.ref 7), some (.int ((M.1 5 5) - (M.1 5 4))), some (.int (0 : Int32)), none, none, none]) dX7_wordNumber_11 rfl (Nat.le_of_ble_eq_true rfl) rfl ?_
  refine g_iconst (v := (0 : Int32)) dX7_wordNumber_12 (by decide) ?_
  refine g_istore_n (ls' := [some (.ref 7), some (.int ((M.1 5 5) - (M.1 5 4))), some (.int (0 : Int32)), some (.int (0 : Int32)), none, none]) dX7_wordNumber_13 rfl (Nat.le_of_ble_eq_true rfl) rfl ?_
  refine g_iconst (v := (0 : Int32)) dX7_wordNumber_14 (by decide) ?_
  refine g_istore (ls' := [some (.ref 7), some (.int ((M.1 5 5) - (M.1 5 4))), some (.int (0 : Int32)), some (.int (0 : Int32)), some (.int (0 : Int32)), none]) dX7_wordNumber_15 (Nat.le_of_ble_eq_true rfl) rfl ?_
  exact g_sub (z_sub_s (z_sub_s (z_sub_s (z_sub_s (z_sub_s (z_sub_n z_sub_nil)))))) ((AL_X7_wordNumber (w := w) w) _ _ _ _ _ _ _ _ h hq)
theorem dX7_digitsRead_0 : decode cX7_digitsRead 0 = .ok (.iconst 0, 1) := by decide +kernel
theorem dX7_digitsRead_1 : decode cX7_digitsRead 1 = .ok (.istore_n 1, 1) := by decide +kernel
theorem dX7_digitsRead_2 : decode cX7_digitsRead 2 = .ok (.aload_n 0, 1) := by decide +kernel
theorem dX7_digitsRead_3 : decode cX7_digitsRead 3 = .ok (.getfield 34, 3) := by decide +kernel
theorem dX7_digitsRead_6 : decode cX7_digitsRead 6 = .ok (.istore_n 2, 1) := by decide +kernel
theorem dX7_digitsRead_7 : decode cX7_digitsRead 7 = .ok (.iload_n 2, 1) := by decide +kernel
theorem dX7_digitsRead_8 : decode cX7_digitsRead 8 = .ok (.aload_n 0, 1) := by decide +kernel
theorem dX7_digitsRead_9 : decode cX7_digitsRead 9 = .ok (.getfield 22, 3) := by decide +kernel
theorem dX7_digitsRead_12 : decode cX7_digitsRead 12 = .ok (.if_icmp .ge 24, 3) := by decide +kernel
theorem dX7_digitsRead_15 : decode cX7_digitsRead 15 = .ok (.iload_n 1, 1) := by decide +kernel
theorem dX7_digitsRead_16 : decode cX7_digitsRead 16 = .ok (.bipush 10, 2) := by decide +kernel
theorem dX7_digitsRead_18 : decode cX7_digitsRead 18 = .ok (.imul, 1) := by decide +kernel
theorem dX7_digitsRead_19 : decode cX7_digitsRead 19 = .ok (.aload_n 0, 1) := by decide +kernel
theorem dX7_digitsRead_20 : decode cX7_digitsRead 20 = .ok (.getfield 11, 3) := by decide +kernel
theorem dX7_digitsRead_23 : decode cX7_digitsRead 23 = .ok (.iload_n 2, 1) := by decide +kernel
theorem dX7_digitsRead_24 : decode cX7_digitsRead 24 = .ok (.baload, 1) := by decide +kernel
theorem dX7_digitsRead_25 : decode cX7_digitsRead 25 = .ok (.bipush 48, 2) := by decide +kernel
theorem dX7_digitsRead_27 : decode cX7_digitsRead 27 = .ok (.isub, 1) := by decide +kernel
theorem dX7_digitsRead_28 : decode cX7_digitsRead 28 = .ok (.iadd, 1) := by decide +kernel
theorem dX7_digitsRead_29 : decode cX7_digitsRead 29 = .ok (.istore_n 1, 1) := by decide +kernel
theorem dX7_digitsRead_30 : decode cX7_digitsRead 30 = .ok (.iinc 2 1, 3) := by decide +kernel
theorem dX7_digitsRead_33 : decode cX7_digitsRead 33 = .ok (.goto (-26), 3) := by decide +kernel
theorem dX7_digitsRead_36 : decode cX7_digitsRead 36 = .ok (.iload_n 1, 1) := by decide +kernel
theorem dX7_digitsRead_37 : decode cX7_digitsRead 37 = .ok (.ireturn, 1) := by decide +kernel
def L_X7_digitsRead (w : Nat) : Nat → z_Mem → Int32 → Int32 → Option (Int32 × z_Mem)
  | 0, _, _, _ => none
  | c + 1, M, x1, x2 =>
    if (M.1 5 5) ≤ x2 then
    some (x1, M)
    else
    if x2 < 0 ∨ 900 ≤ x2.toNatClampNeg then none else
    L_X7_digitsRead w c M ((x1 * (10 : Int32)) + ((M.1 6 x2.toNatClampNeg) - (48 : Int32))) (x2 + (1 : Int32))
set_option maxHeartbeats 4000000 in
theorem AL_X7_digitsRead {w : Nat} : ∀ (c : Nat), (∀ (M : z_Mem) (x1 : Int32) (x2 : Int32) (r : Int32) (M' : z_Mem) (Q : Option Value → z_Mem → Prop), L_X7_digitsRead w c M x1 x2 = some (r, M') → Q (some (.int r)) M' → z_G none 0 mX7_digitsRead 7 [some (.ref 7), some (.int x1), some (.int x2)] [] M Q) := by
  intro c
  induction c with
  | zero => exact (fun M x1 x2 r M' Q h hq => by rw [L_X7_digitsRead] at h; cases h)
  | succ c ih =>
    intro M x1 x2 r M' Q h hq
    rw [L_X7_digitsRead] at h
    refine g_iload_n dX7_digitsRead_7 rfl rfl ?_
    refine g_aload_n dX7_digitsRead_8 rfl rfl ?_
    refine g_get (a := 5) (v := .int (M.1 5 5)) dX7_digitsRead_9 f_7_22 sh_5 rfl rfl ?_
    refine g_ic_ge (t := 36) dX7_digitsRead_12 (by decide) (fun c1 => ?_) (fun c1 => ?_)
    · replace h := z_ift c1 h
      refine g_iload_n dX7_digitsRead_36 rfl rfl ?_
      cases h
      exact g_iret dX7_digitsRead_37 rfl rfl hq
    · replace h := z_iff c1 h
      refine g_iload_n dX7_digitsRead_15 rfl rfl ?_
      refine g_bipush (v := (10 : Int32)) dX7_digitsRead_16 (by decide) ?_
      refine g_imul dX7_digitsRead_18 ?_
      refine g_aload_n dX7_digitsRead_19 rfl rfl ?_
      refine g_get (a := 5) (v := .ref 8) dX7_digitsRead_20 f_7_11 sh_5 rfl rfl ?_
      refine g_iload_n dX7_digitsRead_23 rfl rfl ?_
      by_cases g2 : x2 < 0 ∨ 900 ≤ x2.toNatClampNeg
      · rw [if_pos g2] at h; cases h
      replace h := z_iff g2 h
      refine g_bald (a := 6) dX7_digitsRead_24 sh_6 g2 ?_
      refine g_bipush (v := (48 : Int32)) dX7_digitsRead_25 (by decide) ?_
      refine g_isub dX7_digitsRead_27 ?_
      refine g_iadd dX7_digitsRead_28 ?_
      refine g_istore_n (ls' := [some (.ref 7), some (.int ((x1 * (10 : Int32)) + ((M.1 6 x2.toNatClampNeg) - (48 : Int32)))), some (.int x2)]) dX7_digitsRead_29 rfl (Nat.le_of_ble_eq_true rfl) rfl ?_
      refine g_iinc (v := x2 + (1 : Int32)) (ls' := [some (.ref 7), some (.int ((x1 * (10 : Int32)) + ((M.1 6 x2.toNatClampNeg) - (48 : Int32)))), some (.int (x2 + (1 : Int32)))]) dX7_digitsRead_30 rfl rfl rfl ?_
      refine g_goto (t := 7) dX7_digitsRead_33 (by decide) ?_
      exact g_sub (z_sub_s (z_sub_s (z_sub_s z_sub_nil))) (ih _ _ _ _ _ _ h hq)
def F_X7_digitsRead (w : Nat) (M : z_Mem) : Option (Int32 × z_Mem) :=
  L_X7_digitsRead w w M (0 : Int32) (M.1 5 4)
set_option maxHeartbeats 4000000 in
theorem A_X7_digitsRead {w : Nat} {M : z_Mem} {r : Int32} {M' : z_Mem} {Q : Option Value → z_Mem → Prop} (h : F_X7_digitsRead w M = some (r, M')) (hq : Q (some (.int r)) M') : z_Cl 0 mX7_digitsRead [.ref 7] M Q := by
  refine g_in (ls := [some (.ref 7), none, none]) rfl ?_
  unfold F_X7_digitsRead at h
  refine g_iconst (v := (0 : Int32)) dX7_digitsRead_0 (by decide) ?_
  refine g_istore_n (ls' := [some (.ref 7), some (.int (0 : Int32)), none]) dX7_digitsRead_1 rfl (Nat.le_of_ble_eq_true rfl) rfl ?_
  refine g_aload_n dX7_digitsRead_2 rfl rfl ?_
  refine g_get (a := 5) (v := .int (M.1 5 4)) dX7_digitsRead_3 f_7_34 sh_5 rfl rfl ?_
  refine g_istore_n (ls' := [some (.ref 7), some (.int (0 : Int32)), some (.int (M.1 5 4))]) dX7_digitsRead_6 rfl (Nat.le_of_ble_eq_true rfl) rfl ?_
  exact g_sub (z_sub_s (z_sub_s (z_sub_s z_sub_nil))) ((AL_X7_digitsRead (w := w) w) _ _ _ _ _ _ h hq)
theorem dX7_signAt_0 : decode cX7_signAt 0 = .ok (.aload_n 0, 1) := by decide +kernel
theorem dX7_signAt_1 : decode cX7_signAt 1 = .ok (.getfield 11, 3) := by decide +kernel
theorem dX7_signAt_4 : decode cX7_signAt 4 = .ok (.iload_n 1, 1) := by decide +kernel
theorem dX7_signAt_5 : decode cX7_signAt 5 = .ok (.baload, 1) := by decide +kernel
theorem dX7_signAt_6 : decode cX7_signAt 6 = .ok (.tableswitch 42 59 62 #[30, 33, 39, 36], 30) := by decide +kernel
theorem dX7_signAt_36 : decode cX7_signAt 36 = .ok (.bipush 33, 2) := by decide +kernel
theorem dX7_signAt_38 : decode cX7_signAt 38 = .ok (.ireturn, 1) := by decide +kernel
theorem dX7_signAt_39 : decode cX7_signAt 39 = .ok (.bipush 34, 2) := by decide +kernel
theorem dX7_signAt_41 : decode cX7_signAt 41 = .ok (.ireturn, 1) := by decide +kernel
theorem dX7_signAt_42 : decode cX7_signAt 42 = .ok (.bipush 35, 2) := by decide +kernel
theorem dX7_signAt_44 : decode cX7_signAt 44 = .ok (.ireturn, 1) := by decide +kernel
theorem dX7_signAt_45 : decode cX7_signAt 45 = .ok (.bipush 36, 2) := by decide +kernel
theorem dX7_signAt_47 : decode cX7_signAt 47 = .ok (.ireturn, 1) := by decide +kernel
theorem dX7_signAt_48 : decode cX7_signAt 48 = .ok (.bipush 37, 2) := by decide +kernel
theorem dX7_signAt_50 : decode cX7_signAt 50 = .ok (.ireturn, 1) := by decide +kernel
def F_X7_signAt (w : Nat) (M : z_Mem) (a1 : Int32) : Option (Int32 × z_Mem) :=
  if a1 < 0 ∨ 900 ≤ a1.toNatClampNeg then none else
  if (M.1 6 a1.toNatClampNeg) = (59 : Int32) then
  some ((33 : Int32), M)
  else
  if (M.1 6 a1.toNatClampNeg) = (60 : Int32) then
  some ((34 : Int32), M)
  else
  if (M.1 6 a1.toNatClampNeg) = (61 : Int32) then
  some ((36 : Int32), M)
  else
  if (M.1 6 a1.toNatClampNeg) = (62 : Int32) then
  some ((35 : Int32), M)
  else
  some ((37 : Int32), M)
set_option maxHeartbeats 4000000 in
theorem A_X7_signAt {w : Nat} {M : z_Mem} {a1 : Int32} {r : Int32} {M' : z_Mem} {Q : Option Value → z_Mem → Prop} (h : F_X7_signAt w M a1 = some (r, M')) (hq : Q (some (.int r)) M') : z_Cl 0 mX7_signAt [.ref 7, .int a1] M Q := by
  refine g_in (ls := [some (.ref 7), some (.int a1)]) rfl ?_
  unfold F_X7_signAt at h
  refine g_aload_n dX7_signAt_0 rfl rfl ?_
  refine g_get (a := 5) (v := .ref 8) dX7_signAt_1 f_7_11 sh_5 rfl rfl ?_
  refine g_iload_n dX7_signAt_4 rfl rfl ?_
  by_cases g1 : a1 < 0 ∨ 900 ≤ a1.toNatClampNeg
  · rw [if_pos g1] at h; cases h
  replace h := z_iff g1 h
  refine g_bald (a := 6) dX7_signAt_5 sh_6 g1 ?_
  by_cases s2 : M.1 6 a1.toNatClampNeg = (59 : Int32)
  · replace h := z_ift s2 h
    refine g_top (v := (59 : Int32)) s2 ?_
    refine g_tsIn (off := 30) (t := 36) dX7_signAt_6 (by decide) (by decide) (by decide) ?_
    refine g_bipush (v := (33 : Int32)) dX7_signAt_36 (by decide) ?_
    cases h
    exact g_iret dX7_signAt_38 rfl rfl hq
  replace h := z_iff s2 h
  by_cases s3 : M.1 6 a1.toNatClampNeg = (60 : Int32)
  · replace h := z_ift s3 h
    refine g_top (v := (60 : Int32)) s3 ?_
    refine g_tsIn (off := 33) (t := 39) dX7_signAt_6 (by decide) (by decide) (by decide) ?_
    refine g_bipush (v := (34 : Int32)) dX7_signAt_39 (by decide) ?_
    cases h
    exact g_iret dX7_signAt_41 rfl rfl hq
  replace h := z_iff s3 h
  by_cases s4 : M.1 6 a1.toNatClampNeg = (61 : Int32)
  · replace h := z_ift s4 h
    refine g_top (v := (61 : Int32)) s4 ?_
    refine g_tsIn (off := 39) (t := 45) dX7_signAt_6 (by decide) (by decide) (by decide) ?_
    refine g_bipush (v := (36 : Int32)) dX7_signAt_45 (by decide) ?_
    cases h
    exact g_iret dX7_signAt_47 rfl rfl hq
  replace h := z_iff s4 h
  by_cases s5 : M.1 6 a1.toNatClampNeg = (62 : Int32)
  · replace h := z_ift s5 h
    refine g_top (v := (62 : Int32)) s5 ?_
    refine g_tsIn (off := 36) (t := 42) dX7_signAt_6 (by decide) (by decide) (by decide) ?_
    refine g_bipush (v := (35 : Int32)) dX7_signAt_42 (by decide) ?_
    cases h
    exact g_iret dX7_signAt_44 rfl rfl hq
  replace h := z_iff s5 h
  refine g_tsOut (t := 48) dX7_signAt_6 (by have t0 := z_neL (n := 59) (by decide) s2; have t1 := z_neL (n := 60) (by decide) s3; have t2 := z_neL (n := 61) (by decide) s4; have t3 := z_neL (n := 62) (by decide) s5; omega) (by decide) ?_
  refine g_bipush (v := (37 : Int32)) dX7_signAt_48 (by decide) ?_
  cases h
  exact g_iret dX7_signAt_50 rfl rfl hq
theorem dX7_advance_0 : decode cX7_advance 0 = .ok (.aload_n 0, 1) := by decide +kernel
theorem dX7_advance_1 : decode cX7_advance 1 = .ok (.getfield 22, 3) := by decide +kernel
theorem dX7_advance_4 : decode cX7_advance 4 = .ok (.istore_n 1, 1) := by decide +kernel
theorem dX7_advance_5 : decode cX7_advance 5 = .ok (.iload_n 1, 1) := by decide +kernel
theorem dX7_advance_6 : decode cX7_advance 6 = .ok (.aload_n 0, 1) := by decide +kernel
theorem dX7_advance_7 : decode cX7_advance 7 = .ok (.getfield 19, 3) := by decide +kernel
theorem dX7_advance_10 : decode cX7_advance 10 = .ok (.if_icmp .ge 31, 3) := by decide +kernel
theorem dX7_advance_13 : decode cX7_advance 13 = .ok (.aload_n 0, 1) := by decide +kernel
theorem dX7_advance_14 : decode cX7_advance 14 = .ok (.getfield 11, 3) := by decide +kernel
theorem dX7_advance_17 : decode cX7_advance 17 = .ok (.iload_n 1, 1) := by decide +kernel
theorem dX7_advance_18 : decode cX7_advance 18 = .ok (.baload, 1) := by decide +kernel
theorem dX7_advance_19 : decode cX7_advance 19 = .ok (.bipush 32, 2) := by decide +kernel
theorem dX7_advance_21 : decode cX7_advance 21 = .ok (.if_icmp .eq 14, 3) := by decide +kernel
theorem dX7_advance_24 : decode cX7_advance 24 = .ok (.aload_n 0, 1) := by decide +kernel
theorem dX7_advance_25 : decode cX7_advance 25 = .ok (.getfield 11, 3) := by decide +kernel
theorem dX7_advance_28 : decode cX7_advance 28 = .ok (.iload_n 1, 1) := by decide +kernel
theorem dX7_advance_29 : decode cX7_advance 29 = .ok (.baload, 1) := by decide +kernel
theorem dX7_advance_30 : decode cX7_advance 30 = .ok (.bipush 10, 2) := by decide +kernel
theorem dX7_advance_32 : decode cX7_advance 32 = .ok (.if_icmp .ne 9, 3) := by decide +kernel
theorem dX7_advance_35 : decode cX7_advance 35 = .ok (.iinc 1 1, 3) := by decide +kernel
theorem dX7_advance_38 : decode cX7_advance 38 = .ok (.goto (-33), 3) := by decide +kernel
theorem dX7_advance_41 : decode cX7_advance 41 = .ok (.aload_n 0, 1) := by decide +kernel
theorem dX7_advance_42 : decode cX7_advance 42 = .ok (.iload_n 1, 1) := by decide +kernel
theorem dX7_advance_43 : decode cX7_advance 43 = .ok (.putfield 34, 3) := by decide +kernel
theorem dX7_advance_46 : decode cX7_advance 46 = .ok (.aload_n 0, 1) := by decide +kernel
theorem dX7_advance_47 : decode cX7_advance 47 = .ok (.iload_n 1, 1) := by decide +kernel
theorem dX7_advance_48 : decode cX7_advance 48 = .ok (.putfield 22, 3) := by decide +kernel
theorem dX7_advance_51 : decode cX7_advance 51 = .ok (.iload_n 1, 1) := by decide +kernel
theorem dX7_advance_52 : decode cX7_advance 52 = .ok (.aload_n 0, 1) := by decide +kernel
theorem dX7_advance_53 : decode cX7_advance 53 = .ok (.getfield 19, 3) := by decide +kernel
theorem dX7_advance_56 : decode cX7_advance 56 = .ok (.if_icmp .lt 12, 3) := by decide +kernel
theorem dX7_advance_59 : decode cX7_advance 59 = .ok (.aload_n 0, 1) := by decide +kernel
theorem dX7_advance_60 : decode cX7_advance 60 = .ok (.bipush 38, 2) := by decide +kernel
theorem dX7_advance_62 : decode cX7_advance 62 = .ok (.putfield 37, 3) := by decide +kernel
theorem dX7_advance_65 : decode cX7_advance 65 = .ok (.goto 118, 3) := by decide +kernel
theorem dX7_advance_68 : decode cX7_advance 68 = .ok (.aload_n 0, 1) := by decide +kernel
theorem dX7_advance_69 : decode cX7_advance 69 = .ok (.iload_n 1, 1) := by decide +kernel
theorem dX7_advance_70 : decode cX7_advance 70 = .ok (.bipush 97, 2) := by decide +kernel
theorem dX7_advance_72 : decode cX7_advance 72 = .ok (.bipush 122, 2) := by decide +kernel
theorem dX7_advance_74 : decode cX7_advance 74 = .ok (.invokevirtual 40, 3) := by decide +kernel
theorem dX7_advance_77 : decode cX7_advance 77 = .ok (.ifCond .eq 22, 3) := by decide +kernel
theorem dX7_advance_80 : decode cX7_advance 80 = .ok (.aload_n 0, 1) := by decide +kernel
theorem dX7_advance_81 : decode cX7_advance 81 = .ok (.bipush 97, 2) := by decide +kernel
theorem dX7_advance_83 : decode cX7_advance 83 = .ok (.bipush 122, 2) := by decide +kernel
theorem dX7_advance_85 : decode cX7_advance 85 = .ok (.invokevirtual 44, 3) := by decide +kernel
theorem dX7_advance_88 : decode cX7_advance 88 = .ok (.aload_n 0, 1) := by decide +kernel
theorem dX7_advance_89 : decode cX7_advance 89 = .ok (.aload_n 0, 1) := by decide +kernel
theorem dX7_advance_90 : decode cX7_advance 90 = .ok (.invokevirtual 48, 3) := by decide +kernel
theorem dX7_advance_93 : decode cX7_advance 93 = .ok (.putfield 37, 3) := by decide +kernel
theorem dX7_advance_96 : decode cX7_advance 96 = .ok (.goto 87, 3) := by decide +kernel
theorem dX7_advance_99 : decode cX7_advance 99 = .ok (.aload_n 0, 1) := by decide +kernel
theorem dX7_advance_100 : decode cX7_advance 100 = .ok (.iload_n 1, 1) := by decide +kernel
theorem dX7_advance_101 : decode cX7_advance 101 = .ok (.bipush 48, 2) := by decide +kernel
theorem dX7_advance_103 : decode cX7_advance 103 = .ok (.bipush 57, 2) := by decide +kernel
theorem dX7_advance_105 : decode cX7_advance 105 = .ok (.invokevirtual 40, 3) := by decide +kernel
theorem dX7_advance_108 : decode cX7_advance 108 = .ok (.ifCond .eq 59, 3) := by decide +kernel
theorem dX7_advance_111 : decode cX7_advance 111 = .ok (.aload_n 0, 1) := by decide +kernel
theorem dX7_advance_112 : decode cX7_advance 112 = .ok (.bipush 48, 2) := by decide +kernel
theorem dX7_advance_114 : decode cX7_advance 114 = .ok (.bipush 57, 2) := by decide +kernel
theorem dX7_advance_116 : decode cX7_advance 116 = .ok (.invokevirtual 44, 3) := by decide +kernel
theorem dX7_advance_119 : decode cX7_advance 119 = .ok (.aload_n 0, 1) := by decide +kernel
theorem dX7_advance_120 : decode cX7_advance 120 = .ok (.aload_n 0, 1) := by decide +kernel
theorem dX7_advance_121 : decode cX7_advance 121 = .ok (.getfield 22, 3) := by decide +kernel
theorem dX7_advance_124 : decode cX7_advance 124 = .ok (.aload_n 0, 1) := by decide +kernel
theorem dX7_advance_125 : decode cX7_advance 125 = .ok (.getfield 34, 3) := by decide +kernel
theorem dX7_advance_128 : decode cX7_advance 128 = .ok (.isub, 1) := by decide +kernel
theorem dX7_advance_129 : decode cX7_advance 129 = .ok (.iconst 4, 1) := by decide +kernel
theorem dX7_advance_130 : decode cX7_advance 130 = .ok (.if_icmp .le 8, 3) := by decide +kernel
theorem dX7_advance_133 : decode cX7_advance 133 = .ok (.bipush 37, 2) := by decide +kernel
theorem dX7_advance_135 : decode cX7_advance 135 = .ok (.goto 5, 3) := by decide +kernel
theorem dX7_advance_138 : decode cX7_advance 138 = .ok (.bipush 32, 2) := by decide +kernel
theorem dX7_advance_140 : decode cX7_advance 140 = .ok (.putfield 37, 3) := by decide +kernel
theorem dX7_advance_143 : decode cX7_advance 143 = .ok (.aload_n 0, 1) := by decide +kernel
theorem dX7_advance_144 : decode cX7_advance 144 = .ok (.aload_n 0, 1) := by decide +kernel
theorem dX7_advance_145 : decode cX7_advance 145 = .ok (.getfield 37, 3) := by decide +kernel
theorem dX7_advance_148 : decode cX7_advance 148 = .ok (.bipush 32, 2) := by decide +kernel
theorem dX7_advance_150 : decode cX7_advance 150 = .ok (.if_icmp .ne 10, 3) := by decide +kernel
theorem dX7_advance_153 : decode cX7_advance 153 = .ok (.aload_n 0, 1) := by decide +kernel
theorem dX7_advance_154 : decode cX7_advance 154 = .ok (.invokevirtual 52, 3) := by decide +kernel
theorem dX7_advance_157 : decode cX7_advance 157 = .ok (.goto 4, 3) := by decide +kernel
theorem dX7_advance_160 : decode cX7_advance 160 = .ok (.iconst 0, 1) := by decide +kernel
theorem dX7_advance_161 : decode cX7_advance 161 = .ok (.putfield 55, 3) := by decide +kernel
theorem dX7_advance_164 : decode cX7_advance 164 = .ok (.goto 19, 3) := by decide +kernel
theorem dX7_advance_167 : decode cX7_advance 167 = .ok (.aload_n 0, 1) := by decide +kernel
theorem dX7_advance_168 : decode cX7_advance 168 = .ok (.iload_n 1, 1) := by decide +kernel
theorem dX7_advance_169 : decode cX7_advance 169 = .ok (.iconst 1, 1) := by decide +kernel
theorem dX7_advance_170 : decode cX7_advance 170 = .ok (.iadd, 1) := by decide +kernel
theorem dX7_advance_171 : decode cX7_advance 171 = .ok (.putfield 22, 3) := by decide +kernel
theorem dX7_advance_174 : decode cX7_advance 174 = .ok (.aload_n 0, 1) := by decide +kernel
theorem dX7_advance_175 : decode cX7_advance 175 = .ok (.aload_n 0, 1) := by decide +kernel
theorem dX7_advance_176 : decode cX7_advance 176 = .ok (.iload_n 1, 1) := by decide +kernel
theorem dX7_advance_177 : decode cX7_advance 177 = .ok (.invokevirtual 58, 3) := by decide +kernel
theorem dX7_advance_180 : decode cX7_advance 180 = .ok (.putfield 37, 3) := by decide +kernel
theorem dX7_advance_183 : decode cX7_advance 183 = .ok (.return_, 1) := by decide +kernel
def L_X7_advance (w : Nat) : Nat → z_Mem → Int32 → Option (Unit × z_Mem)
  | 0, _, _ => none
  | c + 1, M, x1 =>
    if (M.1 5 2) ≤ x1 then
    if x1 < (M.1 5 2) then
    (F_X7_isBetween w (z_wI (z_wI M 5 4 x1) 5 5 x1) x1 (97 : Int32) (122 : Int32)).bind fun q3 =>
    if q3.1 = true then
    (F_X7_goBehind w q3.2 (97 : Int32) (122 : Int32)).bind fun q18 =>
    (F_X7_wordNumber w q18.2).bind fun q20 =>
    some ((), (z_wI q20.2 5 3 q20.1))
    else
    (F_X7_isBetween w q3.2 x1 (48 : Int32) (57 : Int32)).bind fun q6 =>
    if q6.1 = true then
    (F_X7_goBehind w q6.2 (48 : Int32) (57 : Int32)).bind fun q11 =>
    if ((q11.2.1 5 5) - (q11.2.1 5 4)) ≤ (4 : Int32) then
    (F_X7_digitsRead w (z_wI q11.2 5 3 (32 : Int32))).bind fun q15 =>
    some ((), (z_wI q15.2 5 6 q15.1))
    else
    some ((), (z_wI (z_wI q11.2 5 3 (37 : Int32)) 5 6 (0 : Int32)))
    else
    (F_X7_signAt w (z_wI q6.2 5 5 (x1 + (1 : Int32))) x1).bind fun q9 =>
    some ((), (z_wI q9.2 5 3 q9.1))
    else
    some ((), (z_wI (z_wI (z_wI M 5 4 x1) 5 5 x1) 5 3 (38 : Int32)))
    else
    if x1 < 0 ∨ 900 ≤ x1.toNatClampNeg then none else
    if (M.1 6 x1.toNatClampNeg) = (32 : Int32) then
    L_X7_advance w c M (x1 + (1 : Int32))
    else
    if x1 < 0 ∨ 900 ≤ x1.toNatClampNeg then none else
    if (M.1 6 x1.toNatClampNeg) = (10 : Int32) then
    L_X7_advance w c M (x1 + (1 : Int32))
    else
    if x1 < (M.1 5 2) then
    (F_X7_isBetween w (z_wI (z_wI M 5 4 x1) 5 5 x1) x1 (97 : Int32) (122 : Int32)).bind fun q27 =>
    if q27.1 = true then
    (F_X7_goBehind w q27.2 (97 : Int32) (122 : Int32)).bind fun q42 =>
    (F_X7_wordNumber w q42.2).bind fun q44 =>
    some ((), (z_wI q44.2 5 3 q44.1))
    else
    (F_X7_isBetween w q27.2 x1 (48 : Int32) (57 : Int32)).bind fun q30 =>
    if q30.1 = true then
    (F_X7_goBehind w q30.2 (48 : Int32) (57 : Int32)).bind fun q35 =>
    if ((q35.2.1 5 5) - (q35.2.1 5 4)) ≤ (4 : Int32) then
    (F_X7_digitsRead w (z_wI q35.2 5 3 (32 : Int32))).bind fun q39 =>
    some ((), (z_wI q39.2 5 6 q39.1))
    else
    some ((), (z_wI (z_wI q35.2 5 3 (37 : Int32)) 5 6 (0 : Int32)))
    else
    (F_X7_signAt w (z_wI q30.2 5 5 (x1 + (1 : Int32))) x1).bind fun q33 =>
    some ((), (z_wI q33.2 5 3 q33.1))
    else
    some ((), (z_wI (z_wI (z_wI M 5 4 x1) 5 5 x1) 5 3 (38 : Int32)))
set_option maxHeartbeats 4000000 in
theorem AL_X7_advance {w : Nat} : ∀ (c : Nat), (∀ (M : z_Mem) (x1 : Int32) (r : Unit) (M' : z_Mem) (Q : Option Value → z_Mem → Prop), L_X7_advance w c M x1 = some (r, M') → Q none M' → z_G none 2 mX7_advance 5 [some (.ref 7), some (.int x1)] [] M Q) := by
  intro c
  induction c with
  | zero => exact (fun M x1 r M' Q h hq => by rw [L_X7_advance] at h; cases h)
  | succ c ih =>
    intro M x1 r M' Q h hq
    rw [L_X7_advance] at h
    refine g_iload_n dX7_advance_5 rfl rfl ?_
    refine g_aload_n dX7_advance_6 rfl rfl ?_
    refine g_get (a := 5) (v := .int (M.1 5 2)) dX7_advance_7 f_7_19 sh_5 rfl rfl ?_
    refine g_ic_ge (t := 41) dX7_advance_10 (by decide) (fun c1 => ?_) (fun c1 => ?_)
    · replace h := z_ift c1 h
      refine g_aload_n dX7_advance_41 rfl rfl ?_
      refine g_iload_n dX7_advance_42 rfl rfl ?_
      refine g_putI (a := 5) dX7_advance_43 f_7_34 sh_5 rfl rfl rfl ?_
      refine g_aload_n dX7_advance_46 rfl rfl ?_
      refine g_iload_n dX7_advance_47 rfl rfl ?_
      refine g_putI (a := 5) dX7_advance_48 f_7_22 sh_5 rfl rfl rfl ?_
      refine g_iload_n dX7_advance_51 rfl rfl ?_
      refine g_aload_n dX7_advance_52 rfl rfl ?_
      refine g_get (a := 5) (v := .int (M.1 5 2)) dX7_advance_53 f_7_19 sh_5 rfl (by simp [z_fv, z_wI, z_wL, z_wLs, upd, vp_updL]) ?_
      refine g_ic_lt (t := 68) dX7_advance_56 (by decide) (fun c2 => ?_) (fun c2 => ?_)
      · replace h := z_ift c2 h
        refine g_aload_n dX7_advance_68 rfl rfl ?_
        refine g_iload_n dX7_advance_69 rfl rfl ?_
        refine g_bipush (v := (97 : Int32)) dX7_advance_70 (by decide) ?_
        refine g_bipush (v := (122 : Int32)) dX7_advance_72 (by decide) ?_
        obtain ⟨q3, e4, h⟩ := z_bd h
        refine g_callV (a := 5) (as := [.int x1, .int (97 : Int32), .int (122 : Int32)]) (rest := []) (c := mX7_isBetween) (k1 := 0) dX7_advance_74 rfl rfl rfl sh_5 rfl rfl (Nat.le_of_ble_eq_true rfl) (Nat.le_of_ble_eq_true rfl) (by decide) ?_
        refine A_X7_isBetween e4 ?_
        show z_G none 2 mX7_advance 77 [some (.ref 7), some (.int x1)] [.int (z_tb q3.1)] q3.2 Q
        refine g_if_eq (t := 99) dX7_advance_77 (by decide) (fun c5 => ?_) (fun c5 => ?_)
        · replace h := z_iff (z_tb0.mp c5) h
          refine g_aload_n dX7_advance_99 rfl rfl ?_
          refine g_iload_n dX7_advance_100 rfl rfl ?_
          refine g_bipush (v := (48 : Int32)) dX7_advance_101 (by decide) ?_
          refine g_bipush (v := (57 : Int32)) dX7_advance_103 (by decide) ?_
          obtain ⟨q6, e7, h⟩ := z_bd h
          refine g_callV (a := 5) (as := [.int x1, .int (48 : Int32), .int (57 : Int32)]) (rest := []) (c := mX7_isBetween) (k1 := 0) dX7_advance_105 rfl rfl rfl sh_5 rfl rfl (Nat.le_of_ble_eq_true rfl) (Nat.le_of_ble_eq_true rfl) (by decide) ?_
          refine A_X7_isBetween e7 ?_
          show z_G none 2 mX7_advance 108 [some (.ref 7), some (.int x1)] [.int (z_tb q6.1)] q6.2 Q
          refine g_if_eq (t := 167) dX7_advance_108 (by decide) (fun c8 => ?_) (fun c8 => ?_)
          · replace h := z_iff (z_tb0.mp c8) h
            refine g_aload_n dX7_advance_167 rfl rfl ?_
            refine g_iload_n dX7_advance_168 rfl rfl ?_
            refine g_iconst (v := (1 : Int32)) dX7_advance_169 (by decide) ?_
            refine g_iadd dX7_advance_170 ?_
            refine g_putI (a := 5) dX7_advance_171 f_7_22 sh_5 rfl rfl rfl ?_
            refine g_aload_n dX7_advance_174 rfl rfl ?_
            refine g_aload_n dX7_advance_175 rfl rfl ?_
            refine g_iload_n dX7_advance_176 rfl rfl ?_
            obtain ⟨q9, e10, h⟩ := z_bd h
            refine g_callV (a := 5) (as := [.int x1]) (rest := [.ref 7]) (c := mX7_signAt) (k1 := 0) dX7_advance_177 rfl rfl rfl sh_5 rfl rfl (Nat.le_of_ble_eq_true rfl) (Nat.le_of_ble_eq_true rfl) (by decide) ?_
            refine A_X7_signAt e10 ?_
            show z_G none 2 mX7_advance 180 [some (.ref 7), some (.int x1)] [.int q9.1, .ref 7] q9.2 Q
            refine g_putI (a := 5) dX7_advance_180 f_7_37 sh_5 rfl rfl rfl ?_
            cases h
            exact g_vret dX7_advance_183 rfl hq
          · replace h := z_ift (z_tbn.mp c8) h
            refine g_aload_n dX7_advance_111 rfl rfl ?_
            refine g_bipush (v := (48 : Int32)) dX7_advance_112 (by decide) ?_
            refine g_bipush (v := (57 : Int32)) dX7_advance_114 (by decide) ?_
            obtain ⟨q11, e12, h⟩ := z_bd h
            refine g_callV (a := 5) (as := [.int (48 : Int32), .int (57 : Int32)]) (rest := []) (c := mX7_goBehind) (k1 := 1) dX7_advance_116 rfl rfl rfl sh_5 rfl rfl (Nat.le_of_ble_eq_true rfl) (Nat.le_of_ble_eq_true rfl) (by decide) ?_
            refine A_X7_goBehind e12 ?_
            show z_G none 2 mX7_advance 119 [some (.ref 7), some (.int x1)] [] q11.2 Q
            refine g_aload_n dX7_advance_119 rfl rfl ?_
            refine g_aload_n dX7_advance_120 rfl rfl ?_
            refine g_get (a := 5) (v := .int (q11.2.1 5 5)) dX7_advance_121 f_7_22 sh_5 rfl rfl ?_
            refine g_aload_n dX7_advance_124 rfl rfl ?_
            refine g_get (a := 5) (v := .int (q11.2.1 5 4)) dX7_advance_125 f_7_34 sh_5 rfl rfl ?_
            refine g_isub dX7_advance_128 ?_
            refine g_iconst (v := (4 : Int32)) dX7_advance_129 (by decide) ?_
            refine g_ic_le (t := 138) dX7_advance_130 (by decide) (fun c13 => ?_) (fun c13 => ?_)
            · replace h := z_ift c13 h
              refine g_bipush (v := (32 : Int32)) dX7_advance_138 (by decide) ?_
              refine g_putI (a := 5) dX7_advance_140 f_7_37 sh_5 rfl rfl rfl ?_
              refine g_aload_n dX7_advance_143 rfl rfl ?_
              refine g_aload_n dX7_advance_144 rfl rfl ?_
              refine g_get (a := 5) (v := .int (32 : Int32)) dX7_advance_145 f_7_37 sh_5 rfl (by simp [z_fv, z_wI, z_wL, z_wLs, upd, vp_updL]) ?_
              refine g_bipush (v := (32 : Int32)) dX7_advance_148 (by decide) ?_
              refine g_ic_ne (t := 160) dX7_advance_150 (by decide) (fun c14 => ?_) (fun c14 => ?_)
              · exact absurd c14 (by decide)
              · skip
                refine g_aload_n dX7_advance_153 rfl rfl ?_
                obtain ⟨q15, e16, h⟩ := z_bd h
                refine g_callV (a := 5) (as := []) (rest := [.ref 7]) (c := mX7_digitsRead) (k1 := 0) dX7_advance_154 rfl rfl rfl sh_5 rfl rfl (Nat.le_of_ble_eq_true rfl) (Nat.le_of_ble_eq_true rfl) (by decide) ?_
                refine A_X7_digitsRead e16 ?_
                show z_G none 2 mX7_advance 157 [some (.ref 7), some (.int x1)] [.int q15.1, .ref 7] q15.2 Q
                refine g_goto (t := 161) dX7_advance_157 (by decide) ?_
                refine g_putI (a := 5) dX7_advance_161 f_7_55 sh_5 rfl rfl rfl ?_
                refine g_goto (t := 183) dX7_advance_164 (by decide) ?_
                cases h
                exact g_vret dX7_advance_183 rfl hq
            · replace h := z_iff c13 h
              refine g_bipush (v := (37 : Int32)) dX7_advance_133 (by decide) ?_
              refine g_goto (t := 140) dX7_advance_135 (by decide) ?_
              refine g_putI (a := 5) dX7_advance_140 f_7_37 sh_5 rfl rfl rfl ?_
              refine g_aload_n dX7_advance_143 rfl rfl ?_
              refine g_aload_n dX7_advance_144 rfl rfl ?_
              refine g_get (a := 5) (v := .int (37 : Int32)) dX7_advance_145 f_7_37 sh_5 rfl (by simp [z_fv, z_wI, z_wL, z_wLs, upd, vp_updL]) ?_
              refine g_bipush (v := (32 : Int32)) dX7_advance_148 (by decide) ?_
              refine g_ic_ne (t := 160) dX7_advance_150 (by decide) (fun c17 => ?_) (fun c17 => ?_)
              · skip
                refine g_iconst (v := (0 : Int32)) dX7_advance_160 (by decide) ?_
                refine g_putI (a := 5) dX7_advance_161 f_7_55 sh_5 rfl rfl rfl ?_
                refine g_goto (t := 183) dX7_advance_164 (by decide) ?_
                cases h
                exact g_vret dX7_advance_183 rfl hq
              · exact absurd c17 (by decide)
        · replace h := z_ift (z_tbn.mp c5) h
          refine g_aload_n dX7_advance_80 rfl rfl ?_
          refine g_bipush (v := (97 : Int32)) dX7_advance_81 (by decide) ?_
          refine g_bipush (v := (122 : Int32)) dX7_advance_83 (by decide) ?_
          obtain ⟨q18, e19, h⟩ := z_bd h
          refine g_callV (a := 5) (as := [.int (97 : Int32), .int (122 : Int32)]) (rest := []) (c := mX7_goBehind) (k1 := 1) dX7_advance_85 rfl rfl rfl sh_5 rfl rfl (Nat.le_of_ble_eq_true rfl) (Nat.le_of_ble_eq_true rfl) (by decide) ?_
          refine A_X7_goBehind e19 ?_
          show z_G none 2 mX7_advance 88 [some (.ref 7), some (.int x1)] [] q18.2 Q
          refine g_aload_n dX7_advance_88 rfl rfl ?_
          refine g_aload_n dX7_advance_89 rfl rfl ?_
          obtain ⟨q20, e21, h⟩ := z_bd h
          refine g_callV (a := 5) (as := []) (rest := [.ref 7]) (c := mX7_wordNumber) (k1 := 0) dX7_advance_90 rfl rfl rfl sh_5 rfl rfl (Nat.le_of_ble_eq_true rfl) (Nat.le_of_ble_eq_true rfl) (by decide) ?_
          refine A_X7_wordNumber e21 ?_
          show z_G none 2 mX7_advance 93 [some (.ref 7), some (.int x1)] [.int q20.1, .ref 7] q20.2 Q
          refine g_putI (a := 5) dX7_advance_93 f_7_37 sh_5 rfl rfl rfl ?_
          refine g_goto (t := 183) dX7_advance_96 (by decide) ?_
          cases h
          exact g_vret dX7_advance_183 rfl hq
      · replace h := z_iff c2 h
        refine g_aload_n dX7_advance_59 rfl rfl ?_
        refine g_bipush (v := (38 : Int32)) dX7_advance_60 (by decide) ?_
        refine g_putI (a := 5) dX7_advance_62 f_7_37 sh_5 rfl rfl rfl ?_
        refine g_goto (t := 183) dX7_advance_65 (by decide) ?_
        cases h
        exact g_vret dX7_advance_183 rfl hq
    · replace h := z_iff c1 h
      refine g_aload_n dX7_advance_13 rfl rfl ?_
      refine g_get (a := 5) (v := .ref 8) dX7_advance_14 f_7_11 sh_5 rfl rfl ?_
      refine g_iload_n dX7_advance_17 rfl rfl ?_
      by_cases g22 : x1 < 0 ∨ 900 ≤ x1.toNatClampNeg
      · rw [if_pos g22] at h; cases h
      replace h := z_iff g22 h
      refine g_bald (a := 6) dX7_advance_18 sh_6 g22 ?_
      refine g_bipush (v := (32 : Int32)) dX7_advance_19 (by decide) ?_
      refine g_ic_eq (t := 35) dX7_advance_21 (by decide) (fun c23 => ?_) (fun c23 => ?_)
      · replace h := z_ift c23 h
        refine g_iinc (v := x1 + (1 : Int32)) (ls' := [some (.ref 7), some (.int (x1 + (1 : Int32)))]) dX7_advance_35 rfl rfl rfl ?_
        refine g_goto (t := 5) dX7_advance_38 (by decide) ?_
        exact g_sub (z_sub_s (z_sub_s z_sub_nil)) (ih _ _ _ _ _ h hq)
      · replace h := z_iff c23 h
        refine g_aload_n dX7_advance_24 rfl rfl ?_
        refine g_get (a := 5) (v := .ref 8) dX7_advance_25 f_7_11 sh_5 rfl rfl ?_
        refine g_iload_n dX7_advance_28 rfl rfl ?_
        by_cases g24 : x1 < 0 ∨ 900 ≤ x1.toNatClampNeg
        · rw [if_pos g24] at h; cases h
        replace h := z_iff g24 h
        refine g_bald (a := 6) dX7_advance_29 sh_6 g24 ?_
        refine g_bipush (v := (10 : Int32)) dX7_advance_30 (by decide) ?_
        refine g_ic_ne (t := 41) dX7_advance_32 (by decide) (fun c25 => ?_) (fun c25 => ?_)
        · replace h := z_iff c25 h
          refine g_aload_n dX7_advance_41 rfl rfl ?_
          refine g_iload_n dX7_advance_42 rfl rfl ?_
          refine g_putI (a := 5) dX7_advance_43 f_7_34 sh_5 rfl rfl rfl ?_
          refine g_aload_n dX7_advance_46 rfl rfl ?_
          refine g_iload_n dX7_advance_47 rfl rfl ?_
          refine g_putI (a := 5) dX7_advance_48 f_7_22 sh_5 rfl rfl rfl ?_
          refine g_iload_n dX7_advance_51 rfl rfl ?_
          refine g_aload_n dX7_advance_52 rfl rfl ?_
          refine g_get (a := 5) (v := .int (M.1 5 2)) dX7_advance_53 f_7_19 sh_5 rfl (by simp [z_fv, z_wI, z_wL, z_wLs, upd, vp_updL]) ?_
          refine g_ic_lt (t := 68) dX7_advance_56 (by decide) (fun c26 => ?_) (fun c26 => ?_)
          · replace h := z_ift c26 h
            refine g_aload_n dX7_advance_68 rfl rfl ?_
            refine g_iload_n dX7_advance_69 rfl rfl ?_
            refine g_bipush (v := (97 : Int32)) dX7_advance_70 (by decide) ?_
            refine g_bipush (v := (122 : Int32)) dX7_advance_72 (by decide) ?_
            obtain ⟨q27, e28, h⟩ := z_bd h
            refine g_callV (a := 5) (as := [.int x1, .int (97 : Int32), .int (122 : Int32)]) (rest := []) (c := mX7_isBetween) (k1 := 0) dX7_advance_74 rfl rfl rfl sh_5 rfl rfl (Nat.le_of_ble_eq_true rfl) (Nat.le_of_ble_eq_true rfl) (by decide) ?_
            refine A_X7_isBetween e28 ?_
            show z_G none 2 mX7_advance 77 [some (.ref 7), some (.int x1)] [.int (z_tb q27.1)] q27.2 Q
            refine g_if_eq (t := 99) dX7_advance_77 (by decide) (fun c29 => ?_) (fun c29 => ?_)
            · replace h := z_iff (z_tb0.mp c29) h
              refine g_aload_n dX7_advance_99 rfl rfl ?_
              refine g_iload_n dX7_advance_100 rfl rfl ?_
              refine g_bipush (v := (48 : Int32)) dX7_advance_101 (by decide) ?_
              refine g_bipush (v := (57 : Int32)) dX7_advance_103 (by decide) ?_
              obtain ⟨q30, e31, h⟩ := z_bd h
              refine g_callV (a := 5) (as := [.int x1, .int (48 : Int32), .int (57 : Int32)]) (rest := []) (c := mX7_isBetween) (k1 := 0) dX7_advance_105 rfl rfl rfl sh_5 rfl rfl (Nat.le_of_ble_eq_true rfl) (Nat.le_of_ble_eq_true rfl) (by decide) ?_
              refine A_X7_isBetween e31 ?_
              show z_G none 2 mX7_advance 108 [some (.ref 7), some (.int x1)] [.int (z_tb q30.1)] q30.2 Q
              refine g_if_eq (t := 167) dX7_advance_108 (by decide) (fun c32 => ?_) (fun c32 => ?_)
              · replace h := z_iff (z_tb0.mp c32) h
                refine g_aload_n dX7_advance_167 rfl rfl ?_
                refine g_iload_n dX7_advance_168 rfl rfl ?_
                refine g_iconst (v := (1 : Int32)) dX7_advance_169 (by decide) ?_
                refine g_iadd dX7_advance_170 ?_
                refine g_putI (a := 5) dX7_advance_171 f_7_22 sh_5 rfl rfl rfl ?_
                refine g_aload_n dX7_advance_174 rfl rfl ?_
                refine g_aload_n dX7_advance_175 rfl rfl ?_
                refine g_iload_n dX7_advance_176 rfl rfl ?_
                obtain ⟨q33, e34, h⟩ := z_bd h
                refine g_callV (a := 5) (as := [.int x1]) (rest := [.ref 7]) (c := mX7_signAt) (k1 := 0) dX7_advance_177 rfl rfl rfl sh_5 rfl rfl (Nat.le_of_ble_eq_true rfl) (Nat.le_of_ble_eq_true rfl) (by decide) ?_
                refine A_X7_signAt e34 ?_
                show z_G none 2 mX7_advance 180 [some (.ref 7), some (.int x1)] [.int q33.1, .ref 7] q33.2 Q
                refine g_putI (a := 5) dX7_advance_180 f_7_37 sh_5 rfl rfl rfl ?_
                cases h
                exact g_vret dX7_advance_183 rfl hq
              · replace h := z_ift (z_tbn.mp c32) h
                refine g_aload_n dX7_advance_111 rfl rfl ?_
                refine g_bipush (v := (48 : Int32)) dX7_advance_112 (by decide) ?_
                refine g_bipush (v := (57 : Int32)) dX7_advance_114 (by decide) ?_
                obtain ⟨q35, e36, h⟩ := z_bd h
                refine g_callV (a := 5) (as := [.int (48 : Int32), .int (57 : Int32)]) (rest := []) (c := mX7_goBehind) (k1 := 1) dX7_advance_116 rfl rfl rfl sh_5 rfl rfl (Nat.le_of_ble_eq_true rfl) (Nat.le_of_ble_eq_true rfl) (by decide) ?_
                refine A_X7_goBehind e36 ?_
                show z_G none 2 mX7_advance 119 [some (.ref 7), some (.int x1)] [] q35.2 Q
                refine g_aload_n dX7_advance_119 rfl rfl ?_
                refine g_aload_n dX7_advance_120 rfl rfl ?_
                refine g_get (a := 5) (v := .int (q35.2.1 5 5)) dX7_advance_121 f_7_22 sh_5 rfl rfl ?_
                refine g_aload_n dX7_advance_124 rfl rfl ?_
                refine g_get (a := 5) (v := .int (q35.2.1 5 4)) dX7_advance_125 f_7_34 sh_5 rfl rfl ?_
                refine g_isub dX7_advance_128 ?_
                refine g_iconst (v := (4 : Int32)) dX7_advance_129 (by decide) ?_
                refine g_ic_le (t := 138) dX7_advance_130 (by decide) (fun c37 => ?_) (fun c37 => ?_)
                · replace h := z_ift c37 h
                  refine g_bipush (v := (32 : Int32)) dX7_advance_138 (by decide) ?_
                  refine g_putI (a := 5) dX7_advance_140 f_7_37 sh_5 rfl rfl rfl ?_
                  refine g_aload_n dX7_advance_143 rfl rfl ?_
                  refine g_aload_n dX7_advance_144 rfl rfl ?_
                  refine g_get (a := 5) (v := .int (32 : Int32)) dX7_advance_145 f_7_37 sh_5 rfl (by simp [z_fv, z_wI, z_wL, z_wLs, upd, vp_updL]) ?_
                  refine g_bipush (v := (32 : Int32)) dX7_advance_148 (by decide) ?_
                  refine g_ic_ne (t := 160) dX7_advance_150 (by decide) (fun c38 => ?_) (fun c38 => ?_)
                  · exact absurd c38 (by decide)
                  · skip
                    refine g_aload_n dX7_advance_153 rfl rfl ?_
                    obtain ⟨q39, e40, h⟩ := z_bd h
                    refine g_callV (a := 5) (as := []) (rest := [.ref 7]) (c := mX7_digitsRead) (k1 := 0) dX7_advance_154 rfl rfl rfl sh_5 rfl rfl (Nat.le_of_ble_eq_true rfl) (Nat.le_of_ble_eq_true rfl) (by decide) ?_
                    refine A_X7_digitsRead e40 ?_
                    show z_G none 2 mX7_advance 157 [some (.ref 7), some (.int x1)] [.int q39.1, .ref 7] q39.2 Q
                    refine g_goto (t := 161) dX7_advance_157 (by decide) ?_
                    refine g_putI (a := 5) dX7_advance_161 f_7_55 sh_5 rfl rfl rfl ?_
                    refine g_goto (t := 183) dX7_advance_164 (by decide) ?_
                    cases h
                    exact g_vret dX7_advance_183 rfl hq
                · replace h := z_iff c37 h
                  refine g_bipush (v := (37 : Int32)) dX7_advance_133 (by decide) ?_
                  refine g_goto (t := 140) dX7_advance_135 (by decide) ?_
                  refine g_putI (a := 5) dX7_advance_140 f_7_37 sh_5 rfl rfl rfl ?_
                  refine g_aload_n dX7_advance_143 rfl rfl ?_
                  refine g_aload_n dX7_advance_144 rfl rfl ?_
                  refine g_get (a := 5) (v := .int (37 : Int32)) dX7_advance_145 f_7_37 sh_5 rfl (by simp [z_fv, z_wI, z_wL, z_wLs, upd, vp_updL]) ?_
                  refine g_bipush (v := (32 : Int32)) dX7_advance_148 (by decide) ?_
                  refine g_ic_ne (t := 160) dX7_advance_150 (by decide) (fun c41 => ?_) (fun c41 => ?_)
                  · skip
                    refine g_iconst (v := (0 : Int32)) dX7_advance_160 (by decide) ?_
                    refine g_putI (a := 5) dX7_advance_161 f_7_55 sh_5 rfl rfl rfl ?_
                    refine g_goto (t := 183) dX7_advance_164 (by decide) ?_
                    cases h
                    exact g_vret dX7_advance_183 rfl hq
                  · exact absurd c41 (by decide)
            · replace h := z_ift (z_tbn.mp c29) h
              refine g_aload_n dX7_advance_80 rfl rfl ?_
              refine g_bipush (v := (97 : Int32)) dX7_advance_81 (by decide) ?_
              refine g_bipush (v := (122 : Int32)) dX7_advance_83 (by decide) ?_
              obtain ⟨q42, e43, h⟩ := z_bd h
              refine g_callV (a := 5) (as := [.int (97 : Int32), .int (122 : Int32)]) (rest := []) (c := mX7_goBehind) (k1 := 1) dX7_advance_85 rfl rfl rfl sh_5 rfl rfl (Nat.le_of_ble_eq_true rfl) (Nat.le_of_ble_eq_true rfl) (by decide) ?_
              refine A_X7_goBehind e43 ?_
              show z_G none 2 mX7_advance 88 [some (.ref 7), some (.int x1)] [] q42.2 Q
              refine g_aload_n dX7_advance_88 rfl rfl ?_
              refine g_aload_n dX7_advance_89 rfl rfl ?_
              obtain ⟨q44, e45, h⟩ := z_bd h
              refine g_callV (a := 5) (as := []) (rest := [.ref 7]) (c := mX7_wordNumber) (k1 := 0) dX7_advance_90 rfl rfl rfl sh_5 rfl rfl (Nat.le_of_ble_eq_true rfl) (Nat.le_of_ble_eq_true rfl) (by decide) ?_
              refine A_X7_wordNumber e45 ?_
              show z_G none 2 mX7_advance 93 [some (.ref 7), some (.int x1)] [.int q44.1, .ref 7] q44.2 Q
              refine g_putI (a := 5) dX7_advance_93 f_7_37 sh_5 rfl rfl rfl ?_
              refine g_goto (t := 183) dX7_advance_96 (by decide) ?_
              cases h
              exact g_vret dX7_advance_183 rfl hq
          · replace h := z_iff c26 h
            refine g_aload_n dX7_advance_59 rfl rfl ?_
            refine g_bipush (v := (38 : Int32)) dX7_advance_60 (by decide) ?_
            refine g_putI (a := 5) dX7_advance_62 f_7_37 sh_5 rfl rfl rfl ?_
            refine g_goto (t := 183) dX7_advance_65 (by decide) ?_
            cases h
            exact g_vret dX7_advance_183 rfl hq
        · replace h := z_ift c25 h
          refine g_iinc (v := x1 + (1 : Int32)) (ls' := [some (.ref 7), some (.int (x1 + (1 : Int32)))]) dX7_advance_35 rfl rfl rfl ?_
          refine g_goto (t := 5) dX7_advance_38 (by decide) ?_
          exact g_sub (z_sub_s (z_sub_s z_sub_nil)) (ih _ _ _ _ _ h hq)
def F_X7_advance (w : Nat) (M : z_Mem) : Option (Unit × z_Mem) :=
  L_X7_advance w w M (M.1 5 5)
set_option maxHeartbeats 4000000 in
theorem A_X7_advance {w : Nat} {M : z_Mem} {r : Unit} {M' : z_Mem} {Q : Option Value → z_Mem → Prop} (h : F_X7_advance w M = some (r, M')) (hq : Q none M') : z_Cl 2 mX7_advance [.ref 7] M Q := by
  refine g_in (ls := [some (.ref 7), none]) rfl ?_
  unfold F_X7_advance at h
  refine g_aload_n dX7_advance_0 rfl rfl ?_
  refine g_get (a := 5) (v := .int (M.1 5 5)) dX7_advance_1 f_7_22 sh_5 rfl rfl ?_
  refine g_istore_n (ls' := [some (.ref 7), some (.int (M.1 5 5))]) dX7_advance_4 rfl (Nat.le_of_ble_eq_true rfl) rfl ?_
  exact g_sub (z_sub_s (z_sub_s z_sub_nil)) ((AL_X7_advance (w := w) w) _ _ _ _ _ h hq)
theorem dX7_open_0 : decode cX7_open 0 = .ok (.aload_n 0, 1) := by decide +kernel
theorem dX7_open_1 : decode cX7_open 1 = .ok (.iload_n 1, 1) := by decide +kernel
theorem dX7_open_2 : decode cX7_open 2 = .ok (.putfield 19, 3) := by decide +kernel
theorem dX7_open_5 : decode cX7_open 5 = .ok (.aload_n 0, 1) := by decide +kernel
theorem dX7_open_6 : decode cX7_open 6 = .ok (.iconst 0, 1) := by decide +kernel
theorem dX7_open_7 : decode cX7_open 7 = .ok (.putfield 22, 3) := by decide +kernel
theorem dX7_open_10 : decode cX7_open 10 = .ok (.aload_n 0, 1) := by decide +kernel
theorem dX7_open_11 : decode cX7_open 11 = .ok (.iconst 0, 1) := by decide +kernel
theorem dX7_open_12 : decode cX7_open 12 = .ok (.putfield 25, 3) := by decide +kernel
theorem dX7_open_15 : decode cX7_open 15 = .ok (.aload_n 0, 1) := by decide +kernel
theorem dX7_open_16 : decode cX7_open 16 = .ok (.iconst (-1), 1) := by decide +kernel
theorem dX7_open_17 : decode cX7_open 17 = .ok (.putfield 28, 3) := by decide +kernel
theorem dX7_open_20 : decode cX7_open 20 = .ok (.aload_n 0, 1) := by decide +kernel
theorem dX7_open_21 : decode cX7_open 21 = .ok (.invokevirtual 31, 3) := by decide +kernel
theorem dX7_open_24 : decode cX7_open 24 = .ok (.return_, 1) := by decide +kernel
def F_X7_open (w : Nat) (M : z_Mem) (a1 : Int32) : Option (Unit × z_Mem) :=
  (F_X7_advance w (z_wI (z_wI (z_wI (z_wI M 5 2 a1) 5 5 (0 : Int32)) 5 7 (0 : Int32)) 5 8 (-1 : Int32))).bind fun q1 =>
  some ((), q1.2)
set_option maxHeartbeats 4000000 in
theorem A_X7_open {w : Nat} {M : z_Mem} {a1 : Int32} {r : Unit} {M' : z_Mem} {Q : Option Value → z_Mem → Prop} (h : F_X7_open w M a1 = some (r, M')) (hq : Q none M') : z_Cl 3 mX7_open [.ref 7, .int a1] M Q := by
  refine g_in (ls := [some (.ref 7), some (.int a1)]) rfl ?_
  unfold F_X7_open at h
  refine g_aload_n dX7_open_0 rfl rfl ?_
  refine g_iload_n dX7_open_1 rfl rfl ?_
  refine g_putI (a := 5) dX7_open_2 f_7_19 sh_5 rfl rfl rfl ?_
  refine g_aload_n dX7_open_5 rfl rfl ?_
  refine g_iconst (v := (0 : Int32)) dX7_open_6 (by decide) ?_
  refine g_putI (a := 5) dX7_open_7 f_7_22 sh_5 rfl rfl rfl ?_
  refine g_aload_n dX7_open_10 rfl rfl ?_
  refine g_iconst (v := (0 : Int32)) dX7_open_11 (by decide) ?_
  refine g_putI (a := 5) dX7_open_12 f_7_25 sh_5 rfl rfl rfl ?_
  refine g_aload_n dX7_open_15 rfl rfl ?_
  refine g_iconst (v := (-1 : Int32)) dX7_open_16 (by decide) ?_
  refine g_putI (a := 5) dX7_open_17 f_7_28 sh_5 rfl rfl rfl ?_
  refine g_aload_n dX7_open_20 rfl rfl ?_
  obtain ⟨q1, e2, h⟩ := z_bd h
  refine g_callV (a := 5) (as := []) (rest := []) (c := mX7_advance) (k1 := 2) dX7_open_21 rfl rfl rfl sh_5 rfl rfl (Nat.le_of_ble_eq_true rfl) (Nat.le_of_ble_eq_true rfl) (by decide) ?_
  refine A_X7_advance e2 ?_
  show z_G none 3 mX7_open 24 [some (.ref 7), some (.int a1)] [] q1.2 Q
  cases h
  exact g_vret dX7_open_24 rfl hq
theorem dX7_fail_0 : decode cX7_fail 0 = .ok (.aload_n 0, 1) := by decide +kernel
theorem dX7_fail_1 : decode cX7_fail 1 = .ok (.aload_n 0, 1) := by decide +kernel
theorem dX7_fail_2 : decode cX7_fail 2 = .ok (.getfield 37, 3) := by decide +kernel
theorem dX7_fail_5 : decode cX7_fail 5 = .ok (.bipush 37, 2) := by decide +kernel
theorem dX7_fail_7 : decode cX7_fail 7 = .ok (.if_icmp .ne 7, 3) := by decide +kernel
theorem dX7_fail_10 : decode cX7_fail 10 = .ok (.iconst 1, 1) := by decide +kernel
theorem dX7_fail_11 : decode cX7_fail 11 = .ok (.goto 4, 3) := by decide +kernel
theorem dX7_fail_14 : decode cX7_fail 14 = .ok (.iload_n 1, 1) := by decide +kernel
theorem dX7_fail_15 : decode cX7_fail 15 = .ok (.putfield 25, 3) := by decide +kernel
theorem dX7_fail_18 : decode cX7_fail 18 = .ok (.aload_n 0, 1) := by decide +kernel
theorem dX7_fail_19 : decode cX7_fail 19 = .ok (.aload_n 0, 1) := by decide +kernel
theorem dX7_fail_20 : decode cX7_fail 20 = .ok (.getfield 34, 3) := by decide +kernel
theorem dX7_fail_23 : decode cX7_fail 23 = .ok (.putfield 28, 3) := by decide +kernel
theorem dX7_fail_26 : decode cX7_fail 26 = .ok (.iconst 0, 1) := by decide +kernel
theorem dX7_fail_27 : decode cX7_fail 27 = .ok (.ireturn, 1) := by decide +kernel
def F_X7_fail (w : Nat) (M : z_Mem) (a1 : Int32) : Option (Bool × z_Mem) :=
  if (M.1 5 3) = (37 : Int32) then
  some (false, (z_wI (z_wI M 5 7 (1 : Int32)) 5 8 (M.1 5 4)))
  else
  some (false, (z_wI (z_wI M 5 7 a1) 5 8 (M.1 5 4)))
set_option maxHeartbeats 4000000 in
theorem A_X7_fail {w : Nat} {M : z_Mem} {a1 : Int32} {r : Bool} {M' : z_Mem} {Q : Option Value → z_Mem → Prop} (h : F_X7_fail w M a1 = some (r, M')) (hq : Q (some (.int (z_tb r))) M') : z_Cl 0 mX7_fail [.ref 7, .int a1] M Q := by
  refine g_in (ls := [some (.ref 7), some (.int a1)]) rfl ?_
  unfold F_X7_fail at h
  refine g_aload_n dX7_fail_0 rfl rfl ?_
  refine g_aload_n dX7_fail_1 rfl rfl ?_
  refine g_get (a := 5) (v := .int (M.1 5 3)) dX7_fail_2 f_7_37 sh_5 rfl rfl ?_
  refine g_bipush (v := (37 : Int32)) dX7_fail_5 (by decide) ?_
  refine g_ic_ne (t := 14) dX7_fail_7 (by decide) (fun c1 => ?_) (fun c1 => ?_)
  · replace h := z_iff c1 h
    refine g_iload_n dX7_fail_14 rfl rfl ?_
    refine g_putI (a := 5) dX7_fail_15 f_7_25 sh_5 rfl rfl rfl ?_
    refine g_aload_n dX7_fail_18 rfl rfl ?_
    refine g_aload_n dX7_fail_19 rfl rfl ?_
    refine g_get (a := 5) (v := .int (M.1 5 4)) dX7_fail_20 f_7_34 sh_5 rfl (by simp [z_fv, z_wI, z_wL, z_wLs, upd, vp_updL]) ?_
    refine g_putI (a := 5) dX7_fail_23 f_7_28 sh_5 rfl rfl rfl ?_
    refine g_iconst (v := (0 : Int32)) dX7_fail_26 (by decide) ?_
    cases h
    exact g_iret dX7_fail_27 rfl rfl hq
  · replace h := z_ift c1 h
    refine g_iconst (v := (1 : Int32)) dX7_fail_10 (by decide) ?_
    refine g_goto (t := 15) dX7_fail_11 (by decide) ?_
    refine g_putI (a := 5) dX7_fail_15 f_7_25 sh_5 rfl rfl rfl ?_
    refine g_aload_n dX7_fail_18 rfl rfl ?_
    refine g_aload_n dX7_fail_19 rfl rfl ?_
    refine g_get (a := 5) (v := .int (M.1 5 4)) dX7_fail_20 f_7_34 sh_5 rfl (by simp [z_fv, z_wI, z_wL, z_wLs, upd, vp_updL]) ?_
    refine g_putI (a := 5) dX7_fail_23 f_7_28 sh_5 rfl rfl rfl ?_
    refine g_iconst (v := (0 : Int32)) dX7_fail_26 (by decide) ?_
    cases h
    exact g_iret dX7_fail_27 rfl rfl hq
theorem dX4_isFirst_0 : decode cX4_isFirst 0 = .ok (.aload_n 0, 1) := by decide +kernel
theorem dX4_isFirst_1 : decode cX4_isFirst 1 = .ok (.getfield 33, 3) := by decide +kernel
theorem dX4_isFirst_4 : decode cX4_isFirst 4 = .ok (.iload_n 1, 1) := by decide +kernel
theorem dX4_isFirst_5 : decode cX4_isFirst 5 = .ok (.ishr, 1) := by decide +kernel
theorem dX4_isFirst_6 : decode cX4_isFirst 6 = .ok (.iconst 1, 1) := by decide +kernel
theorem dX4_isFirst_7 : decode cX4_isFirst 7 = .ok (.iand, 1) := by decide +kernel
theorem dX4_isFirst_8 : decode cX4_isFirst 8 = .ok (.iconst 1, 1) := by decide +kernel
theorem dX4_isFirst_9 : decode cX4_isFirst 9 = .ok (.if_icmp .ne 12, 3) := by decide +kernel
theorem dX4_isFirst_12 : decode cX4_isFirst 12 = .ok (.aload_n 0, 1) := by decide +kernel
theorem dX4_isFirst_13 : decode cX4_isFirst 13 = .ok (.getfield 20, 3) := by decide +kernel
theorem dX4_isFirst_16 : decode cX4_isFirst 16 = .ok (.iconst 5, 1) := by decide +kernel
theorem dX4_isFirst_17 : decode cX4_isFirst 17 = .ok (.invokevirtual 72, 3) := by decide +kernel
theorem dX4_isFirst_20 : decode cX4_isFirst 20 = .ok (.ireturn, 1) := by decide +kernel
theorem dX4_isFirst_21 : decode cX4_isFirst 21 = .ok (.aload_n 0, 1) := by decide +kernel
theorem dX4_isFirst_22 : decode cX4_isFirst 22 = .ok (.dup, 1) := by decide +kernel
theorem dX4_isFirst_23 : decode cX4_isFirst 23 = .ok (.getfield 33, 3) := by decide +kernel
theorem dX4_isFirst_26 : decode cX4_isFirst 26 = .ok (.iconst 1, 1) := by decide +kernel
theorem dX4_isFirst_27 : decode cX4_isFirst 27 = .ok (.iload_n 1, 1) := by decide +kernel
theorem dX4_isFirst_28 : decode cX4_isFirst 28 = .ok (.ishl, 1) := by decide +kernel
theorem dX4_isFirst_29 : decode cX4_isFirst 29 = .ok (.ior, 1) := by decide +kernel
theorem dX4_isFirst_30 : decode cX4_isFirst 30 = .ok (.putfield 33, 3) := by decide +kernel
theorem dX4_isFirst_33 : decode cX4_isFirst 33 = .ok (.iconst 1, 1) := by decide +kernel
theorem dX4_isFirst_34 : decode cX4_isFirst 34 = .ok (.ireturn, 1) := by decide +kernel
def F_X4_isFirst (w : Nat) (M : z_Mem) (a1 : Int32) : Option (Bool × z_Mem) :=
  if (((M.1 53 4) >>> (a1 &&& 31)) &&& (1 : Int32)) = (1 : Int32) then
  (F_X7_fail w M (5 : Int32)).bind fun q2 =>
  some (q2.1, q2.2)
  else
  some (true, (z_wI M 53 4 ((M.1 53 4) ||| ((1 : Int32) <<< (a1 &&& 31)))))
set_option maxHeartbeats 4000000 in
theorem A_X4_isFirst {w : Nat} {M : z_Mem} {a1 : Int32} {r : Bool} {M' : z_Mem} {Q : Option Value → z_Mem → Prop} (h : F_X4_isFirst w M a1 = some (r, M')) (hq : Q (some (.int (z_tb r))) M') : z_Cl 1 mX4_isFirst [.ref 55, .int a1] M Q := by
  refine g_in (ls := [some (.ref 55), some (.int a1)]) rfl ?_
  unfold F_X4_isFirst at h
  refine g_aload_n dX4_isFirst_0 rfl rfl ?_
  refine g_get (a := 53) (v := .int (M.1 53 4)) dX4_isFirst_1 f_4_33 sh_53 rfl rfl ?_
  refine g_iload_n dX4_isFirst_4 rfl rfl ?_
  refine g_ishr dX4_isFirst_5 ?_
  refine g_iconst (v := (1 : Int32)) dX4_isFirst_6 (by decide) ?_
  refine g_iand dX4_isFirst_7 ?_
  refine g_iconst (v := (1 : Int32)) dX4_isFirst_8 (by decide) ?_
  refine g_ic_ne (t := 21) dX4_isFirst_9 (by decide) (fun c1 => ?_) (fun c1 => ?_)
  · replace h := z_iff c1 h
    refine g_aload_n dX4_isFirst_21 rfl rfl ?_
    refine g_dup dX4_isFirst_22 rfl ?_
    refine g_get (a := 53) (v := .int (M.1 53 4)) dX4_isFirst_23 f_4_33 sh_53 rfl rfl ?_
    refine g_iconst (v := (1 : Int32)) dX4_isFirst_26 (by decide) ?_
    refine g_iload_n dX4_isFirst_27 rfl rfl ?_
    refine g_ishl dX4_isFirst_28 ?_
    refine g_ior dX4_isFirst_29 ?_
    refine g_putI (a := 53) dX4_isFirst_30 f_4_33 sh_53 rfl rfl rfl ?_
    refine g_iconst (v := (1 : Int32)) dX4_isFirst_33 (by decide) ?_
    cases h
    exact g_iret dX4_isFirst_34 rfl rfl hq
  · replace h := z_ift c1 h
    refine g_aload_n dX4_isFirst_12 rfl rfl ?_
    refine g_get (a := 53) (v := .ref 7) dX4_isFirst_13 f_4_20 sh_53 rfl rfl ?_
    refine g_iconst (v := (5 : Int32)) dX4_isFirst_16 (by decide) ?_
    obtain ⟨q2, e3, h⟩ := z_bd h
    refine g_callV (a := 5) (as := [.int (5 : Int32)]) (rest := []) (c := mX7_fail) (k1 := 0) dX4_isFirst_17 rfl rfl rfl sh_5 rfl rfl (Nat.le_of_ble_eq_true rfl) (Nat.le_of_ble_eq_true rfl) (by decide) ?_
    refine A_X7_fail e3 ?_
    show z_G none 1 mX4_isFirst 20 [some (.ref 55), some (.int a1)] [.int (z_tb q2.1)] q2.2 Q
    cases h
    exact g_iret dX4_isFirst_20 rfl nb_tb hq
theorem dX7_takeNumber_0 : decode cX7_takeNumber 0 = .ok (.aload_n 0, 1) := by decide +kernel
theorem dX7_takeNumber_1 : decode cX7_takeNumber 1 = .ok (.getfield 55, 3) := by decide +kernel
theorem dX7_takeNumber_4 : decode cX7_takeNumber 4 = .ok (.istore_n 3, 1) := by decide +kernel
theorem dX7_takeNumber_5 : decode cX7_takeNumber 5 = .ok (.aload_n 0, 1) := by decide +kernel
theorem dX7_takeNumber_6 : decode cX7_takeNumber 6 = .ok (.getfield 37, 3) := by decide +kernel
theorem dX7_takeNumber_9 : decode cX7_takeNumber 9 = .ok (.bipush 32, 2) := by decide +kernel
theorem dX7_takeNumber_11 : decode cX7_takeNumber 11 = .ok (.if_icmp .eq 11, 3) := by decide +kernel
theorem dX7_takeNumber_14 : decode cX7_takeNumber 14 = .ok (.aload_n 0, 1) := by decide +kernel
theorem dX7_takeNumber_15 : decode cX7_takeNumber 15 = .ok (.iconst 2, 1) := by decide +kernel
theorem dX7_takeNumber_16 : decode cX7_takeNumber 16 = .ok (.invokevirtual 72, 3) := by decide +kernel
theorem dX7_takeNumber_19 : decode cX7_takeNumber 19 = .ok (.pop, 1) := by decide +kernel
theorem dX7_takeNumber_20 : decode cX7_takeNumber 20 = .ok (.iconst (-1), 1) := by decide +kernel
theorem dX7_takeNumber_21 : decode cX7_takeNumber 21 = .ok (.ireturn, 1) := by decide +kernel
theorem dX7_takeNumber_22 : decode cX7_takeNumber 22 = .ok (.iload_n 3, 1) := by decide +kernel
theorem dX7_takeNumber_23 : decode cX7_takeNumber 23 = .ok (.iload_n 1, 1) := by decide +kernel
theorem dX7_takeNumber_24 : decode cX7_takeNumber 24 = .ok (.if_icmp .lt 8, 3) := by decide +kernel
theorem dX7_takeNumber_27 : decode cX7_takeNumber 27 = .ok (.iload_n 3, 1) := by decide +kernel
theorem dX7_takeNumber_28 : decode cX7_takeNumber 28 = .ok (.iload_n 2, 1) := by decide +kernel
theorem dX7_takeNumber_29 : decode cX7_takeNumber 29 = .ok (.if_icmp .le 11, 3) := by decide +kernel
theorem dX7_takeNumber_32 : decode cX7_takeNumber 32 = .ok (.aload_n 0, 1) := by decide +kernel
theorem dX7_takeNumber_33 : decode cX7_takeNumber 33 = .ok (.iconst 4, 1) := by decide +kernel
theorem dX7_takeNumber_34 : decode cX7_takeNumber 34 = .ok (.invokevirtual 72, 3) := by decide +kernel
theorem dX7_takeNumber_37 : decode cX7_takeNumber 37 = .ok (.pop, 1) := by decide +kernel
theorem dX7_takeNumber_38 : decode cX7_takeNumber 38 = .ok (.iconst (-1), 1) := by decide +kernel
theorem dX7_takeNumber_39 : decode cX7_takeNumber 39 = .ok (.ireturn, 1) := by decide +kernel
theorem dX7_takeNumber_40 : decode cX7_takeNumber 40 = .ok (.aload_n 0, 1) := by decide +kernel
theorem dX7_takeNumber_41 : decode cX7_takeNumber 41 = .ok (.invokevirtual 31, 3) := by decide +kernel
theorem dX7_takeNumber_44 : decode cX7_takeNumber 44 = .ok (.iload_n 3, 1) := by decide +kernel
theorem dX7_takeNumber_45 : decode cX7_takeNumber 45 = .ok (.ireturn, 1) := by decide +kernel
def F_X7_takeNumber (w : Nat) (M : z_Mem) (a1 : Int32) (a2 : Int32) : Option (Int32 × z_Mem) :=
  if (M.1 5 3) = (32 : Int32) then
  if (M.1 5 6) < a1 then
  (F_X7_fail w M (4 : Int32)).bind fun q3 =>
  some ((-1 : Int32), q3.2)
  else
  if (M.1 5 6) ≤ a2 then
  (F_X7_advance w M).bind fun q6 =>
  some (M.1 5 6, q6.2)
  else
  (F_X7_fail w M (4 : Int32)).bind fun q8 =>
  some ((-1 : Int32), q8.2)
  else
  (F_X7_fail w M (2 : Int32)).bind fun q10 =>
  some ((-1 : Int32), q10.2)
set_option maxHeartbeats 4000000 in
theorem A_X7_takeNumber {w : Nat} {M : z_Mem} {a1 : Int32} {a2 : Int32} {r : Int32} {M' : z_Mem} {Q : Option Value → z_Mem → Prop} (h : F_X7_takeNumber w M a1 a2 = some (r, M')) (hq : Q (some (.int r)) M') : z_Cl 3 mX7_takeNumber [.ref 7, .int a1, .int a2] M Q := by
  refine g_in (ls := [some (.ref 7), some (.int a1), some (.int a2), none]) rfl ?_
  unfold F_X7_takeNumber at h
  refine g_aload_n dX7_takeNumber_0 rfl rfl ?_
  refine g_get (a := 5) (v := .int (M.1 5 6)) dX7_takeNumber_1 f_7_55 sh_5 rfl rfl ?_
  refine g_istore_n (ls' := [some (.ref 7), some (.int a1), some (.int a2), some (.int (M.1 5 6))]) dX7_takeNumber_4 rfl (Nat.le_of_ble_eq_true rfl) rfl ?_
  refine g_aload_n dX7_takeNumber_5 rfl rfl ?_
  refine g_get (a := 5) (v := .int (M.1 5 3)) dX7_takeNumber_6 f_7_37 sh_5 rfl rfl ?_
  refine g_bipush (v := (32 : Int32)) dX7_takeNumber_9 (by decide) ?_
  refine g_ic_eq (t := 22) dX7_takeNumber_11 (by decide) (fun c1 => ?_) (fun c1 => ?_)
  · replace h := z_ift c1 h
    refine g_iload_n dX7_takeNumber_22 rfl rfl ?_
    refine g_iload_n dX7_takeNumber_23 rfl rfl ?_
    refine g_ic_lt (t := 32) dX7_takeNumber_24 (by decide) (fun c2 => ?_) (fun c2 => ?_)
    · replace h := z_ift c2 h
      refine g_aload_n dX7_takeNumber_32 rfl rfl ?_
      refine g_iconst (v := (4 : Int32)) dX7_takeNumber_33 (by decide) ?_
      obtain ⟨q3, e4, h⟩ := z_bd h
      refine g_callV (a := 5) (as := [.int (4 : Int32)]) (rest := []) (c := mX7_fail) (k1 := 0) dX7_takeNumber_34 rfl rfl rfl sh_5 rfl rfl (Nat.le_of_ble_eq_true rfl) (Nat.le_of_ble_eq_true rfl) (by decide) ?_
      refine A_X7_fail e4 ?_
      show z_G none 3 mX7_takeNumber 37 [some (.ref 7), some (.int a1), some (.int a2), some (.int (M.1 5 6))] [.int (z_tb q3.1)] q3.2 Q
      refine g_pop dX7_takeNumber_37 rfl ?_
      refine g_iconst (v := (-1 : Int32)) dX7_takeNumber_38 (by decide) ?_
      cases h
      exact g_iret dX7_takeNumber_39 rfl rfl hq
    · replace h := z_iff c2 h
      refine g_iload_n dX7_takeNumber_27 rfl rfl ?_
      refine g_iload_n dX7_takeNumber_28 rfl rfl ?_
      refine g_ic_le (t := 40) dX7_takeNumber_29 (by decide) (fun c5 => ?_) (fun c5 => ?_)
      · replace h := z_ift c5 h
        refine g_aload_n dX7_takeNumber_40 rfl rfl ?_
        obtain ⟨q6, e7, h⟩ := z_bd h
        refine g_callV (a := 5) (as := []) (rest := []) (c := mX7_advance) (k1 := 2) dX7_takeNumber_41 rfl rfl rfl sh_5 rfl rfl (Nat.le_of_ble_eq_true rfl) (Nat.le_of_ble_eq_true rfl) (by decide) ?_
        refine A_X7_advance e7 ?_
        show z_G none 3 mX7_takeNumber 44 [some (.ref 7), some (.int a1), some (.int a2), some (.int (M.1 5 6))] [] q6.2 Q
        refine g_iload_n dX7_takeNumber_44 rfl rfl ?_
        cases h
        exact g_iret dX7_takeNumber_45 rfl rfl hq
      · replace h := z_iff c5 h
        refine g_aload_n dX7_takeNumber_32 rfl rfl ?_
        refine g_iconst (v := (4 : Int32)) dX7_takeNumber_33 (by decide) ?_
        obtain ⟨q8, e9, h⟩ := z_bd h
        refine g_callV (a := 5) (as := [.int (4 : Int32)]) (rest := []) (c := mX7_fail) (k1 := 0) dX7_takeNumber_34 rfl rfl rfl sh_5 rfl rfl (Nat.le_of_ble_eq_true rfl) (Nat.le_of_ble_eq_true rfl) (by decide) ?_
        refine A_X7_fail e9 ?_
        show z_G none 3 mX7_takeNumber 37 [some (.ref 7), some (.int a1), some (.int a2), some (.int (M.1 5 6))] [.int (z_tb q8.1)] q8.2 Q
        refine g_pop dX7_takeNumber_37 rfl ?_
        refine g_iconst (v := (-1 : Int32)) dX7_takeNumber_38 (by decide) ?_
        cases h
        exact g_iret dX7_takeNumber_39 rfl rfl hq
  · replace h := z_iff c1 h
    refine g_aload_n dX7_takeNumber_14 rfl rfl ?_
    refine g_iconst (v := (2 : Int32)) dX7_takeNumber_15 (by decide) ?_
    obtain ⟨q10, e11, h⟩ := z_bd h
    refine g_callV (a := 5) (as := [.int (2 : Int32)]) (rest := []) (c := mX7_fail) (k1 := 0) dX7_takeNumber_16 rfl rfl rfl sh_5 rfl rfl (Nat.le_of_ble_eq_true rfl) (Nat.le_of_ble_eq_true rfl) (by decide) ?_
    refine A_X7_fail e11 ?_
    show z_G none 3 mX7_takeNumber 19 [some (.ref 7), some (.int a1), some (.int a2), some (.int (M.1 5 6))] [.int (z_tb q10.1)] q10.2 Q
    refine g_pop dX7_takeNumber_19 rfl ?_
    refine g_iconst (v := (-1 : Int32)) dX7_takeNumber_20 (by decide) ?_
    cases h
    exact g_iret dX7_takeNumber_21 rfl rfl hq
theorem dX4_readRule_0 : decode cX4_readRule 0 = .ok (.aload_n 0, 1) := by decide +kernel
theorem dX4_readRule_1 : decode cX4_readRule 1 = .ok (.getfield 20, 3) := by decide +kernel
theorem dX4_readRule_4 : decode cX4_readRule 4 = .ok (.getfield 43, 3) := by decide +kernel
theorem dX4_readRule_7 : decode cX4_readRule 7 = .ok (.istore_n 2, 1) := by decide +kernel
theorem dX4_readRule_8 : decode cX4_readRule 8 = .ok (.aload_n 0, 1) := by decide +kernel
theorem dX4_readRule_9 : decode cX4_readRule 9 = .ok (.iload_n 2, 1) := by decide +kernel
theorem dX4_readRule_10 : decode cX4_readRule 10 = .ok (.invokevirtual 78, 3) := by decide +kernel
theorem dX4_readRule_13 : decode cX4_readRule 13 = .ok (.ifCond .ne 5, 3) := by decide +kernel
theorem dX4_readRule_16 : decode cX4_readRule 16 = .ok (.iconst 0, 1) := by decide +kernel
theorem dX4_readRule_17 : decode cX4_readRule 17 = .ok (.ireturn, 1) := by decide +kernel
theorem dX4_readRule_18 : decode cX4_readRule 18 = .ok (.aload_n 0, 1) := by decide +kernel
theorem dX4_readRule_19 : decode cX4_readRule 19 = .ok (.getfield 20, 3) := by decide +kernel
theorem dX4_readRule_22 : decode cX4_readRule 22 = .ok (.invokevirtual 81, 3) := by decide +kernel
theorem dX4_readRule_25 : decode cX4_readRule 25 = .ok (.aload_n 0, 1) := by decide +kernel
theorem dX4_readRule_26 : decode cX4_readRule 26 = .ok (.getfield 20, 3) := by decide +kernel
theorem dX4_readRule_29 : decode cX4_readRule 29 = .ok (.iconst 0, 1) := by decide +kernel
theorem dX4_readRule_30 : decode cX4_readRule 30 = .ok (.iload_n 1, 1) := by decide +kernel
theorem dX4_readRule_31 : decode cX4_readRule 31 = .ok (.invokevirtual 84, 3) := by decide +kernel
theorem dX4_readRule_34 : decode cX4_readRule 34 = .ok (.istore_n 3, 1) := by decide +kernel
theorem dX4_readRule_35 : decode cX4_readRule 35 = .ok (.iload_n 3, 1) := by decide +kernel
theorem dX4_readRule_36 : decode cX4_readRule 36 = .ok (.iconst (-1), 1) := by decide +kernel
theorem dX4_readRule_37 : decode cX4_readRule 37 = .ok (.if_icmp .ne 5, 3) := by decide +kernel
theorem dX4_readRule_40 : decode cX4_readRule 40 = .ok (.iconst 0, 1) := by decide +kernel
theorem dX4_readRule_41 : decode cX4_readRule 41 = .ok (.ireturn, 1) := by decide +kernel
theorem dX4_readRule_42 : decode cX4_readRule 42 = .ok (.aload_n 0, 1) := by decide +kernel
theorem dX4_readRule_43 : decode cX4_readRule 43 = .ok (.getfield 24, 3) := by decide +kernel
theorem dX4_readRule_46 : decode cX4_readRule 46 = .ok (.iload_n 2, 1) := by decide +kernel
theorem dX4_readRule_47 : decode cX4_readRule 47 = .ok (.iconst 0, 1) := by decide +kernel
theorem dX4_readRule_48 : decode cX4_readRule 48 = .ok (.isub, 1) := by decide +kernel
theorem dX4_readRule_49 : decode cX4_readRule 49 = .ok (.iload_n 3, 1) := by decide +kernel
theorem dX4_readRule_50 : decode cX4_readRule 50 = .ok (.invokevirtual 88, 3) := by decide +kernel
theorem dX4_readRule_53 : decode cX4_readRule 53 = .ok (.iconst 1, 1) := by decide +kernel
theorem dX4_readRule_54 : decode cX4_readRule 54 = .ok (.ireturn, 1) := by decide +kernel
def F_X4_readRule (w : Nat) (M : z_Mem) (a1 : Int32) : Option (Bool × z_Mem) :=
  (F_X4_isFirst w M (M.1 5 3)).bind fun q1 =>
  if q1.1 = true then
  (F_X7_advance w q1.2).bind fun q4 =>
  (F_X7_takeNumber w q4.2 (0 : Int32) a1).bind fun q6 =>
  if q6.1 = (-1 : Int32) then
  some (false, q6.2)
  else
  (F_X3_setRule w q6.2 30 ((M.1 5 3) - (0 : Int32)) q6.1).bind fun q9 =>
  some (true, q9.2)
  else
  some (false, q1.2)
set_option maxHeartbeats 4000000 in
theorem A_X4_readRule {w : Nat} {M : z_Mem} {a1 : Int32} {r : Bool} {M' : z_Mem} {Q : Option Value → z_Mem → Prop} (h : F_X4_readRule w M a1 = some (r, M')) (hq : Q (some (.int (z_tb r))) M') : z_Cl 4 mX4_readRule [.ref 55, .int a1] M Q := by
  refine g_in (ls := [some (.ref 55), some (.int a1), none, none]) rfl ?_
  unfold F_X4_readRule at h
  refine g_aload_n dX4_readRule_0 rfl rfl ?_
  refine g_get (a := 53) (v := .ref 7) dX4_readRule_1 f_4_20 sh_53 rfl rfl ?_
  refine g_get (a := 5) (v := .int (M.1 5 3)) dX4_readRule_4 f_4_43 sh_5 rfl rfl ?_
  refine g_istore_n (ls' := [some (.ref 55), some (.int a1), some (.int (M.1 5 3)), none]) dX4_readRule_7 rfl (Nat.le_of_ble_eq_true rfl) rfl ?_
  refine g_aload_n dX4_readRule_8 rfl rfl ?_
  refine g_iload_n dX4_readRule_9 rfl rfl ?_
  obtain ⟨q1, e2, h⟩ := z_bd h
  refine g_callV (a := 53) (as := [.int (M.1 5 3)]) (rest := []) (c := mX4_isFirst) (k1 := 1) dX4_readRule_10 rfl rfl rfl sh_53 rfl rfl (Nat.le_of_ble_eq_true rfl) (Nat.le_of_ble_eq_true rfl) (by decide) ?_
  refine A_X4_isFirst e2 ?_
  show z_G none 4 mX4_readRule 13 [some (.ref 55), some (.int a1), some (.int (M.1 5 3)), none] [.int (z_tb q1.1)] q1.2 Q
  refine g_if_ne (t := 18) dX4_readRule_13 (by decide) (fun c3 => ?_) (fun c3 => ?_)
  · replace h := z_ift (z_tbn.mp c3) h
    refine g_aload_n dX4_readRule_18 rfl rfl ?_
    refine g_get (a := 53) (v := .ref 7) dX4_readRule_19 f_4_20 sh_53 rfl rfl ?_
    obtain ⟨q4, e5, h⟩ := z_bd h
    refine g_callV (a := 5) (as := []) (rest := []) (c := mX7_advance) (k1 := 2) dX4_readRule_22 rfl rfl rfl sh_5 rfl rfl (Nat.le_of_ble_eq_true rfl) (Nat.le_of_ble_eq_true rfl) (by decide) ?_
    refine A_X7_advance e5 ?_
    show z_G none 4 mX4_readRule 25 [some (.ref 55), some (.int a1), some (.int (M.1 5 3)), none] [] q4.2 Q
    refine g_aload_n dX4_readRule_25 rfl rfl ?_
    refine g_get (a := 53) (v := .ref 7) dX4_readRule_26 f_4_20 sh_53 rfl rfl ?_
    refine g_iconst (v := (0 : Int32)) dX4_readRule_29 (by decide) ?_
    refine g_iload_n dX4_readRule_30 rfl rfl ?_
    obtain ⟨q6, e7, h⟩ := z_bd h
    refine g_callV (a := 5) (as := [.int (0 : Int32), .int a1]) (rest := []) (c := mX7_takeNumber) (k1 := 3) dX4_readRule_31 rfl rfl rfl sh_5 rfl rfl (Nat.le_of_ble_eq_true rfl) (Nat.le_of_ble_eq_true rfl) (by decide) ?_
    refine A_X7_takeNumber e7 ?_
    show z_G none 4 mX4_readRule 34 [some (.ref 55), some (.int a1), some (.int (M.1 5 3)), none] [.int q6.1] q6.2 Q
    refine g_istore_n (ls' := [some (.ref 55), some (.int a1), some (.int (M.1 5 3)), some (.int q6.1)]) dX4_readRule_34 rfl (Nat.le_of_ble_eq_true rfl) rfl ?_
    refine g_iload_n dX4_readRule_35 rfl rfl ?_
    refine g_iconst (v := (-1 : Int32)) dX4_readRule_36 (by decide) ?_
    refine g_ic_ne (t := 42) dX4_readRule_37 (by decide) (fun c8 => ?_) (fun c8 => ?_)
    · replace h := z_iff c8 h
      refine g_aload_n dX4_readRule_42 rfl rfl ?_
      refine g_get (a := 53) (v := .ref 32) dX4_readRule_43 f_4_24 sh_53 rfl rfl ?_
      refine g_iload_n dX4_readRule_46 rfl rfl ?_
      refine g_iconst (v := (0 : Int32)) dX4_readRule_47 (by decide) ?_
      refine g_isub dX4_readRule_48 ?_
      refine g_iload_n dX4_readRule_49 rfl rfl ?_
      obtain ⟨q9, e10, h⟩ := z_bd h
      refine g_callV (a := 30) (as := [.int ((M.1 5 3) - (0 : Int32)), .int q6.1]) (rest := []) (c := mX3_setRule) (k1 := 0) dX4_readRule_50 rfl rfl rfl sh_30 rfl rfl (Nat.le_of_ble_eq_true rfl) (Nat.le_of_ble_eq_true rfl) (by decide) ?_
      refine A_X3_setRule z_par_30 e10 ?_
      show z_G none 4 mX4_readRule 53 [some (.ref 55), some (.int a1), some (.int (M.1 5 3)), some (.int q6.1)] [] q9.2 Q
      refine g_iconst (v := (1 : Int32)) dX4_readRule_53 (by decide) ?_
      cases h
      exact g_iret dX4_readRule_54 rfl rfl hq
    · replace h := z_ift c8 h
      refine g_iconst (v := (0 : Int32)) dX4_readRule_40 (by decide) ?_
      cases h
      exact g_iret dX4_readRule_41 rfl rfl hq
  · replace h := z_iff (z_tb0.mp c3) h
    refine g_iconst (v := (0 : Int32)) dX4_readRule_16 (by decide) ?_
    cases h
    exact g_iret dX4_readRule_17 rfl rfl hq
theorem dX7_sideHere_0 : decode cX7_sideHere 0 = .ok (.aload_n 0, 1) := by decide +kernel
theorem dX7_sideHere_1 : decode cX7_sideHere 1 = .ok (.getfield 37, 3) := by decide +kernel
theorem dX7_sideHere_4 : decode cX7_sideHere 4 = .ok (.bipush 15, 2) := by decide +kernel
theorem dX7_sideHere_6 : decode cX7_sideHere 6 = .ok (.if_icmp .eq 20, 3) := by decide +kernel
theorem dX7_sideHere_9 : decode cX7_sideHere 9 = .ok (.aload_n 0, 1) := by decide +kernel
theorem dX7_sideHere_10 : decode cX7_sideHere 10 = .ok (.getfield 37, 3) := by decide +kernel
theorem dX7_sideHere_13 : decode cX7_sideHere 13 = .ok (.bipush 16, 2) := by decide +kernel
theorem dX7_sideHere_15 : decode cX7_sideHere 15 = .ok (.if_icmp .eq 11, 3) := by decide +kernel
theorem dX7_sideHere_18 : decode cX7_sideHere 18 = .ok (.aload_n 0, 1) := by decide +kernel
theorem dX7_sideHere_19 : decode cX7_sideHere 19 = .ok (.iconst 2, 1) := by decide +kernel
theorem dX7_sideHere_20 : decode cX7_sideHere 20 = .ok (.invokevirtual 72, 3) := by decide +kernel
theorem dX7_sideHere_23 : decode cX7_sideHere 23 = .ok (.pop, 1) := by decide +kernel
theorem dX7_sideHere_24 : decode cX7_sideHere 24 = .ok (.iconst (-1), 1) := by decide +kernel
theorem dX7_sideHere_25 : decode cX7_sideHere 25 = .ok (.ireturn, 1) := by decide +kernel
theorem dX7_sideHere_26 : decode cX7_sideHere 26 = .ok (.aload_n 0, 1) := by decide +kernel
theorem dX7_sideHere_27 : decode cX7_sideHere 27 = .ok (.getfield 37, 3) := by decide +kernel
theorem dX7_sideHere_30 : decode cX7_sideHere 30 = .ok (.bipush 15, 2) := by decide +kernel
theorem dX7_sideHere_32 : decode cX7_sideHere 32 = .ok (.if_icmp .ne 7, 3) := by decide +kernel
theorem dX7_sideHere_35 : decode cX7_sideHere 35 = .ok (.iconst 0, 1) := by decide +kernel
theorem dX7_sideHere_36 : decode cX7_sideHere 36 = .ok (.goto 4, 3) := by decide +kernel
theorem dX7_sideHere_39 : decode cX7_sideHere 39 = .ok (.iconst 1, 1) := by decide +kernel
theorem dX7_sideHere_40 : decode cX7_sideHere 40 = .ok (.ireturn, 1) := by decide +kernel
def F_X7_sideHere (w : Nat) (M : z_Mem) : Option (Int32 × z_Mem) :=
  if (M.1 5 3) = (15 : Int32) then
  if (M.1 5 3) = (15 : Int32) then
  some ((0 : Int32), M)
  else
  some ((1 : Int32), M)
  else
  if (M.1 5 3) = (16 : Int32) then
  if (M.1 5 3) = (15 : Int32) then
  some ((0 : Int32), M)
  else
  some ((1 : Int32), M)
  else
  (F_X7_fail w M (2 : Int32)).bind fun q5 =>
  some ((-1 : Int32), q5.2)
set_option maxHeartbeats 4000000 in
theorem A_X7_sideHere {w : Nat} {M : z_Mem} {r : Int32} {M' : z_Mem} {Q : Option Value → z_Mem → Prop} (h : F_X7_sideHere w M = some (r, M')) (hq : Q (some (.int r)) M') : z_Cl 1 mX7_sideHere [.ref 7] M Q := by
  refine g_in (ls := [some (.ref 7)]) rfl ?_
  unfold F_X7_sideHere at h
  refine g_aload_n dX7_sideHere_0 rfl rfl ?_
  refine g_get (a := 5) (v := .int (M.1 5 3)) dX7_sideHere_1 f_7_37 sh_5 rfl rfl ?_
  refine g_bipush (v := (15 : Int32)) dX7_sideHere_4 (by decide) ?_
  refine g_ic_eq (t := 26) dX7_sideHere_6 (by decide) (fun c1 => ?_) (fun c1 => ?_)
  · replace h := z_ift c1 h
    refine g_aload_n dX7_sideHere_26 rfl rfl ?_
    refine g_get (a := 5) (v := .int (M.1 5 3)) dX7_sideHere_27 f_7_37 sh_5 rfl rfl ?_
    refine g_bipush (v := (15 : Int32)) dX7_sideHere_30 (by decide) ?_
    refine g_ic_ne (t := 39) dX7_sideHere_32 (by decide) (fun c2 => ?_) (fun c2 => ?_)
    · replace h := z_iff c2 h
      refine g_iconst (v := (1 : Int32)) dX7_sideHere_39 (by decide) ?_
      cases h
      exact g_iret dX7_sideHere_40 rfl rfl hq
    · replace h := z_ift c2 h
      refine g_iconst (v := (0 : Int32)) dX7_sideHere_35 (by decide) ?_
      refine g_goto (t := 40) dX7_sideHere_36 (by decide) ?_
      cases h
      exact g_iret dX7_sideHere_40 rfl rfl hq
  · replace h := z_iff c1 h
    refine g_aload_n dX7_sideHere_9 rfl rfl ?_
    refine g_get (a := 5) (v := .int (M.1 5 3)) dX7_sideHere_10 f_7_37 sh_5 rfl rfl ?_
    refine g_bipush (v := (16 : Int32)) dX7_sideHere_13 (by decide) ?_
    refine g_ic_eq (t := 26) dX7_sideHere_15 (by decide) (fun c3 => ?_) (fun c3 => ?_)
    · replace h := z_ift c3 h
      refine g_aload_n dX7_sideHere_26 rfl rfl ?_
      refine g_get (a := 5) (v := .int (M.1 5 3)) dX7_sideHere_27 f_7_37 sh_5 rfl rfl ?_
      refine g_bipush (v := (15 : Int32)) dX7_sideHere_30 (by decide) ?_
      refine g_ic_ne (t := 39) dX7_sideHere_32 (by decide) (fun c4 => ?_) (fun c4 => ?_)
      · replace h := z_iff c4 h
        refine g_iconst (v := (1 : Int32)) dX7_sideHere_39 (by decide) ?_
        cases h
        exact g_iret dX7_sideHere_40 rfl rfl hq
      · replace h := z_ift c4 h
        refine g_iconst (v := (0 : Int32)) dX7_sideHere_35 (by decide) ?_
        refine g_goto (t := 40) dX7_sideHere_36 (by decide) ?_
        cases h
        exact g_iret dX7_sideHere_40 rfl rfl hq
    · replace h := z_iff c3 h
      refine g_aload_n dX7_sideHere_18 rfl rfl ?_
      refine g_iconst (v := (2 : Int32)) dX7_sideHere_19 (by decide) ?_
      obtain ⟨q5, e6, h⟩ := z_bd h
      refine g_callV (a := 5) (as := [.int (2 : Int32)]) (rest := []) (c := mX7_fail) (k1 := 0) dX7_sideHere_20 rfl rfl rfl sh_5 rfl rfl (Nat.le_of_ble_eq_true rfl) (Nat.le_of_ble_eq_true rfl) (by decide) ?_
      refine A_X7_fail e6 ?_
      show z_G none 1 mX7_sideHere 23 [some (.ref 7)] [.int (z_tb q5.1)] q5.2 Q
      refine g_pop dX7_sideHere_23 rfl ?_
      refine g_iconst (v := (-1 : Int32)) dX7_sideHere_24 (by decide) ?_
      cases h
      exact g_iret dX7_sideHere_25 rfl rfl hq
theorem dX7_takeSide_0 : decode cX7_takeSide 0 = .ok (.aload_n 0, 1) := by decide +kernel
theorem dX7_takeSide_1 : decode cX7_takeSide 1 = .ok (.invokevirtual 76, 3) := by decide +kernel
theorem dX7_takeSide_4 : decode cX7_takeSide 4 = .ok (.istore_n 1, 1) := by decide +kernel
theorem dX7_takeSide_5 : decode cX7_takeSide 5 = .ok (.iload_n 1, 1) := by decide +kernel
theorem dX7_takeSide_6 : decode cX7_takeSide 6 = .ok (.iconst (-1), 1) := by decide +kernel
theorem dX7_takeSide_7 : decode cX7_takeSide 7 = .ok (.if_icmp .eq 7, 3) := by decide +kernel
theorem dX7_takeSide_10 : decode cX7_takeSide 10 = .ok (.aload_n 0, 1) := by decide +kernel
theorem dX7_takeSide_11 : decode cX7_takeSide 11 = .ok (.invokevirtual 31, 3) := by decide +kernel
theorem dX7_takeSide_14 : decode cX7_takeSide 14 = .ok (.iload_n 1, 1) := by decide +kernel
theorem dX7_takeSide_15 : decode cX7_takeSide 15 = .ok (.ireturn, 1) := by decide +kernel
def F_X7_takeSide (w : Nat) (M : z_Mem) : Option (Int32 × z_Mem) :=
  (F_X7_sideHere w M).bind fun q1 =>
  if q1.1 = (-1 : Int32) then
  some (q1.1, q1.2)
  else
  (F_X7_advance w q1.2).bind fun q4 =>
  some (q1.1, q4.2)
set_option maxHeartbeats 4000000 in
theorem A_X7_takeSide {w : Nat} {M : z_Mem} {r : Int32} {M' : z_Mem} {Q : Option Value → z_Mem → Prop} (h : F_X7_takeSide w M = some (r, M')) (hq : Q (some (.int r)) M') : z_Cl 3 mX7_takeSide [.ref 7] M Q := by
  refine g_in (ls := [some (.ref 7), none]) rfl ?_
  unfold F_X7_takeSide at h
  refine g_aload_n dX7_takeSide_0 rfl rfl ?_
  obtain ⟨q1, e2, h⟩ := z_bd h
  refine g_callV (a := 5) (as := []) (rest := []) (c := mX7_sideHere) (k1 := 1) dX7_takeSide_1 rfl rfl rfl sh_5 rfl rfl (Nat.le_of_ble_eq_true rfl) (Nat.le_of_ble_eq_true rfl) (by decide) ?_
  refine A_X7_sideHere e2 ?_
  show z_G none 3 mX7_takeSide 4 [some (.ref 7), none] [.int q1.1] q1.2 Q
  refine g_istore_n (ls' := [some (.ref 7), some (.int q1.1)]) dX7_takeSide_4 rfl (Nat.le_of_ble_eq_true rfl) rfl ?_
  refine g_iload_n dX7_takeSide_5 rfl rfl ?_
  refine g_iconst (v := (-1 : Int32)) dX7_takeSide_6 (by decide) ?_
  refine g_ic_eq (t := 14) dX7_takeSide_7 (by decide) (fun c3 => ?_) (fun c3 => ?_)
  · replace h := z_ift c3 h
    refine g_iload_n dX7_takeSide_14 rfl rfl ?_
    cases h
    exact g_iret dX7_takeSide_15 rfl rfl hq
  · replace h := z_iff c3 h
    refine g_aload_n dX7_takeSide_10 rfl rfl ?_
    obtain ⟨q4, e5, h⟩ := z_bd h
    refine g_callV (a := 5) (as := []) (rest := []) (c := mX7_advance) (k1 := 2) dX7_takeSide_11 rfl rfl rfl sh_5 rfl rfl (Nat.le_of_ble_eq_true rfl) (Nat.le_of_ble_eq_true rfl) (by decide) ?_
    refine A_X7_advance e5 ?_
    show z_G none 3 mX7_takeSide 14 [some (.ref 7), some (.int q1.1)] [] q4.2 Q
    refine g_iload_n dX7_takeSide_14 rfl rfl ?_
    cases h
    exact g_iret dX7_takeSide_15 rfl rfl hq
theorem dX4_readLies_0 : decode cX4_readLies 0 = .ok (.aload_n 0, 1) := by decide +kernel
theorem dX4_readLies_1 : decode cX4_readLies 1 = .ok (.iconst 3, 1) := by decide +kernel
theorem dX4_readLies_2 : decode cX4_readLies 2 = .ok (.invokevirtual 78, 3) := by decide +kernel
theorem dX4_readLies_5 : decode cX4_readLies 5 = .ok (.ifCond .ne 5, 3) := by decide +kernel
theorem dX4_readLies_8 : decode cX4_readLies 8 = .ok (.iconst 0, 1) := by decide +kernel
theorem dX4_readLies_9 : decode cX4_readLies 9 = .ok (.ireturn, 1) := by decide +kernel
theorem dX4_readLies_10 : decode cX4_readLies 10 = .ok (.aload_n 0, 1) := by decide +kernel
theorem dX4_readLies_11 : decode cX4_readLies 11 = .ok (.getfield 20, 3) := by decide +kernel
theorem dX4_readLies_14 : decode cX4_readLies 14 = .ok (.invokevirtual 81, 3) := by decide +kernel
theorem dX4_readLies_17 : decode cX4_readLies 17 = .ok (.aload_n 0, 1) := by decide +kernel
theorem dX4_readLies_18 : decode cX4_readLies 18 = .ok (.getfield 20, 3) := by decide +kernel
theorem dX4_readLies_21 : decode cX4_readLies 21 = .ok (.invokevirtual 92, 3) := by decide +kernel
theorem dX4_readLies_24 : decode cX4_readLies 24 = .ok (.istore_n 1, 1) := by decide +kernel
theorem dX4_readLies_25 : decode cX4_readLies 25 = .ok (.iload_n 1, 1) := by decide +kernel
theorem dX4_readLies_26 : decode cX4_readLies 26 = .ok (.iconst (-1), 1) := by decide +kernel
theorem dX4_readLies_27 : decode cX4_readLies 27 = .ok (.if_icmp .ne 5, 3) := by decide +kernel
theorem dX4_readLies_30 : decode cX4_readLies 30 = .ok (.iconst 0, 1) := by decide +kernel
theorem dX4_readLies_31 : decode cX4_readLies 31 = .ok (.ireturn, 1) := by decide +kernel
theorem dX4_readLies_32 : decode cX4_readLies 32 = .ok (.aload_n 0, 1) := by decide +kernel
theorem dX4_readLies_33 : decode cX4_readLies 33 = .ok (.getfield 24, 3) := by decide +kernel
theorem dX4_readLies_36 : decode cX4_readLies 36 = .ok (.iload_n 1, 1) := by decide +kernel
theorem dX4_readLies_37 : decode cX4_readLies 37 = .ok (.invokevirtual 96, 3) := by decide +kernel
theorem dX4_readLies_40 : decode cX4_readLies 40 = .ok (.iconst 1, 1) := by decide +kernel
theorem dX4_readLies_41 : decode cX4_readLies 41 = .ok (.ireturn, 1) := by decide +kernel
def F_X4_readLies (w : Nat) (M : z_Mem) : Option (Bool × z_Mem) :=
  (F_X4_isFirst w M (3 : Int32)).bind fun q1 =>
  if q1.1 = true then
  (F_X7_advance w q1.2).bind fun q4 =>
  (F_X7_takeSide w q4.2).bind fun q6 =>
  if q6.1 = (-1 : Int32) then
  some (false, q6.2)
  else
  (F_X3_lieEver w q6.2 30 q6.1).bind fun q9 =>
  some (true, q9.2)
  else
  some (false, q1.2)
set_option maxHeartbeats 4000000 in
theorem A_X4_readLies {w : Nat} {M : z_Mem} {r : Bool} {M' : z_Mem} {Q : Option Value → z_Mem → Prop} (h : F_X4_readLies w M = some (r, M')) (hq : Q (some (.int (z_tb r))) M') : z_Cl 4 mX4_readLies [.ref 55] M Q := by
  refine g_in (ls := [some (.ref 55), none]) rfl ?_
  unfold F_X4_readLies at h
  refine g_aload_n dX4_readLies_0 rfl rfl ?_
  refine g_iconst (v := (3 : Int32)) dX4_readLies_1 (by decide) ?_
  obtain ⟨q1, e2, h⟩ := z_bd h
  refine g_callV (a := 53) (as := [.int (3 : Int32)]) (rest := []) (c := mX4_isFirst) (k1 := 1) dX4_readLies_2 rfl rfl rfl sh_53 rfl rfl (Nat.le_of_ble_eq_true rfl) (Nat.le_of_ble_eq_true rfl) (by decide) ?_
  refine A_X4_isFirst e2 ?_
  show z_G none 4 mX4_readLies 5 [some (.ref 55), none] [.int (z_tb q1.1)] q1.2 Q
  refine g_if_ne (t := 10) dX4_readLies_5 (by decide) (fun c3 => ?_) (fun c3 => ?_)
  · replace h := z_ift (z_tbn.mp c3) h
    refine g_aload_n dX4_readLies_10 rfl rfl ?_
    refine g_get (a := 53) (v := .ref 7) dX4_readLies_11 f_4_20 sh_53 rfl rfl ?_
    obtain ⟨q4, e5, h⟩ := z_bd h
    refine g_callV (a := 5) (as := []) (rest := []) (c := mX7_advance) (k1 := 2) dX4_readLies_14 rfl rfl rfl sh_5 rfl rfl (Nat.le_of_ble_eq_true rfl) (Nat.le_of_ble_eq_true rfl) (by decide) ?_
    refine A_X7_advance e5 ?_
    show z_G none 4 mX4_readLies 17 [some (.ref 55), none] [] q4.2 Q
    refine g_aload_n dX4_readLies_17 rfl rfl ?_
    refine g_get (a := 53) (v := .ref 7) dX4_readLies_18 f_4_20 sh_53 rfl rfl ?_
    obtain ⟨q6, e7, h⟩ := z_bd h
    refine g_callV (a := 5) (as := []) (rest := []) (c := mX7_takeSide) (k1 := 3) dX4_readLies_21 rfl rfl rfl sh_5 rfl rfl (Nat.le_of_ble_eq_true rfl) (Nat.le_of_ble_eq_true rfl) (by decide) ?_
    refine A_X7_takeSide e7 ?_
    show z_G none 4 mX4_readLies 24 [some (.ref 55), none] [.int q6.1] q6.2 Q
    refine g_istore_n (ls' := [some (.ref 55), some (.int q6.1)]) dX4_readLies_24 rfl (Nat.le_of_ble_eq_true rfl) rfl ?_
    refine g_iload_n dX4_readLies_25 rfl rfl ?_
    refine g_iconst (v := (-1 : Int32)) dX4_readLies_26 (by decide) ?_
    refine g_ic_ne (t := 32) dX4_readLies_27 (by decide) (fun c8 => ?_) (fun c8 => ?_)
    · replace h := z_iff c8 h
      refine g_aload_n dX4_readLies_32 rfl rfl ?_
      refine g_get (a := 53) (v := .ref 32) dX4_readLies_33 f_4_24 sh_53 rfl rfl ?_
      refine g_iload_n dX4_readLies_36 rfl rfl ?_
      obtain ⟨q9, e10, h⟩ := z_bd h
      refine g_callV (a := 30) (as := [.int q6.1]) (rest := []) (c := mX3_lieEver) (k1 := 0) dX4_readLies_37 rfl rfl rfl sh_30 rfl rfl (Nat.le_of_ble_eq_true rfl) (Nat.le_of_ble_eq_true rfl) (by decide) ?_
      refine A_X3_lieEver z_par_30 e10 ?_
      show z_G none 4 mX4_readLies 40 [some (.ref 55), some (.int q6.1)] [] q9.2 Q
      refine g_iconst (v := (1 : Int32)) dX4_readLies_40 (by decide) ?_
      cases h
      exact g_iret dX4_readLies_41 rfl rfl hq
    · replace h := z_ift c8 h
      refine g_iconst (v := (0 : Int32)) dX4_readLies_30 (by decide) ?_
      cases h
      exact g_iret dX4_readLies_31 rfl rfl hq
  · replace h := z_iff (z_tb0.mp c3) h
    refine g_iconst (v := (0 : Int32)) dX4_readLies_8 (by decide) ?_
    cases h
    exact g_iret dX4_readLies_9 rfl rfl hq
theorem dX4_readChest_0 : decode cX4_readChest 0 = .ok (.aload_n 0, 1) := by decide +kernel
theorem dX4_readChest_1 : decode cX4_readChest 1 = .ok (.getfield 20, 3) := by decide +kernel
theorem dX4_readChest_4 : decode cX4_readChest 4 = .ok (.invokevirtual 81, 3) := by decide +kernel
theorem dX4_readChest_7 : decode cX4_readChest 7 = .ok (.aload_n 0, 1) := by decide +kernel
theorem dX4_readChest_8 : decode cX4_readChest 8 = .ok (.getfield 20, 3) := by decide +kernel
theorem dX4_readChest_11 : decode cX4_readChest 11 = .ok (.invokevirtual 99, 3) := by decide +kernel
theorem dX4_readChest_14 : decode cX4_readChest 14 = .ok (.istore_n 1, 1) := by decide +kernel
theorem dX4_readChest_15 : decode cX4_readChest 15 = .ok (.iload_n 1, 1) := by decide +kernel
theorem dX4_readChest_16 : decode cX4_readChest 16 = .ok (.iconst (-1), 1) := by decide +kernel
theorem dX4_readChest_17 : decode cX4_readChest 17 = .ok (.if_icmp .eq 13, 3) := by decide +kernel
theorem dX4_readChest_20 : decode cX4_readChest 20 = .ok (.aload_n 0, 1) := by decide +kernel
theorem dX4_readChest_21 : decode cX4_readChest 21 = .ok (.iconst 4, 1) := by decide +kernel
theorem dX4_readChest_22 : decode cX4_readChest 22 = .ok (.iload_n 1, 1) := by decide +kernel
theorem dX4_readChest_23 : decode cX4_readChest 23 = .ok (.iadd, 1) := by decide +kernel
theorem dX4_readChest_24 : decode cX4_readChest 24 = .ok (.invokevirtual 78, 3) := by decide +kernel
theorem dX4_readChest_27 : decode cX4_readChest 27 = .ok (.ifCond .ne 5, 3) := by decide +kernel
theorem dX4_readChest_30 : decode cX4_readChest 30 = .ok (.iconst 0, 1) := by decide +kernel
theorem dX4_readChest_31 : decode cX4_readChest 31 = .ok (.ireturn, 1) := by decide +kernel
theorem dX4_readChest_32 : decode cX4_readChest 32 = .ok (.aload_n 0, 1) := by decide +kernel
theorem dX4_readChest_33 : decode cX4_readChest 33 = .ok (.getfield 20, 3) := by decide +kernel
theorem dX4_readChest_36 : decode cX4_readChest 36 = .ok (.invokevirtual 81, 3) := by decide +kernel
theorem dX4_readChest_39 : decode cX4_readChest 39 = .ok (.aload_n 0, 1) := by decide +kernel
theorem dX4_readChest_40 : decode cX4_readChest 40 = .ok (.getfield 20, 3) := by decide +kernel
theorem dX4_readChest_43 : decode cX4_readChest 43 = .ok (.iconst 0, 1) := by decide +kernel
theorem dX4_readChest_44 : decode cX4_readChest 44 = .ok (.sipush 999, 3) := by decide +kernel
theorem dX4_readChest_47 : decode cX4_readChest 47 = .ok (.invokevirtual 84, 3) := by decide +kernel
theorem dX4_readChest_50 : decode cX4_readChest 50 = .ok (.istore_n 2, 1) := by decide +kernel
theorem dX4_readChest_51 : decode cX4_readChest 51 = .ok (.iload_n 2, 1) := by decide +kernel
theorem dX4_readChest_52 : decode cX4_readChest 52 = .ok (.iconst (-1), 1) := by decide +kernel
theorem dX4_readChest_53 : decode cX4_readChest 53 = .ok (.if_icmp .ne 5, 3) := by decide +kernel
theorem dX4_readChest_56 : decode cX4_readChest 56 = .ok (.iconst 0, 1) := by decide +kernel
theorem dX4_readChest_57 : decode cX4_readChest 57 = .ok (.ireturn, 1) := by decide +kernel
theorem dX4_readChest_58 : decode cX4_readChest 58 = .ok (.aload_n 0, 1) := by decide +kernel
theorem dX4_readChest_59 : decode cX4_readChest 59 = .ok (.getfield 24, 3) := by decide +kernel
theorem dX4_readChest_62 : decode cX4_readChest 62 = .ok (.getfield 102, 3) := by decide +kernel
theorem dX4_readChest_65 : decode cX4_readChest 65 = .ok (.iload_n 1, 1) := by decide +kernel
theorem dX4_readChest_66 : decode cX4_readChest 66 = .ok (.iload_n 2, 1) := by decide +kernel
theorem dX4_readChest_67 : decode cX4_readChest 67 = .ok (.iastore, 1) := by decide +kernel
theorem dX4_readChest_68 : decode cX4_readChest 68 = .ok (.iconst 1, 1) := by decide +kernel
theorem dX4_readChest_69 : decode cX4_readChest 69 = .ok (.ireturn, 1) := by decide +kernel
def F_X4_readChest (w : Nat) (M : z_Mem) : Option (Bool × z_Mem) :=
  (F_X7_advance w M).bind fun q1 =>
  (F_X7_sideHere w q1.2).bind fun q3 =>
  if q3.1 = (-1 : Int32) then
  some (false, q3.2)
  else
  (F_X4_isFirst w q3.2 ((4 : Int32) + q3.1)).bind fun q6 =>
  if q6.1 = true then
  (F_X7_advance w q6.2).bind fun q9 =>
  (F_X7_takeNumber w q9.2 (0 : Int32) (999 : Int32)).bind fun q11 =>
  if q11.1 = (-1 : Int32) then
  some (false, q11.2)
  else
  if q3.1 < 0 ∨ 2 ≤ q3.1.toNatClampNeg then none else
  some (true, (z_wI q11.2 31 q3.1.toNatClampNeg q11.1))
  else
  some (false, q6.2)
set_option maxHeartbeats 4000000 in
theorem A_X4_readChest {w : Nat} {M : z_Mem} {r : Bool} {M' : z_Mem} {Q : Option Value → z_Mem → Prop} (h : F_X4_readChest w M = some (r, M')) (hq : Q (some (.int (z_tb r))) M') : z_Cl 4 mX4_readChest [.ref 55] M Q := by
  refine g_in (ls := [some (.ref 55), none, none]) rfl ?_
  unfold F_X4_readChest at h
  refine g_aload_n dX4_readChest_0 rfl rfl ?_
  refine g_get (a := 53) (v := .ref 7) dX4_readChest_1 f_4_20 sh_53 rfl rfl ?_
  obtain ⟨q1, e2, h⟩ := z_bd h
  refine g_callV (a := 5) (as := []) (rest := []) (c := mX7_advance) (k1 := 2) dX4_readChest_4 rfl rfl rfl sh_5 rfl rfl (Nat.le_of_ble_eq_true rfl) (Nat.le_of_ble_eq_true rfl) (by decide) ?_
  refine A_X7_advance e2 ?_
  show z_G none 4 mX4_readChest 7 [some (.ref 55), none, none] [] q1.2 Q
  refine g_aload_n dX4_readChest_7 rfl rfl ?_
  refine g_get (a := 53) (v := .ref 7) dX4_readChest_8 f_4_20 sh_53 rfl rfl ?_
  obtain ⟨q3, e4, h⟩ := z_bd h
  refine g_callV (a := 5) (as := []) (rest := []) (c := mX7_sideHere) (k1 := 1) dX4_readChest_11 rfl rfl rfl sh_5 rfl rfl (Nat.le_of_ble_eq_true rfl) (Nat.le_of_ble_eq_true rfl) (by decide) ?_
  refine A_X7_sideHere e4 ?_
  show z_G none 4 mX4_readChest 14 [some (.ref 55), none, none] [.int q3.1] q3.2 Q
  refine g_istore_n (ls' := [some (.ref 55), some (.int q3.1), none]) dX4_readChest_14 rfl (Nat.le_of_ble_eq_true rfl) rfl ?_
  refine g_iload_n dX4_readChest_15 rfl rfl ?_
  refine g_iconst (v := (-1 : Int32)) dX4_readChest_16 (by decide) ?_
  refine g_ic_eq (t := 30) dX4_readChest_17 (by decide) (fun c5 => ?_) (fun c5 => ?_)
  · replace h := z_ift c5 h
    refine g_iconst (v := (0 : Int32)) dX4_readChest_30 (by decide) ?_
    cases h
    exact g_iret dX4_readChest_31 rfl rfl hq
  · replace h := z_iff c5 h
    refine g_aload_n dX4_readChest_20 rfl rfl ?_
    refine g_iconst (v := (4 : Int32)) dX4_readChest_21 (by decide) ?_
    refine g_iload_n dX4_readChest_22 rfl rfl ?_
    refine g_iadd dX4_readChest_23 ?_
    obtain ⟨q6, e7, h⟩ := z_bd h
    refine g_callV (a := 53) (as := [.int ((4 : Int32) + q3.1)]) (rest := []) (c := mX4_isFirst) (k1 := 1) dX4_readChest_24 rfl rfl rfl sh_53 rfl rfl (Nat.le_of_ble_eq_true rfl) (Nat.le_of_ble_eq_true rfl) (by decide) ?_
    refine A_X4_isFirst e7 ?_
    show z_G none 4 mX4_readChest 27 [some (.ref 55), some (.int q3.1), none] [.int (z_tb q6.1)] q6.2 Q
    refine g_if_ne (t := 32) dX4_readChest_27 (by decide) (fun c8 => ?_) (fun c8 => ?_)
    · replace h := z_ift (z_tbn.mp c8) h
      refine g_aload_n dX4_readChest_32 rfl rfl ?_
      refine g_get (a := 53) (v := .ref 7) dX4_readChest_33 f_4_20 sh_53 rfl rfl ?_
      obtain ⟨q9, e10, h⟩ := z_bd h
      refine g_callV (a := 5) (as := []) (rest := []) (c := mX7_advance) (k1 := 2) dX4_readChest_36 rfl rfl rfl sh_5 rfl rfl (Nat.le_of_ble_eq_true rfl) (Nat.le_of_ble_eq_true rfl) (by decide) ?_
      refine A_X7_advance e10 ?_
      show z_G none 4 mX4_readChest 39 [some (.ref 55), some (.int q3.1), none] [] q9.2 Q
      refine g_aload_n dX4_readChest_39 rfl rfl ?_
      refine g_get (a := 53) (v := .ref 7) dX4_readChest_40 f_4_20 sh_53 rfl rfl ?_
      refine g_iconst (v := (0 : Int32)) dX4_readChest_43 (by decide) ?_
      refine g_sipush (v := (999 : Int32)) dX4_readChest_44 (by decide) ?_
      obtain ⟨q11, e12, h⟩ := z_bd h
      refine g_callV (a := 5) (as := [.int (0 : Int32), .int (999 : Int32)]) (rest := []) (c := mX7_takeNumber) (k1 := 3) dX4_readChest_47 rfl rfl rfl sh_5 rfl rfl (Nat.le_of_ble_eq_true rfl) (Nat.le_of_ble_eq_true rfl) (by decide) ?_
      refine A_X7_takeNumber e12 ?_
      show z_G none 4 mX4_readChest 50 [some (.ref 55), some (.int q3.1), none] [.int q11.1] q11.2 Q
      refine g_istore_n (ls' := [some (.ref 55), some (.int q3.1), some (.int q11.1)]) dX4_readChest_50 rfl (Nat.le_of_ble_eq_true rfl) rfl ?_
      refine g_iload_n dX4_readChest_51 rfl rfl ?_
      refine g_iconst (v := (-1 : Int32)) dX4_readChest_52 (by decide) ?_
      refine g_ic_ne (t := 58) dX4_readChest_53 (by decide) (fun c13 => ?_) (fun c13 => ?_)
      · replace h := z_iff c13 h
        refine g_aload_n dX4_readChest_58 rfl rfl ?_
        refine g_get (a := 53) (v := .ref 32) dX4_readChest_59 f_4_24 sh_53 rfl rfl ?_
        refine g_get (a := 30) (v := .ref 33) dX4_readChest_62 f_4_102 sh_30 rfl rfl ?_
        refine g_iload_n dX4_readChest_65 rfl rfl ?_
        refine g_iload_n dX4_readChest_66 rfl rfl ?_
        by_cases g14 : q3.1 < 0 ∨ 2 ≤ q3.1.toNatClampNeg
        · rw [if_pos g14] at h; cases h
        replace h := z_iff g14 h
        refine g_iast (a := 31) dX4_readChest_67 sh_31 g14 ?_
        refine g_iconst (v := (1 : Int32)) dX4_readChest_68 (by decide) ?_
        cases h
        exact g_iret dX4_readChest_69 rfl rfl hq
      · replace h := z_ift c13 h
        refine g_iconst (v := (0 : Int32)) dX4_readChest_56 (by decide) ?_
        cases h
        exact g_iret dX4_readChest_57 rfl rfl hq
    · replace h := z_iff (z_tb0.mp c8) h
      refine g_iconst (v := (0 : Int32)) dX4_readChest_30 (by decide) ?_
      cases h
      exact g_iret dX4_readChest_31 rfl rfl hq
