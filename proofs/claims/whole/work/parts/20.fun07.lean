/-! ===== the methods as functions, 7 ===== -/
theorem dX12_stepWord_0 : decode cX12_stepWord 0 = .ok (.aload_n 0, 1) := by decide +kernel
theorem dX12_stepWord_1 : decode cX12_stepWord 1 = .ok (.bipush 109, 2) := by decide +kernel
theorem dX12_stepWord_3 : decode cX12_stepWord 3 = .ok (.bipush 111, 2) := by decide +kernel
theorem dX12_stepWord_5 : decode cX12_stepWord 5 = .ok (.bipush 110, 2) := by decide +kernel
theorem dX12_stepWord_7 : decode cX12_stepWord 7 = .ok (.bipush 116, 2) := by decide +kernel
theorem dX12_stepWord_9 : decode cX12_stepWord 9 = .ok (.bipush 104, 2) := by decide +kernel
theorem dX12_stepWord_11 : decode cX12_stepWord 11 = .ok (.iconst 0, 1) := by decide +kernel
theorem dX12_stepWord_12 : decode cX12_stepWord 12 = .ok (.invokestatic 137, 3) := by decide +kernel
theorem dX12_stepWord_15 : decode cX12_stepWord 15 = .ok (.invokevirtual 141, 3) := by decide +kernel
theorem dX12_stepWord_18 : decode cX12_stepWord 18 = .ok (.ifCond .eq 5, 3) := by decide +kernel
theorem dX12_stepWord_21 : decode cX12_stepWord 21 = .ok (.iconst 0, 1) := by decide +kernel
theorem dX12_stepWord_22 : decode cX12_stepWord 22 = .ok (.ireturn, 1) := by decide +kernel
theorem dX12_stepWord_23 : decode cX12_stepWord 23 = .ok (.aload_n 0, 1) := by decide +kernel
theorem dX12_stepWord_24 : decode cX12_stepWord 24 = .ok (.bipush 99, 2) := by decide +kernel
theorem dX12_stepWord_26 : decode cX12_stepWord 26 = .ok (.bipush 97, 2) := by decide +kernel
theorem dX12_stepWord_28 : decode cX12_stepWord 28 = .ok (.bipush 114, 2) := by decide +kernel
theorem dX12_stepWord_30 : decode cX12_stepWord 30 = .ok (.bipush 114, 2) := by decide +kernel
theorem dX12_stepWord_32 : decode cX12_stepWord 32 = .ok (.bipush 121, 2) := by decide +kernel
theorem dX12_stepWord_34 : decode cX12_stepWord 34 = .ok (.iconst 0, 1) := by decide +kernel
theorem dX12_stepWord_35 : decode cX12_stepWord 35 = .ok (.invokestatic 137, 3) := by decide +kernel
theorem dX12_stepWord_38 : decode cX12_stepWord 38 = .ok (.invokevirtual 141, 3) := by decide +kernel
theorem dX12_stepWord_41 : decode cX12_stepWord 41 = .ok (.ifCond .eq 5, 3) := by decide +kernel
theorem dX12_stepWord_44 : decode cX12_stepWord 44 = .ok (.iconst 1, 1) := by decide +kernel
theorem dX12_stepWord_45 : decode cX12_stepWord 45 = .ok (.ireturn, 1) := by decide +kernel
theorem dX12_stepWord_46 : decode cX12_stepWord 46 = .ok (.aload_n 0, 1) := by decide +kernel
theorem dX12_stepWord_47 : decode cX12_stepWord 47 = .ok (.bipush 115, 2) := by decide +kernel
theorem dX12_stepWord_49 : decode cX12_stepWord 49 = .ok (.bipush 119, 2) := by decide +kernel
theorem dX12_stepWord_51 : decode cX12_stepWord 51 = .ok (.bipush 101, 2) := by decide +kernel
theorem dX12_stepWord_53 : decode cX12_stepWord 53 = .ok (.bipush 97, 2) := by decide +kernel
theorem dX12_stepWord_55 : decode cX12_stepWord 55 = .ok (.bipush 114, 2) := by decide +kernel
theorem dX12_stepWord_57 : decode cX12_stepWord 57 = .ok (.iconst 0, 1) := by decide +kernel
theorem dX12_stepWord_58 : decode cX12_stepWord 58 = .ok (.invokestatic 137, 3) := by decide +kernel
theorem dX12_stepWord_61 : decode cX12_stepWord 61 = .ok (.invokevirtual 141, 3) := by decide +kernel
theorem dX12_stepWord_64 : decode cX12_stepWord 64 = .ok (.ifCond .eq 5, 3) := by decide +kernel
theorem dX12_stepWord_67 : decode cX12_stepWord 67 = .ok (.iconst 2, 1) := by decide +kernel
theorem dX12_stepWord_68 : decode cX12_stepWord 68 = .ok (.ireturn, 1) := by decide +kernel
theorem dX12_stepWord_69 : decode cX12_stepWord 69 = .ok (.aload_n 0, 1) := by decide +kernel
theorem dX12_stepWord_70 : decode cX12_stepWord 70 = .ok (.bipush 112, 2) := by decide +kernel
theorem dX12_stepWord_72 : decode cX12_stepWord 72 = .ok (.bipush 97, 2) := by decide +kernel
theorem dX12_stepWord_74 : decode cX12_stepWord 74 = .ok (.bipush 121, 2) := by decide +kernel
theorem dX12_stepWord_76 : decode cX12_stepWord 76 = .ok (.iconst 0, 1) := by decide +kernel
theorem dX12_stepWord_77 : decode cX12_stepWord 77 = .ok (.iconst 0, 1) := by decide +kernel
theorem dX12_stepWord_78 : decode cX12_stepWord 78 = .ok (.iconst 0, 1) := by decide +kernel
theorem dX12_stepWord_79 : decode cX12_stepWord 79 = .ok (.invokestatic 137, 3) := by decide +kernel
theorem dX12_stepWord_82 : decode cX12_stepWord 82 = .ok (.invokevirtual 141, 3) := by decide +kernel
theorem dX12_stepWord_85 : decode cX12_stepWord 85 = .ok (.ifCond .eq 5, 3) := by decide +kernel
theorem dX12_stepWord_88 : decode cX12_stepWord 88 = .ok (.iconst 3, 1) := by decide +kernel
theorem dX12_stepWord_89 : decode cX12_stepWord 89 = .ok (.ireturn, 1) := by decide +kernel
theorem dX12_stepWord_90 : decode cX12_stepWord 90 = .ok (.aload_n 0, 1) := by decide +kernel
theorem dX12_stepWord_91 : decode cX12_stepWord 91 = .ok (.bipush 97, 2) := by decide +kernel
theorem dX12_stepWord_93 : decode cX12_stepWord 93 = .ok (.bipush 110, 2) := by decide +kernel
theorem dX12_stepWord_95 : decode cX12_stepWord 95 = .ok (.bipush 121, 2) := by decide +kernel
theorem dX12_stepWord_97 : decode cX12_stepWord 97 = .ok (.iconst 0, 1) := by decide +kernel
theorem dX12_stepWord_98 : decode cX12_stepWord 98 = .ok (.iconst 0, 1) := by decide +kernel
theorem dX12_stepWord_99 : decode cX12_stepWord 99 = .ok (.iconst 0, 1) := by decide +kernel
theorem dX12_stepWord_100 : decode cX12_stepWord 100 = .ok (.invokestatic 137, 3) := by decide +kernel
theorem dX12_stepWord_103 : decode cX12_stepWord 103 = .ok (.invokevirtual 141, 3) := by decide +kernel
theorem dX12_stepWord_106 : decode cX12_stepWord 106 = .ok (.ifCond .eq 5, 3) := by decide +kernel
theorem dX12_stepWord_109 : decode cX12_stepWord 109 = .ok (.iconst 4, 1) := by decide +kernel
theorem dX12_stepWord_110 : decode cX12_stepWord 110 = .ok (.ireturn, 1) := by decide +kernel
theorem dX12_stepWord_111 : decode cX12_stepWord 111 = .ok (.aload_n 0, 1) := by decide +kernel
theorem dX12_stepWord_112 : decode cX12_stepWord 112 = .ok (.bipush 119, 2) := by decide +kernel
theorem dX12_stepWord_114 : decode cX12_stepWord 114 = .ok (.bipush 104, 2) := by decide +kernel
theorem dX12_stepWord_116 : decode cX12_stepWord 116 = .ok (.bipush 101, 2) := by decide +kernel
theorem dX12_stepWord_118 : decode cX12_stepWord 118 = .ok (.bipush 110, 2) := by decide +kernel
theorem dX12_stepWord_120 : decode cX12_stepWord 120 = .ok (.iconst 0, 1) := by decide +kernel
theorem dX12_stepWord_121 : decode cX12_stepWord 121 = .ok (.iconst 0, 1) := by decide +kernel
theorem dX12_stepWord_122 : decode cX12_stepWord 122 = .ok (.invokestatic 137, 3) := by decide +kernel
theorem dX12_stepWord_125 : decode cX12_stepWord 125 = .ok (.invokevirtual 141, 3) := by decide +kernel
theorem dX12_stepWord_128 : decode cX12_stepWord 128 = .ok (.ifCond .eq 5, 3) := by decide +kernel
theorem dX12_stepWord_131 : decode cX12_stepWord 131 = .ok (.iconst 5, 1) := by decide +kernel
theorem dX12_stepWord_132 : decode cX12_stepWord 132 = .ok (.ireturn, 1) := by decide +kernel
theorem dX12_stepWord_133 : decode cX12_stepWord 133 = .ok (.aload_n 0, 1) := by decide +kernel
theorem dX12_stepWord_134 : decode cX12_stepWord 134 = .ok (.bipush 108, 2) := by decide +kernel
theorem dX12_stepWord_136 : decode cX12_stepWord 136 = .ok (.bipush 111, 2) := by decide +kernel
theorem dX12_stepWord_138 : decode cX12_stepWord 138 = .ok (.bipush 111, 2) := by decide +kernel
theorem dX12_stepWord_140 : decode cX12_stepWord 140 = .ok (.bipush 112, 2) := by decide +kernel
theorem dX12_stepWord_142 : decode cX12_stepWord 142 = .ok (.iconst 0, 1) := by decide +kernel
theorem dX12_stepWord_143 : decode cX12_stepWord 143 = .ok (.iconst 0, 1) := by decide +kernel
theorem dX12_stepWord_144 : decode cX12_stepWord 144 = .ok (.invokestatic 137, 3) := by decide +kernel
theorem dX12_stepWord_147 : decode cX12_stepWord 147 = .ok (.invokevirtual 141, 3) := by decide +kernel
theorem dX12_stepWord_150 : decode cX12_stepWord 150 = .ok (.ifCond .eq 6, 3) := by decide +kernel
theorem dX12_stepWord_153 : decode cX12_stepWord 153 = .ok (.bipush 6, 2) := by decide +kernel
theorem dX12_stepWord_155 : decode cX12_stepWord 155 = .ok (.ireturn, 1) := by decide +kernel
theorem dX12_stepWord_156 : decode cX12_stepWord 156 = .ok (.aload_n 0, 1) := by decide +kernel
theorem dX12_stepWord_157 : decode cX12_stepWord 157 = .ok (.bipush 115, 2) := by decide +kernel
theorem dX12_stepWord_159 : decode cX12_stepWord 159 = .ok (.bipush 116, 2) := by decide +kernel
theorem dX12_stepWord_161 : decode cX12_stepWord 161 = .ok (.bipush 111, 2) := by decide +kernel
theorem dX12_stepWord_163 : decode cX12_stepWord 163 = .ok (.bipush 112, 2) := by decide +kernel
theorem dX12_stepWord_165 : decode cX12_stepWord 165 = .ok (.iconst 0, 1) := by decide +kernel
theorem dX12_stepWord_166 : decode cX12_stepWord 166 = .ok (.iconst 0, 1) := by decide +kernel
theorem dX12_stepWord_167 : decode cX12_stepWord 167 = .ok (.invokestatic 137, 3) := by decide +kernel
theorem dX12_stepWord_170 : decode cX12_stepWord 170 = .ok (.invokevirtual 141, 3) := by decide +kernel
theorem dX12_stepWord_173 : decode cX12_stepWord 173 = .ok (.ifCond .eq 8, 3) := by decide +kernel
theorem dX12_stepWord_176 : decode cX12_stepWord 176 = .ok (.bipush 7, 2) := by decide +kernel
theorem dX12_stepWord_178 : decode cX12_stepWord 178 = .ok (.goto 4, 3) := by decide +kernel
theorem dX12_stepWord_181 : decode cX12_stepWord 181 = .ok (.iconst (-1), 1) := by decide +kernel
theorem dX12_stepWord_182 : decode cX12_stepWord 182 = .ok (.ireturn, 1) := by decide +kernel
def F_X12_stepWord (w : Nat) (M : z_Mem) : Option (Int32 × z_Mem) :=
  (F_X12_spelled w M (109 : Int32) (111 : Int32) (110 : Int32) (116 : Int32) (104 : Int32) (0 : Int32)).bind fun q1 =>
  (F_X12_isWord w q1.2 q1.1).bind fun q3 =>
  if q3.1 = true then
  some ((0 : Int32), q3.2)
  else
  (F_X12_spelled w q3.2 (99 : Int32) (97 : Int32) (114 : Int32) (114 : Int32) (121 : Int32) (0 : Int32)).bind fun q6 =>
  (F_X12_isWord w q6.2 q6.1).bind fun q8 =>
  if q8.1 = true then
  some ((1 : Int32), q8.2)
  else
  (F_X12_spelled w q8.2 (115 : Int32) (119 : Int32) (101 : Int32) (97 : Int32) (114 : Int32) (0 : Int32)).bind fun q11 =>
  (F_X12_isWord w q11.2 q11.1).bind fun q13 =>
  if q13.1 = true then
  some ((2 : Int32), q13.2)
  else
  (F_X12_spelled w q13.2 (112 : Int32) (97 : Int32) (121 : Int32) (0 : Int32) (0 : Int32) (0 : Int32)).bind fun q16 =>
  (F_X12_isWord w q16.2 q16.1).bind fun q18 =>
  if q18.1 = true then
  some ((3 : Int32), q18.2)
  else
  (F_X12_spelled w q18.2 (97 : Int32) (110 : Int32) (121 : Int32) (0 : Int32) (0 : Int32) (0 : Int32)).bind fun q21 =>
  (F_X12_isWord w q21.2 q21.1).bind fun q23 =>
  if q23.1 = true then
  some ((4 : Int32), q23.2)
  else
  (F_X12_spelled w q23.2 (119 : Int32) (104 : Int32) (101 : Int32) (110 : Int32) (0 : Int32) (0 : Int32)).bind fun q26 =>
  (F_X12_isWord w q26.2 q26.1).bind fun q28 =>
  if q28.1 = true then
  some ((5 : Int32), q28.2)
  else
  (F_X12_spelled w q28.2 (108 : Int32) (111 : Int32) (111 : Int32) (112 : Int32) (0 : Int32) (0 : Int32)).bind fun q31 =>
  (F_X12_isWord w q31.2 q31.1).bind fun q33 =>
  if q33.1 = true then
  some ((6 : Int32), q33.2)
  else
  (F_X12_spelled w q33.2 (115 : Int32) (116 : Int32) (111 : Int32) (112 : Int32) (0 : Int32) (0 : Int32)).bind fun q36 =>
  (F_X12_isWord w q36.2 q36.1).bind fun q38 =>
  if q38.1 = true then
  some ((7 : Int32), q38.2)
  else
  some ((-1 : Int32), q38.2)
set_option maxHeartbeats 4000000 in
theorem A_X12_stepWord {w : Nat} {M : z_Mem} {r : Int32} {M' : z_Mem} {Q : Option Value → z_Mem → Prop} (h : F_X12_stepWord w M = some (r, M')) (hq : Q (some (.int r)) M') : z_Cl 1 mX12_stepWord [.ref 139] M Q := by
  refine g_in (ls := [some (.ref 139)]) rfl ?_
  unfold F_X12_stepWord at h
  refine g_aload_n dX12_stepWord_0 rfl rfl ?_
  refine g_bipush (v := (109 : Int32)) dX12_stepWord_1 (by decide) ?_
  refine g_bipush (v := (111 : Int32)) dX12_stepWord_3 (by decide) ?_
  refine g_bipush (v := (110 : Int32)) dX12_stepWord_5 (by decide) ?_
  refine g_bipush (v := (116 : Int32)) dX12_stepWord_7 (by decide) ?_
  refine g_bipush (v := (104 : Int32)) dX12_stepWord_9 (by decide) ?_
  refine g_iconst (v := (0 : Int32)) dX12_stepWord_11 (by decide) ?_
  obtain ⟨q1, e2, h⟩ := z_bd h
  refine g_callS (as := [.int (109 : Int32), .int (111 : Int32), .int (110 : Int32), .int (116 : Int32), .int (104 : Int32), .int (0 : Int32)]) (rest := [.ref 139]) (c := mX12_spelled) (k1 := 0) dX12_stepWord_12 rfl rfl rfl rfl rfl (Nat.le_of_ble_eq_true rfl) (Nat.le_of_ble_eq_true rfl) (by decide) ?_
  refine A_X12_spelled e2 ?_
  show z_G none 1 mX12_stepWord 15 [some (.ref 139)] [.long q1.1, .ref 139] q1.2 Q
  obtain ⟨q3, e4, h⟩ := z_bd h
  refine g_callV (a := 137) (as := [.long q1.1]) (rest := []) (c := mX12_isWord) (k1 := 0) dX12_stepWord_15 rfl rfl rfl sh_137 rfl rfl (Nat.le_of_ble_eq_true rfl) (Nat.le_of_ble_eq_true rfl) (by decide) ?_
  refine A_X12_isWord e4 ?_
  show z_G none 1 mX12_stepWord 18 [some (.ref 139)] [.int (z_tb q3.1)] q3.2 Q
  refine g_if_eq (t := 23) dX12_stepWord_18 (by decide) (fun c5 => ?_) (fun c5 => ?_)
  · replace h := z_iff (z_tb0.mp c5) h
    refine g_aload_n dX12_stepWord_23 rfl rfl ?_
    refine g_bipush (v := (99 : Int32)) dX12_stepWord_24 (by decide) ?_
    refine g_bipush (v := (97 : Int32)) dX12_stepWord_26 (by decide) ?_
    refine g_bipush (v := (114 : Int32)) dX12_stepWord_28 (by decide) ?_
    refine g_bipush (v := (114 : Int32)) dX12_stepWord_30 (by decide) ?_
    refine g_bipush (v := (121 : Int32)) dX12_stepWord_32 (by decide) ?_
    refine g_iconst (v := (0 : Int32)) dX12_stepWord_34 (by decide) ?_
    obtain ⟨q6, e7, h⟩ := z_bd h
    refine g_callS (as := [.int (99 : Int32), .int (97 : Int32), .int (114 : Int32), .int (114 : Int32), .int (121 : Int32), .int (0 : Int32)]) (rest := [.ref 139]) (c := mX12_spelled) (k1 := 0) dX12_stepWord_35 rfl rfl rfl rfl rfl (Nat.le_of_ble_eq_true rfl) (Nat.le_of_ble_eq_true rfl) (by decide) ?_
    refine A_X12_spelled e7 ?_
    show z_G none 1 mX12_stepWord 38 [some (.ref 139)] [.long q6.1, .ref 139] q6.2 Q
    obtain ⟨q8, e9, h⟩ := z_bd h
    refine g_callV (a := 137) (as := [.long q6.1]) (rest := []) (c := mX12_isWord) (k1 := 0) dX12_stepWord_38 rfl rfl rfl sh_137 rfl rfl (Nat.le_of_ble_eq_true rfl) (Nat.le_of_ble_eq_true rfl) (by decide) ?_
    refine A_X12_isWord e9 ?_
    show z_G none 1 mX12_stepWord 41 [some (.ref 139)] [.int (z_tb q8.1)] q8.2 Q
    refine g_if_eq (t := 46) dX12_stepWord_41 (by decide) (fun c10 => ?_) (fun c10 => ?_)
    · replace h := z_iff (z_tb0.mp c10) h
      refine g_aload_n dX12_stepWord_46 rfl rfl ?_
      refine g_bipush (v := (115 : Int32)) dX12_stepWord_47 (by decide) ?_
      refine g_bipush (v := (119 : Int32)) dX12_stepWord_49 (by decide) ?_
      refine g_bipush (v := (101 : Int32)) dX12_stepWord_51 (by decide) ?_
      refine g_bipush (v := (97 : Int32)) dX12_stepWord_53 (by decide) ?_
      refine g_bipush (v := (114 : Int32)) dX12_stepWord_55 (by decide) ?_
      refine g_iconst (v := (0 : Int32)) dX12_stepWord_57 (by decide) ?_
      obtain ⟨q11, e12, h⟩ := z_bd h
      refine g_callS (as := [.int (115 : Int32), .int (119 : Int32), .int (101 : Int32), .int (97 : Int32), .int (114 : Int32), .int (0 : Int32)]) (rest := [.ref 139]) (c := mX12_spelled) (k1 := 0) dX12_stepWord_58 rfl rfl rfl rfl rfl (Nat.le_of_ble_eq_true rfl) (Nat.le_of_ble_eq_true rfl) (by decide) ?_
      refine A_X12_spelled e12 ?_
      show z_G none 1 mX12_stepWord 61 [some (.ref 139)] [.long q11.1, .ref 139] q11.2 Q
      obtain ⟨q13, e14, h⟩ := z_bd h
      refine g_callV (a := 137) (as := [.long q11.1]) (rest := []) (c := mX12_isWord) (k1 := 0) dX12_stepWord_61 rfl rfl rfl sh_137 rfl rfl (Nat.le_of_ble_eq_true rfl) (Nat.le_of_ble_eq_true rfl) (by decide) ?_
      refine A_X12_isWord e14 ?_
      show z_G none 1 mX12_stepWord 64 [some (.ref 139)] [.int (z_tb q13.1)] q13.2 Q
      refine g_if_eq (t := 69) dX12_stepWord_64 (by decide) (fun c15 => ?_) (fun c15 => ?_)
      · replace h := z_iff (z_tb0.mp c15) h
        refine g_aload_n dX12_stepWord_69 rfl rfl ?_
        refine g_bipush (v := (112 : Int32)) dX12_stepWord_70 (by decide) ?_
        refine g_bipush (v := (97 : Int32)) dX12_stepWord_72 (by decide) ?_
        refine g_bipush (v := (121 : Int32)) dX12_stepWord_74 (by decide) ?_
        refine g_iconst (v := (0 : Int32)) dX12_stepWord_76 (by decide) ?_
        refine g_iconst (v := (0 : Int32)) dX12_stepWord_77 (by decide) ?_
        refine g_iconst (v := (0 : Int32)) dX12_stepWord_78 (by decide) ?_
        obtain ⟨q16, e17, h⟩ := z_bd h
        refine g_callS (as := [.int (112 : Int32), .int (97 : Int32), .int (121 : Int32), .int (0 : Int32), .int (0 : Int32), .int (0 : Int32)]) (rest := [.ref 139]) (c := mX12_spelled) (k1 := 0) dX12_stepWord_79 rfl rfl rfl rfl rfl (Nat.le_of_ble_eq_true rfl) (Nat.le_of_ble_eq_true rfl) (by decide) ?_
        refine A_X12_spelled e17 ?_
        show z_G none 1 mX12_stepWord 82 [some (.ref 139)] [.long q16.1, .ref 139] q16.2 Q
        obtain ⟨q18, e19, h⟩ := z_bd h
        refine g_callV (a := 137) (as := [.long q16.1]) (rest := []) (c := mX12_isWord) (k1 := 0) dX12_stepWord_82 rfl rfl rfl sh_137 rfl rfl (Nat.le_of_ble_eq_true rfl) (Nat.le_of_ble_eq_true rfl) (by decide) ?_
        refine A_X12_isWord e19 ?_
        show z_G none 1 mX12_stepWord 85 [some (.ref 139)] [.int (z_tb q18.1)] q18.2 Q
        refine g_if_eq (t := 90) dX12_stepWord_85 (by decide) (fun c20 => ?_) (fun c20 => ?_)
        · replace h := z_iff (z_tb0.mp c20) h
          refine g_aload_n dX12_stepWord_90 rfl rfl ?_
          refine g_bipush (v := (97 : Int32)) dX12_stepWord_91 (by decide) ?_
          refine g_bipush (v := (110 : Int32)) dX12_stepWord_93 (by decide) ?_
          refine g_bipush (v := (121 : Int32)) dX12_stepWord_95 (by decide) ?_
          refine g_iconst (v := (0 : Int32)) dX12_stepWord_97 (by decide) ?_
          refine g_iconst (v := (0 : Int32)) dX12_stepWord_98 (by decide) ?_
          refine g_iconst (v := (0 : Int32)) dX12_stepWord_99 (by decide) ?_
          obtain ⟨q21, e22, h⟩ := z_bd h
          refine g_callS (as := [.int (97 : Int32), .int (110 : Int32), .int (121 : Int32), .int (0 : Int32), .int (0 : Int32), .int (0 : Int32)]) (rest := [.ref 139]) (c := mX12_spelled) (k1 := 0) dX12_stepWord_100 rfl rfl rfl rfl rfl (Nat.le_of_ble_eq_true rfl) (Nat.le_of_ble_eq_true rfl) (by decide) ?_
          refine A_X12_spelled e22 ?_
          show z_G none 1 mX12_stepWord 103 [some (.ref 139)] [.long q21.1, .ref 139] q21.2 Q
          obtain ⟨q23, e24, h⟩ := z_bd h
          refine g_callV (a := 137) (as := [.long q21.1]) (rest := []) (c := mX12_isWord) (k1 := 0) dX12_stepWord_103 rfl rfl rfl sh_137 rfl rfl (Nat.le_of_ble_eq_true rfl) (Nat.le_of_ble_eq_true rfl) (by decide) ?_
          refine A_X12_isWord e24 ?_
          show z_G none 1 mX12_stepWord 106 [some (.ref 139)] [.int (z_tb q23.1)] q23.2 Q
          refine g_if_eq (t := 111) dX12_stepWord_106 (by decide) (fun c25 => ?_) (fun c25 => ?_)
          · replace h := z_iff (z_tb0.mp c25) h
            refine g_aload_n dX12_stepWord_111 rfl rfl ?_
            refine g_bipush (v := (119 : Int32)) dX12_stepWord_112 (by decide) ?_
            refine g_bipush (v := (104 : Int32)) dX12_stepWord_114 (by decide) ?_
            refine g_bipush (v := (101 : Int32)) dX12_stepWord_116 (by decide) ?_
            refine g_bipush (v := (110 : Int32)) dX12_stepWord_118 (by decide) ?_
            refine g_iconst (v := (0 : Int32)) dX12_stepWord_120 (by decide) ?_
            refine g_iconst (v := (0 : Int32)) dX12_stepWord_121 (by decide) ?_
            obtain ⟨q26, e27, h⟩ := z_bd h
            refine g_callS (as := [.int (119 : Int32), .int (104 : Int32), .int (101 : Int32), .int (110 : Int32), .int (0 : Int32), .int (0 : Int32)]) (rest := [.ref 139]) (c := mX12_spelled) (k1 := 0) dX12_stepWord_122 rfl rfl rfl rfl rfl (Nat.le_of_ble_eq_true rfl) (Nat.le_of_ble_eq_true rfl) (by decide) ?_
            refine A_X12_spelled e27 ?_
            show z_G none 1 mX12_stepWord 125 [some (.ref 139)] [.long q26.1, .ref 139] q26.2 Q
            obtain ⟨q28, e29, h⟩ := z_bd h
            refine g_callV (a := 137) (as := [.long q26.1]) (rest := []) (c := mX12_isWord) (k1 := 0) dX12_stepWord_125 rfl rfl rfl sh_137 rfl rfl (Nat.le_of_ble_eq_true rfl) (Nat.le_of_ble_eq_true rfl) (by decide) ?_
            refine A_X12_isWord e29 ?_
            show z_G none 1 mX12_stepWord 128 [some (.ref 139)] [.int (z_tb q28.1)] q28.2 Q
            refine g_if_eq (t := 133) dX12_stepWord_128 (by decide) (fun c30 => ?_) (fun c30 => ?_)
            · replace h := z_iff (z_tb0.mp c30) h
              refine g_aload_n dX12_stepWord_133 rfl rfl ?_
              refine g_bipush (v := (108 : Int32)) dX12_stepWord_134 (by decide) ?_
              refine g_bipush (v := (111 : Int32)) dX12_stepWord_136 (by decide) ?_
              refine g_bipush (v := (111 : Int32)) dX12_stepWord_138 (by decide) ?_
              refine g_bipush (v := (112 : Int32)) dX12_stepWord_140 (by decide) ?_
              refine g_iconst (v := (0 : Int32)) dX12_stepWord_142 (by decide) ?_
              refine g_iconst (v := (0 : Int32)) dX12_stepWord_143 (by decide) ?_
              obtain ⟨q31, e32, h⟩ := z_bd h
              refine g_callS (as := [.int (108 : Int32), .int (111 : Int32), .int (111 : Int32), .int (112 : Int32), .int (0 : Int32), .int (0 : Int32)]) (rest := [.ref 139]) (c := mX12_spelled) (k1 := 0) dX12_stepWord_144 rfl rfl rfl rfl rfl (Nat.le_of_ble_eq_true rfl) (Nat.le_of_ble_eq_true rfl) (by decide) ?_
              refine A_X12_spelled e32 ?_
              show z_G none 1 mX12_stepWord 147 [some (.ref 139)] [.long q31.1, .ref 139] q31.2 Q
              obtain ⟨q33, e34, h⟩ := z_bd h
              refine g_callV (a := 137) (as := [.long q31.1]) (rest := []) (c := mX12_isWord) (k1 := 0) dX12_stepWord_147 rfl rfl rfl sh_137 rfl rfl (Nat.le_of_ble_eq_true rfl) (Nat.le_of_ble_eq_true rfl) (by decide) ?_
              refine A_X12_isWord e34 ?_
              show z_G none 1 mX12_stepWord 150 [some (.ref 139)] [.int (z_tb q33.1)] q33.2 Q
              refine g_if_eq (t := 156) dX12_stepWord_150 (by decide) (fun c35 => ?_) (fun c35 => ?_)
              · replace h := z_iff (z_tb0.mp c35) h
                refine g_aload_n dX12_stepWord_156 rfl rfl ?_
                refine g_bipush (v := (115 : Int32)) dX12_stepWord_157 (by decide) ?_
                refine g_bipush (v := (116 : Int32)) dX12_stepWord_159 (by decide) ?_
                refine g_bipush (v := (111 : Int32)) dX12_stepWord_161 (by decide) ?_
                refine g_bipush (v := (112 : Int32)) dX12_stepWord_163 (by decide) ?_
                refine g_iconst (v := (0 : Int32)) dX12_stepWord_165 (by decide) ?_
                refine g_iconst (v := (0 : Int32)) dX12_stepWord_166 (by decide) ?_
                obtain ⟨q36, e37, h⟩ := z_bd h
                refine g_callS (as := [.int (115 : Int32), .int (116 : Int32), .int (111 : Int32), .int (112 : Int32), .int (0 : Int32), .int (0 : Int32)]) (rest := [.ref 139]) (c := mX12_spelled) (k1 := 0) dX12_stepWord_167 rfl rfl rfl rfl rfl (Nat.le_of_ble_eq_true rfl) (Nat.le_of_ble_eq_true rfl) (by decide) ?_
                refine A_X12_spelled e37 ?_
                show z_G none 1 mX12_stepWord 170 [some (.ref 139)] [.long q36.1, .ref 139] q36.2 Q
                obtain ⟨q38, e39, h⟩ := z_bd h
                refine g_callV (a := 137) (as := [.long q36.1]) (rest := []) (c := mX12_isWord) (k1 := 0) dX12_stepWord_170 rfl rfl rfl sh_137 rfl rfl (Nat.le_of_ble_eq_true rfl) (Nat.le_of_ble_eq_true rfl) (by decide) ?_
                refine A_X12_isWord e39 ?_
                show z_G none 1 mX12_stepWord 173 [some (.ref 139)] [.int (z_tb q38.1)] q38.2 Q
                refine g_if_eq (t := 181) dX12_stepWord_173 (by decide) (fun c40 => ?_) (fun c40 => ?_)
                · replace h := z_iff (z_tb0.mp c40) h
                  refine g_iconst (v := (-1 : Int32)) dX12_stepWord_181 (by decide) ?_
                  cases h
                  exact g_iret dX12_stepWord_182 rfl rfl hq
                · replace h := z_ift (z_tbn.mp c40) h
                  refine g_bipush (v := (7 : Int32)) dX12_stepWord_176 (by decide) ?_
                  refine g_goto (t := 182) dX12_stepWord_178 (by decide) ?_
                  cases h
                  exact g_iret dX12_stepWord_182 rfl rfl hq
              · replace h := z_ift (z_tbn.mp c35) h
                refine g_bipush (v := (6 : Int32)) dX12_stepWord_153 (by decide) ?_
                cases h
                exact g_iret dX12_stepWord_155 rfl rfl hq
            · replace h := z_ift (z_tbn.mp c30) h
              refine g_iconst (v := (5 : Int32)) dX12_stepWord_131 (by decide) ?_
              cases h
              exact g_iret dX12_stepWord_132 rfl rfl hq
          · replace h := z_ift (z_tbn.mp c25) h
            refine g_iconst (v := (4 : Int32)) dX12_stepWord_109 (by decide) ?_
            cases h
            exact g_iret dX12_stepWord_110 rfl rfl hq
        · replace h := z_ift (z_tbn.mp c20) h
          refine g_iconst (v := (3 : Int32)) dX12_stepWord_88 (by decide) ?_
          cases h
          exact g_iret dX12_stepWord_89 rfl rfl hq
      · replace h := z_ift (z_tbn.mp c15) h
        refine g_iconst (v := (2 : Int32)) dX12_stepWord_67 (by decide) ?_
        cases h
        exact g_iret dX12_stepWord_68 rfl rfl hq
    · replace h := z_ift (z_tbn.mp c10) h
      refine g_iconst (v := (1 : Int32)) dX12_stepWord_44 (by decide) ?_
      cases h
      exact g_iret dX12_stepWord_45 rfl rfl hq
  · replace h := z_ift (z_tbn.mp c5) h
    refine g_iconst (v := (0 : Int32)) dX12_stepWord_21 (by decide) ?_
    cases h
    exact g_iret dX12_stepWord_22 rfl rfl hq
theorem dX12_testWord_0 : decode cX12_testWord 0 = .ok (.aload_n 0, 1) := by decide +kernel
theorem dX12_testWord_1 : decode cX12_testWord 1 = .ok (.invokevirtual 147, 3) := by decide +kernel
theorem dX12_testWord_4 : decode cX12_testWord 4 = .ok (.ifCond .eq 5, 3) := by decide +kernel
theorem dX12_testWord_7 : decode cX12_testWord 7 = .ok (.iconst 0, 1) := by decide +kernel
theorem dX12_testWord_8 : decode cX12_testWord 8 = .ok (.ireturn, 1) := by decide +kernel
theorem dX12_testWord_9 : decode cX12_testWord 9 = .ok (.aload_n 0, 1) := by decide +kernel
theorem dX12_testWord_10 : decode cX12_testWord 10 = .ok (.invokevirtual 151, 3) := by decide +kernel
theorem dX12_testWord_13 : decode cX12_testWord 13 = .ok (.ifCond .eq 5, 3) := by decide +kernel
theorem dX12_testWord_16 : decode cX12_testWord 16 = .ok (.iconst 1, 1) := by decide +kernel
theorem dX12_testWord_17 : decode cX12_testWord 17 = .ok (.ireturn, 1) := by decide +kernel
theorem dX12_testWord_18 : decode cX12_testWord 18 = .ok (.aload_n 0, 1) := by decide +kernel
theorem dX12_testWord_19 : decode cX12_testWord 19 = .ok (.bipush 111, 2) := by decide +kernel
theorem dX12_testWord_21 : decode cX12_testWord 21 = .ok (.bipush 119, 2) := by decide +kernel
theorem dX12_testWord_23 : decode cX12_testWord 23 = .ok (.bipush 101, 2) := by decide +kernel
theorem dX12_testWord_25 : decode cX12_testWord 25 = .ok (.bipush 115, 2) := by decide +kernel
theorem dX12_testWord_27 : decode cX12_testWord 27 = .ok (.iconst 0, 1) := by decide +kernel
theorem dX12_testWord_28 : decode cX12_testWord 28 = .ok (.iconst 0, 1) := by decide +kernel
theorem dX12_testWord_29 : decode cX12_testWord 29 = .ok (.invokestatic 137, 3) := by decide +kernel
theorem dX12_testWord_32 : decode cX12_testWord 32 = .ok (.invokevirtual 141, 3) := by decide +kernel
theorem dX12_testWord_35 : decode cX12_testWord 35 = .ok (.ifCond .eq 7, 3) := by decide +kernel
theorem dX12_testWord_38 : decode cX12_testWord 38 = .ok (.iconst 2, 1) := by decide +kernel
theorem dX12_testWord_39 : decode cX12_testWord 39 = .ok (.goto 4, 3) := by decide +kernel
theorem dX12_testWord_42 : decode cX12_testWord 42 = .ok (.iconst (-1), 1) := by decide +kernel
theorem dX12_testWord_43 : decode cX12_testWord 43 = .ok (.ireturn, 1) := by decide +kernel
def F_X12_testWord (w : Nat) (M : z_Mem) : Option (Int32 × z_Mem) :=
  (F_X12_isLies w M).bind fun q1 =>
  if q1.1 = true then
  some ((0 : Int32), q1.2)
  else
  (F_X12_isChest w q1.2).bind fun q4 =>
  if q4.1 = true then
  some ((1 : Int32), q4.2)
  else
  (F_X12_spelled w q4.2 (111 : Int32) (119 : Int32) (101 : Int32) (115 : Int32) (0 : Int32) (0 : Int32)).bind fun q7 =>
  (F_X12_isWord w q7.2 q7.1).bind fun q9 =>
  if q9.1 = true then
  some ((2 : Int32), q9.2)
  else
  some ((-1 : Int32), q9.2)
set_option maxHeartbeats 4000000 in
theorem A_X12_testWord {w : Nat} {M : z_Mem} {r : Int32} {M' : z_Mem} {Q : Option Value → z_Mem → Prop} (h : F_X12_testWord w M = some (r, M')) (hq : Q (some (.int r)) M') : z_Cl 2 mX12_testWord [.ref 139] M Q := by
  refine g_in (ls := [some (.ref 139)]) rfl ?_
  unfold F_X12_testWord at h
  refine g_aload_n dX12_testWord_0 rfl rfl ?_
  obtain ⟨q1, e2, h⟩ := z_bd h
  refine g_callV (a := 137) (as := []) (rest := []) (c := mX12_isLies) (k1 := 1) dX12_testWord_1 rfl rfl rfl sh_137 rfl rfl (Nat.le_of_ble_eq_true rfl) (Nat.le_of_ble_eq_true rfl) (by decide) ?_
  refine A_X12_isLies e2 ?_
  show z_G none 2 mX12_testWord 4 [some (.ref 139)] [.int (z_tb q1.1)] q1.2 Q
  refine g_if_eq (t := 9) dX12_testWord_4 (by decide) (fun c3 => ?_) (fun c3 => ?_)
  · replace h := z_iff (z_tb0.mp c3) h
    refine g_aload_n dX12_testWord_9 rfl rfl ?_
    obtain ⟨q4, e5, h⟩ := z_bd h
    refine g_callV (a := 137) (as := []) (rest := []) (c := mX12_isChest) (k1 := 1) dX12_testWord_10 rfl rfl rfl sh_137 rfl rfl (Nat.le_of_ble_eq_true rfl) (Nat.le_of_ble_eq_true rfl) (by decide) ?_
    refine A_X12_isChest e5 ?_
    show z_G none 2 mX12_testWord 13 [some (.ref 139)] [.int (z_tb q4.1)] q4.2 Q
    refine g_if_eq (t := 18) dX12_testWord_13 (by decide) (fun c6 => ?_) (fun c6 => ?_)
    · replace h := z_iff (z_tb0.mp c6) h
      refine g_aload_n dX12_testWord_18 rfl rfl ?_
      refine g_bipush (v := (111 : Int32)) dX12_testWord_19 (by decide) ?_
      refine g_bipush (v := (119 : Int32)) dX12_testWord_21 (by decide) ?_
      refine g_bipush (v := (101 : Int32)) dX12_testWord_23 (by decide) ?_
      refine g_bipush (v := (115 : Int32)) dX12_testWord_25 (by decide) ?_
      refine g_iconst (v := (0 : Int32)) dX12_testWord_27 (by decide) ?_
      refine g_iconst (v := (0 : Int32)) dX12_testWord_28 (by decide) ?_
      obtain ⟨q7, e8, h⟩ := z_bd h
      refine g_callS (as := [.int (111 : Int32), .int (119 : Int32), .int (101 : Int32), .int (115 : Int32), .int (0 : Int32), .int (0 : Int32)]) (rest := [.ref 139]) (c := mX12_spelled) (k1 := 0) dX12_testWord_29 rfl rfl rfl rfl rfl (Nat.le_of_ble_eq_true rfl) (Nat.le_of_ble_eq_true rfl) (by decide) ?_
      refine A_X12_spelled e8 ?_
      show z_G none 2 mX12_testWord 32 [some (.ref 139)] [.long q7.1, .ref 139] q7.2 Q
      obtain ⟨q9, e10, h⟩ := z_bd h
      refine g_callV (a := 137) (as := [.long q7.1]) (rest := []) (c := mX12_isWord) (k1 := 0) dX12_testWord_32 rfl rfl rfl sh_137 rfl rfl (Nat.le_of_ble_eq_true rfl) (Nat.le_of_ble_eq_true rfl) (by decide) ?_
      refine A_X12_isWord e10 ?_
      show z_G none 2 mX12_testWord 35 [some (.ref 139)] [.int (z_tb q9.1)] q9.2 Q
      refine g_if_eq (t := 42) dX12_testWord_35 (by decide) (fun c11 => ?_) (fun c11 => ?_)
      · replace h := z_iff (z_tb0.mp c11) h
        refine g_iconst (v := (-1 : Int32)) dX12_testWord_42 (by decide) ?_
        cases h
        exact g_iret dX12_testWord_43 rfl rfl hq
      · replace h := z_ift (z_tbn.mp c11) h
        refine g_iconst (v := (2 : Int32)) dX12_testWord_38 (by decide) ?_
        refine g_goto (t := 43) dX12_testWord_39 (by decide) ?_
        cases h
        exact g_iret dX12_testWord_43 rfl rfl hq
    · replace h := z_ift (z_tbn.mp c6) h
      refine g_iconst (v := (1 : Int32)) dX12_testWord_16 (by decide) ?_
      cases h
      exact g_iret dX12_testWord_17 rfl rfl hq
  · replace h := z_ift (z_tbn.mp c3) h
    refine g_iconst (v := (0 : Int32)) dX12_testWord_7 (by decide) ?_
    cases h
    exact g_iret dX12_testWord_8 rfl rfl hq
theorem dX12_isEnd_0 : decode cX12_isEnd 0 = .ok (.aload_n 0, 1) := by decide +kernel
theorem dX12_isEnd_1 : decode cX12_isEnd 1 = .ok (.bipush 101, 2) := by decide +kernel
theorem dX12_isEnd_3 : decode cX12_isEnd 3 = .ok (.bipush 110, 2) := by decide +kernel
theorem dX12_isEnd_5 : decode cX12_isEnd 5 = .ok (.bipush 100, 2) := by decide +kernel
theorem dX12_isEnd_7 : decode cX12_isEnd 7 = .ok (.iconst 0, 1) := by decide +kernel
theorem dX12_isEnd_8 : decode cX12_isEnd 8 = .ok (.iconst 0, 1) := by decide +kernel
theorem dX12_isEnd_9 : decode cX12_isEnd 9 = .ok (.iconst 0, 1) := by decide +kernel
theorem dX12_isEnd_10 : decode cX12_isEnd 10 = .ok (.invokestatic 137, 3) := by decide +kernel
theorem dX12_isEnd_13 : decode cX12_isEnd 13 = .ok (.invokevirtual 141, 3) := by decide +kernel
theorem dX12_isEnd_16 : decode cX12_isEnd 16 = .ok (.ireturn, 1) := by decide +kernel
def F_X12_isEnd (w : Nat) (M : z_Mem) : Option (Bool × z_Mem) :=
  (F_X12_spelled w M (101 : Int32) (110 : Int32) (100 : Int32) (0 : Int32) (0 : Int32) (0 : Int32)).bind fun q1 =>
  (F_X12_isWord w q1.2 q1.1).bind fun q3 =>
  some (q3.1, q3.2)
set_option maxHeartbeats 4000000 in
theorem A_X12_isEnd {w : Nat} {M : z_Mem} {r : Bool} {M' : z_Mem} {Q : Option Value → z_Mem → Prop} (h : F_X12_isEnd w M = some (r, M')) (hq : Q (some (.int (z_tb r))) M') : z_Cl 1 mX12_isEnd [.ref 139] M Q := by
  refine g_in (ls := [some (.ref 139)]) rfl ?_
  unfold F_X12_isEnd at h
  refine g_aload_n dX12_isEnd_0 rfl rfl ?_
  refine g_bipush (v := (101 : Int32)) dX12_isEnd_1 (by decide) ?_
  refine g_bipush (v := (110 : Int32)) dX12_isEnd_3 (by decide) ?_
  refine g_bipush (v := (100 : Int32)) dX12_isEnd_5 (by decide) ?_
  refine g_iconst (v := (0 : Int32)) dX12_isEnd_7 (by decide) ?_
  refine g_iconst (v := (0 : Int32)) dX12_isEnd_8 (by decide) ?_
  refine g_iconst (v := (0 : Int32)) dX12_isEnd_9 (by decide) ?_
  obtain ⟨q1, e2, h⟩ := z_bd h
  refine g_callS (as := [.int (101 : Int32), .int (110 : Int32), .int (100 : Int32), .int (0 : Int32), .int (0 : Int32), .int (0 : Int32)]) (rest := [.ref 139]) (c := mX12_spelled) (k1 := 0) dX12_isEnd_10 rfl rfl rfl rfl rfl (Nat.le_of_ble_eq_true rfl) (Nat.le_of_ble_eq_true rfl) (by decide) ?_
  refine A_X12_spelled e2 ?_
  show z_G none 1 mX12_isEnd 13 [some (.ref 139)] [.long q1.1, .ref 139] q1.2 Q
  obtain ⟨q3, e4, h⟩ := z_bd h
  refine g_callV (a := 137) (as := [.long q1.1]) (rest := []) (c := mX12_isWord) (k1 := 0) dX12_isEnd_13 rfl rfl rfl sh_137 rfl rfl (Nat.le_of_ble_eq_true rfl) (Nat.le_of_ble_eq_true rfl) (by decide) ?_
  refine A_X12_isWord e4 ?_
  show z_G none 1 mX12_isEnd 16 [some (.ref 139)] [.int (z_tb q3.1)] q3.2 Q
  cases h
  exact g_iret dX12_isEnd_16 rfl nb_tb hq
theorem dX12_isKept_0 : decode cX12_isKept 0 = .ok (.aload_n 0, 1) := by decide +kernel
theorem dX12_isKept_1 : decode cX12_isKept 1 = .ok (.invokevirtual 154, 3) := by decide +kernel
theorem dX12_isKept_4 : decode cX12_isKept 4 = .ok (.ifCond .ne 66, 3) := by decide +kernel
theorem dX12_isKept_7 : decode cX12_isKept 7 = .ok (.aload_n 0, 1) := by decide +kernel
theorem dX12_isKept_8 : decode cX12_isKept 8 = .ok (.invokevirtual 157, 3) := by decide +kernel
theorem dX12_isKept_11 : decode cX12_isKept 11 = .ok (.ifCond .ne 59, 3) := by decide +kernel
theorem dX12_isKept_14 : decode cX12_isKept 14 = .ok (.aload_n 0, 1) := by decide +kernel
theorem dX12_isKept_15 : decode cX12_isKept 15 = .ok (.invokevirtual 160, 3) := by decide +kernel
theorem dX12_isKept_18 : decode cX12_isKept 18 = .ok (.ifCond .ne 52, 3) := by decide +kernel
theorem dX12_isKept_21 : decode cX12_isKept 21 = .ok (.aload_n 0, 1) := by decide +kernel
theorem dX12_isKept_22 : decode cX12_isKept 22 = .ok (.invokevirtual 163, 3) := by decide +kernel
theorem dX12_isKept_25 : decode cX12_isKept 25 = .ok (.ifCond .ne 45, 3) := by decide +kernel
theorem dX12_isKept_28 : decode cX12_isKept 28 = .ok (.aload_n 0, 1) := by decide +kernel
theorem dX12_isKept_29 : decode cX12_isKept 29 = .ok (.invokevirtual 166, 3) := by decide +kernel
theorem dX12_isKept_32 : decode cX12_isKept 32 = .ok (.ifCond .ne 38, 3) := by decide +kernel
theorem dX12_isKept_35 : decode cX12_isKept 35 = .ok (.aload_n 0, 1) := by decide +kernel
theorem dX12_isKept_36 : decode cX12_isKept 36 = .ok (.invokevirtual 169, 3) := by decide +kernel
theorem dX12_isKept_39 : decode cX12_isKept 39 = .ok (.ifCond .ne 31, 3) := by decide +kernel
theorem dX12_isKept_42 : decode cX12_isKept 42 = .ok (.aload_n 0, 1) := by decide +kernel
theorem dX12_isKept_43 : decode cX12_isKept 43 = .ok (.invokevirtual 172, 3) := by decide +kernel
theorem dX12_isKept_46 : decode cX12_isKept 46 = .ok (.ifCond .ne 24, 3) := by decide +kernel
theorem dX12_isKept_49 : decode cX12_isKept 49 = .ok (.aload_n 0, 1) := by decide +kernel
theorem dX12_isKept_50 : decode cX12_isKept 50 = .ok (.invokevirtual 175, 3) := by decide +kernel
theorem dX12_isKept_53 : decode cX12_isKept 53 = .ok (.ifCond .ne 17, 3) := by decide +kernel
theorem dX12_isKept_56 : decode cX12_isKept 56 = .ok (.aload_n 0, 1) := by decide +kernel
theorem dX12_isKept_57 : decode cX12_isKept 57 = .ok (.invokevirtual 178, 3) := by decide +kernel
theorem dX12_isKept_60 : decode cX12_isKept 60 = .ok (.ifCond .ne 10, 3) := by decide +kernel
theorem dX12_isKept_63 : decode cX12_isKept 63 = .ok (.aload_n 0, 1) := by decide +kernel
theorem dX12_isKept_64 : decode cX12_isKept 64 = .ok (.invokevirtual 181, 3) := by decide +kernel
theorem dX12_isKept_67 : decode cX12_isKept 67 = .ok (.ifCond .eq 5, 3) := by decide +kernel
theorem dX12_isKept_70 : decode cX12_isKept 70 = .ok (.iconst 1, 1) := by decide +kernel
theorem dX12_isKept_71 : decode cX12_isKept 71 = .ok (.ireturn, 1) := by decide +kernel
theorem dX12_isKept_72 : decode cX12_isKept 72 = .ok (.aload_n 0, 1) := by decide +kernel
theorem dX12_isKept_73 : decode cX12_isKept 73 = .ok (.invokevirtual 184, 3) := by decide +kernel
theorem dX12_isKept_76 : decode cX12_isKept 76 = .ok (.ifCond .ne 24, 3) := by decide +kernel
theorem dX12_isKept_79 : decode cX12_isKept 79 = .ok (.aload_n 0, 1) := by decide +kernel
theorem dX12_isKept_80 : decode cX12_isKept 80 = .ok (.invokevirtual 187, 3) := by decide +kernel
theorem dX12_isKept_83 : decode cX12_isKept 83 = .ok (.ifCond .ne 17, 3) := by decide +kernel
theorem dX12_isKept_86 : decode cX12_isKept 86 = .ok (.aload_n 0, 1) := by decide +kernel
theorem dX12_isKept_87 : decode cX12_isKept 87 = .ok (.invokevirtual 190, 3) := by decide +kernel
theorem dX12_isKept_90 : decode cX12_isKept 90 = .ok (.ifCond .ne 10, 3) := by decide +kernel
theorem dX12_isKept_93 : decode cX12_isKept 93 = .ok (.aload_n 0, 1) := by decide +kernel
theorem dX12_isKept_94 : decode cX12_isKept 94 = .ok (.invokevirtual 193, 3) := by decide +kernel
theorem dX12_isKept_97 : decode cX12_isKept 97 = .ok (.ifCond .eq 5, 3) := by decide +kernel
theorem dX12_isKept_100 : decode cX12_isKept 100 = .ok (.iconst 1, 1) := by decide +kernel
theorem dX12_isKept_101 : decode cX12_isKept 101 = .ok (.ireturn, 1) := by decide +kernel
theorem dX12_isKept_102 : decode cX12_isKept 102 = .ok (.aload_n 0, 1) := by decide +kernel
theorem dX12_isKept_103 : decode cX12_isKept 103 = .ok (.invokevirtual 196, 3) := by decide +kernel
theorem dX12_isKept_106 : decode cX12_isKept 106 = .ok (.ifCond .ge 24, 3) := by decide +kernel
theorem dX12_isKept_109 : decode cX12_isKept 109 = .ok (.aload_n 0, 1) := by decide +kernel
theorem dX12_isKept_110 : decode cX12_isKept 110 = .ok (.invokevirtual 200, 3) := by decide +kernel
theorem dX12_isKept_113 : decode cX12_isKept 113 = .ok (.ifCond .ge 17, 3) := by decide +kernel
theorem dX12_isKept_116 : decode cX12_isKept 116 = .ok (.aload_n 0, 1) := by decide +kernel
theorem dX12_isKept_117 : decode cX12_isKept 117 = .ok (.invokevirtual 203, 3) := by decide +kernel
theorem dX12_isKept_120 : decode cX12_isKept 120 = .ok (.ifCond .ge 10, 3) := by decide +kernel
theorem dX12_isKept_123 : decode cX12_isKept 123 = .ok (.aload_n 0, 1) := by decide +kernel
theorem dX12_isKept_124 : decode cX12_isKept 124 = .ok (.invokevirtual 206, 3) := by decide +kernel
theorem dX12_isKept_127 : decode cX12_isKept 127 = .ok (.ifCond .lt 7, 3) := by decide +kernel
theorem dX12_isKept_130 : decode cX12_isKept 130 = .ok (.iconst 1, 1) := by decide +kernel
theorem dX12_isKept_131 : decode cX12_isKept 131 = .ok (.goto 4, 3) := by decide +kernel
theorem dX12_isKept_134 : decode cX12_isKept 134 = .ok (.iconst 0, 1) := by decide +kernel
theorem dX12_isKept_135 : decode cX12_isKept 135 = .ok (.ireturn, 1) := by decide +kernel
def F_X12_isKept (w : Nat) (M : z_Mem) : Option (Bool × z_Mem) :=
  (F_X12_isOdds w M).bind fun q1 =>
  if q1.1 = true then
  some (true, q1.2)
  else
  (F_X12_isToll w q1.2).bind fun q4 =>
  if q4.1 = true then
  some (true, q4.2)
  else
  (F_X12_isWar w q4.2).bind fun q7 =>
  if q7.1 = true then
  some (true, q7.2)
  else
  (F_X12_isRight w q7.2).bind fun q10 =>
  if q10.1 = true then
  some (true, q10.2)
  else
  (F_X12_isWorth w q10.2).bind fun q13 =>
  if q13.1 = true then
  some (true, q13.2)
  else
  (F_X12_isInWord w q13.2).bind fun q16 =>
  if q16.1 = true then
  some (true, q16.2)
  else
  (F_X12_isDebt w q16.2).bind fun q19 =>
  if q19.1 = true then
  some (true, q19.2)
  else
  (F_X12_isSum w q19.2).bind fun q22 =>
  if q22.1 = true then
  some (true, q22.2)
  else
  (F_X12_isLeft w q22.2).bind fun q25 =>
  if q25.1 = true then
  some (true, q25.2)
  else
  (F_X12_isAsk w q25.2).bind fun q28 =>
  if q28.1 = true then
  some (true, q28.2)
  else
  (F_X12_isClause w q28.2).bind fun q31 =>
  if q31.1 = true then
  some (true, q31.2)
  else
  (F_X12_isNot w q31.2).bind fun q34 =>
  if q34.1 = true then
  some (true, q34.2)
  else
  (F_X12_isWitness w q34.2).bind fun q37 =>
  if q37.1 = true then
  some (true, q37.2)
  else
  (F_X12_isEnd w q37.2).bind fun q40 =>
  if q40.1 = true then
  some (true, q40.2)
  else
  (F_X12_sideWord w q40.2).bind fun q43 =>
  if (0 : Int32) ≤ q43.1 then
  some (true, q43.2)
  else
  (F_X12_kindWord w q43.2).bind fun q46 =>
  if (0 : Int32) ≤ q46.1 then
  some (true, q46.2)
  else
  (F_X12_stepWord w q46.2).bind fun q49 =>
  if (0 : Int32) ≤ q49.1 then
  some (true, q49.2)
  else
  (F_X12_testWord w q49.2).bind fun q52 =>
  if q52.1 < (0 : Int32) then
  some (false, q52.2)
  else
  some (true, q52.2)
set_option maxHeartbeats 4000000 in
theorem A_X12_isKept {w : Nat} {M : z_Mem} {r : Bool} {M' : z_Mem} {Q : Option Value → z_Mem → Prop} (h : F_X12_isKept w M = some (r, M')) (hq : Q (some (.int (z_tb r))) M') : z_Cl 3 mX12_isKept [.ref 139] M Q := by
  refine g_in (ls := [some (.ref 139)]) rfl ?_
  unfold F_X12_isKept at h
  refine g_aload_n dX12_isKept_0 rfl rfl ?_
  obtain ⟨q1, e2, h⟩ := z_bd h
  refine g_callV (a := 137) (as := []) (rest := []) (c := mX12_isOdds) (k1 := 1) dX12_isKept_1 rfl rfl rfl sh_137 rfl rfl (Nat.le_of_ble_eq_true rfl) (Nat.le_of_ble_eq_true rfl) (by decide) ?_
  refine A_X12_isOdds e2 ?_
  show z_G none 3 mX12_isKept 4 [some (.ref 139)] [.int (z_tb q1.1)] q1.2 Q
  refine g_if_ne (t := 70) dX12_isKept_4 (by decide) (fun c3 => ?_) (fun c3 => ?_)
  · replace h := z_ift (z_tbn.mp c3) h
    refine g_iconst (v := (1 : Int32)) dX12_isKept_70 (by decide) ?_
    cases h
    exact g_iret dX12_isKept_71 rfl rfl hq
  · replace h := z_iff (z_tb0.mp c3) h
    refine g_aload_n dX12_isKept_7 rfl rfl ?_
    obtain ⟨q4, e5, h⟩ := z_bd h
    refine g_callV (a := 137) (as := []) (rest := []) (c := mX12_isToll) (k1 := 1) dX12_isKept_8 rfl rfl rfl sh_137 rfl rfl (Nat.le_of_ble_eq_true rfl) (Nat.le_of_ble_eq_true rfl) (by decide) ?_
    refine A_X12_isToll e5 ?_
    show z_G none 3 mX12_isKept 11 [some (.ref 139)] [.int (z_tb q4.1)] q4.2 Q
    refine g_if_ne (t := 70) dX12_isKept_11 (by decide) (fun c6 => ?_) (fun c6 => ?_)
    · replace h := z_ift (z_tbn.mp c6) h
      refine g_iconst (v := (1 : Int32)) dX12_isKept_70 (by decide) ?_
      cases h
      exact g_iret dX12_isKept_71 rfl rfl hq
    · replace h := z_iff (z_tb0.mp c6) h
      refine g_aload_n dX12_isKept_14 rfl rfl ?_
      obtain ⟨q7, e8, h⟩ := z_bd h
      refine g_callV (a := 137) (as := []) (rest := []) (c := mX12_isWar) (k1 := 1) dX12_isKept_15 rfl rfl rfl sh_137 rfl rfl (Nat.le_of_ble_eq_true rfl) (Nat.le_of_ble_eq_true rfl) (by decide) ?_
      refine A_X12_isWar e8 ?_
      show z_G none 3 mX12_isKept 18 [some (.ref 139)] [.int (z_tb q7.1)] q7.2 Q
      refine g_if_ne (t := 70) dX12_isKept_18 (by decide) (fun c9 => ?_) (fun c9 => ?_)
      · replace h := z_ift (z_tbn.mp c9) h
        refine g_iconst (v := (1 : Int32)) dX12_isKept_70 (by decide) ?_
        cases h
        exact g_iret dX12_isKept_71 rfl rfl hq
      · replace h := z_iff (z_tb0.mp c9) h
        refine g_aload_n dX12_isKept_21 rfl rfl ?_
        obtain ⟨q10, e11, h⟩ := z_bd h
        refine g_callV (a := 137) (as := []) (rest := []) (c := mX12_isRight) (k1 := 1) dX12_isKept_22 rfl rfl rfl sh_137 rfl rfl (Nat.le_of_ble_eq_true rfl) (Nat.le_of_ble_eq_true rfl) (by decide) ?_
        refine A_X12_isRight e11 ?_
        show z_G none 3 mX12_isKept 25 [some (.ref 139)] [.int (z_tb q10.1)] q10.2 Q
        refine g_if_ne (t := 70) dX12_isKept_25 (by decide) (fun c12 => ?_) (fun c12 => ?_)
        · replace h := z_ift (z_tbn.mp c12) h
          refine g_iconst (v := (1 : Int32)) dX12_isKept_70 (by decide) ?_
          cases h
          exact g_iret dX12_isKept_71 rfl rfl hq
        · replace h := z_iff (z_tb0.mp c12) h
          refine g_aload_n dX12_isKept_28 rfl rfl ?_
          obtain ⟨q13, e14, h⟩ := z_bd h
          refine g_callV (a := 137) (as := []) (rest := []) (c := mX12_isWorth) (k1 := 1) dX12_isKept_29 rfl rfl rfl sh_137 rfl rfl (Nat.le_of_ble_eq_true rfl) (Nat.le_of_ble_eq_true rfl) (by decide) ?_
          refine A_X12_isWorth e14 ?_
          show z_G none 3 mX12_isKept 32 [some (.ref 139)] [.int (z_tb q13.1)] q13.2 Q
          refine g_if_ne (t := 70) dX12_isKept_32 (by decide) (fun c15 => ?_) (fun c15 => ?_)
          · replace h := z_ift (z_tbn.mp c15) h
            refine g_iconst (v := (1 : Int32)) dX12_isKept_70 (by decide) ?_
            cases h
            exact g_iret dX12_isKept_71 rfl rfl hq
          · replace h := z_iff (z_tb0.mp c15) h
            refine g_aload_n dX12_isKept_35 rfl rfl ?_
            obtain ⟨q16, e17, h⟩ := z_bd h
            refine g_callV (a := 137) (as := []) (rest := []) (c := mX12_isInWord) (k1 := 1) dX12_isKept_36 rfl rfl rfl sh_137 rfl rfl (Nat.le_of_ble_eq_true rfl) (Nat.le_of_ble_eq_true rfl) (by decide) ?_
            refine A_X12_isInWord e17 ?_
            show z_G none 3 mX12_isKept 39 [some (.ref 139)] [.int (z_tb q16.1)] q16.2 Q
            refine g_if_ne (t := 70) dX12_isKept_39 (by decide) (fun c18 => ?_) (fun c18 => ?_)
            · replace h := z_ift (z_tbn.mp c18) h
              refine g_iconst (v := (1 : Int32)) dX12_isKept_70 (by decide) ?_
              cases h
              exact g_iret dX12_isKept_71 rfl rfl hq
            · replace h := z_iff (z_tb0.mp c18) h
              refine g_aload_n dX12_isKept_42 rfl rfl ?_
              obtain ⟨q19, e20, h⟩ := z_bd h
              refine g_callV (a := 137) (as := []) (rest := []) (c := mX12_isDebt) (k1 := 1) dX12_isKept_43 rfl rfl rfl sh_137 rfl rfl (Nat.le_of_ble_eq_true rfl) (Nat.le_of_ble_eq_true rfl) (by decide) ?_
              refine A_X12_isDebt e20 ?_
              show z_G none 3 mX12_isKept 46 [some (.ref 139)] [.int (z_tb q19.1)] q19.2 Q
              refine g_if_ne (t := 70) dX12_isKept_46 (by decide) (fun c21 => ?_) (fun c21 => ?_)
              · replace h := z_ift (z_tbn.mp c21) h
                refine g_iconst (v := (1 : Int32)) dX12_isKept_70 (by decide) ?_
                cases h
                exact g_iret dX12_isKept_71 rfl rfl hq
              · replace h := z_iff (z_tb0.mp c21) h
                refine g_aload_n dX12_isKept_49 rfl rfl ?_
                obtain ⟨q22, e23, h⟩ := z_bd h
                refine g_callV (a := 137) (as := []) (rest := []) (c := mX12_isSum) (k1 := 1) dX12_isKept_50 rfl rfl rfl sh_137 rfl rfl (Nat.le_of_ble_eq_true rfl) (Nat.le_of_ble_eq_true rfl) (by decide) ?_
                refine A_X12_isSum e23 ?_
                show z_G none 3 mX12_isKept 53 [some (.ref 139)] [.int (z_tb q22.1)] q22.2 Q
                refine g_if_ne (t := 70) dX12_isKept_53 (by decide) (fun c24 => ?_) (fun c24 => ?_)
                · replace h := z_ift (z_tbn.mp c24) h
                  refine g_iconst (v := (1 : Int32)) dX12_isKept_70 (by decide) ?_
                  cases h
                  exact g_iret dX12_isKept_71 rfl rfl hq
                · replace h := z_iff (z_tb0.mp c24) h
                  refine g_aload_n dX12_isKept_56 rfl rfl ?_
                  obtain ⟨q25, e26, h⟩ := z_bd h
                  refine g_callV (a := 137) (as := []) (rest := []) (c := mX12_isLeft) (k1 := 1) dX12_isKept_57 rfl rfl rfl sh_137 rfl rfl (Nat.le_of_ble_eq_true rfl) (Nat.le_of_ble_eq_true rfl) (by decide) ?_
                  refine A_X12_isLeft e26 ?_
                  show z_G none 3 mX12_isKept 60 [some (.ref 139)] [.int (z_tb q25.1)] q25.2 Q
                  refine g_if_ne (t := 70) dX12_isKept_60 (by decide) (fun c27 => ?_) (fun c27 => ?_)
                  · replace h := z_ift (z_tbn.mp c27) h
                    refine g_iconst (v := (1 : Int32)) dX12_isKept_70 (by decide) ?_
                    cases h
                    exact g_iret dX12_isKept_71 rfl rfl hq
                  · replace h := z_iff (z_tb0.mp c27) h
                    refine g_aload_n dX12_isKept_63 rfl rfl ?_
                    obtain ⟨q28, e29, h⟩ := z_bd h
                    refine g_callV (a := 137) (as := []) (rest := []) (c := mX12_isAsk) (k1 := 1) dX12_isKept_64 rfl rfl rfl sh_137 rfl rfl (Nat.le_of_ble_eq_true rfl) (Nat.le_of_ble_eq_true rfl) (by decide) ?_
                    refine A_X12_isAsk e29 ?_
                    show z_G none 3 mX12_isKept 67 [some (.ref 139)] [.int (z_tb q28.1)] q28.2 Q
                    refine g_if_eq (t := 72) dX12_isKept_67 (by decide) (fun c30 => ?_) (fun c30 => ?_)
                    · replace h := z_iff (z_tb0.mp c30) h
                      refine g_aload_n dX12_isKept_72 rfl rfl ?_
                      obtain ⟨q31, e32, h⟩ := z_bd h
                      refine g_callV (a := 137) (as := []) (rest := []) (c := mX12_isClause) (k1 := 1) dX12_isKept_73 rfl rfl rfl sh_137 rfl rfl (Nat.le_of_ble_eq_true rfl) (Nat.le_of_ble_eq_true rfl) (by decide) ?_
                      refine A_X12_isClause e32 ?_
                      show z_G none 3 mX12_isKept 76 [some (.ref 139)] [.int (z_tb q31.1)] q31.2 Q
                      refine g_if_ne (t := 100) dX12_isKept_76 (by decide) (fun c33 => ?_) (fun c33 => ?_)
                      · replace h := z_ift (z_tbn.mp c33) h
                        refine g_iconst (v := (1 : Int32)) dX12_isKept_100 (by decide) ?_
                        cases h
                        exact g_iret dX12_isKept_101 rfl rfl hq
                      · replace h := z_iff (z_tb0.mp c33) h
                        refine g_aload_n dX12_isKept_79 rfl rfl ?_
                        obtain ⟨q34, e35, h⟩ := z_bd h
                        refine g_callV (a := 137) (as := []) (rest := []) (c := mX12_isNot) (k1 := 1) dX12_isKept_80 rfl rfl rfl sh_137 rfl rfl (Nat.le_of_ble_eq_true rfl) (Nat.le_of_ble_eq_true rfl) (by decide) ?_
                        refine A_X12_isNot e35 ?_
                        show z_G none 3 mX12_isKept 83 [some (.ref 139)] [.int (z_tb q34.1)] q34.2 Q
                        refine g_if_ne (t := 100) dX12_isKept_83 (by decide) (fun c36 => ?_) (fun c36 => ?_)
                        · replace h := z_ift (z_tbn.mp c36) h
                          refine g_iconst (v := (1 : Int32)) dX12_isKept_100 (by decide) ?_
                          cases h
                          exact g_iret dX12_isKept_101 rfl rfl hq
                        · replace h := z_iff (z_tb0.mp c36) h
                          refine g_aload_n dX12_isKept_86 rfl rfl ?_
                          obtain ⟨q37, e38, h⟩ := z_bd h
                          refine g_callV (a := 137) (as := []) (rest := []) (c := mX12_isWitness) (k1 := 1) dX12_isKept_87 rfl rfl rfl sh_137 rfl rfl (Nat.le_of_ble_eq_true rfl) (Nat.le_of_ble_eq_true rfl) (by decide) ?_
                          refine A_X12_isWitness e38 ?_
                          show z_G none 3 mX12_isKept 90 [some (.ref 139)] [.int (z_tb q37.1)] q37.2 Q
                          refine g_if_ne (t := 100) dX12_isKept_90 (by decide) (fun c39 => ?_) (fun c39 => ?_)
                          · replace h := z_ift (z_tbn.mp c39) h
                            refine g_iconst (v := (1 : Int32)) dX12_isKept_100 (by decide) ?_
                            cases h
                            exact g_iret dX12_isKept_101 rfl rfl hq
                          · replace h := z_iff (z_tb0.mp c39) h
                            refine g_aload_n dX12_isKept_93 rfl rfl ?_
                            obtain ⟨q40, e41, h⟩ := z_bd h
                            refine g_callV (a := 137) (as := []) (rest := []) (c := mX12_isEnd) (k1 := 1) dX12_isKept_94 rfl rfl rfl sh_137 rfl rfl (Nat.le_of_ble_eq_true rfl) (Nat.le_of_ble_eq_true rfl) (by decide) ?_
                            refine A_X12_isEnd e41 ?_
                            show z_G none 3 mX12_isKept 97 [some (.ref 139)] [.int (z_tb q40.1)] q40.2 Q
                            refine g_if_eq (t := 102) dX12_isKept_97 (by decide) (fun c42 => ?_) (fun c42 => ?_)
                            · replace h := z_iff (z_tb0.mp c42) h
                              refine g_aload_n dX12_isKept_102 rfl rfl ?_
                              obtain ⟨q43, e44, h⟩ := z_bd h
                              refine g_callV (a := 137) (as := []) (rest := []) (c := mX12_sideWord) (k1 := 1) dX12_isKept_103 rfl rfl rfl sh_137 rfl rfl (Nat.le_of_ble_eq_true rfl) (Nat.le_of_ble_eq_true rfl) (by decide) ?_
                              refine A_X12_sideWord e44 ?_
                              show z_G none 3 mX12_isKept 106 [some (.ref 139)] [.int q43.1] q43.2 Q
                              refine g_if_ge (t := 130) dX12_isKept_106 (by decide) (fun c45 => ?_) (fun c45 => ?_)
                              · replace h := z_ift c45 h
                                refine g_iconst (v := (1 : Int32)) dX12_isKept_130 (by decide) ?_
                                refine g_goto (t := 135) dX12_isKept_131 (by decide) ?_
                                cases h
                                exact g_iret dX12_isKept_135 rfl rfl hq
                              · replace h := z_iff c45 h
                                refine g_aload_n dX12_isKept_109 rfl rfl ?_
                                obtain ⟨q46, e47, h⟩ := z_bd h
                                refine g_callV (a := 137) (as := []) (rest := []) (c := mX12_kindWord) (k1 := 1) dX12_isKept_110 rfl rfl rfl sh_137 rfl rfl (Nat.le_of_ble_eq_true rfl) (Nat.le_of_ble_eq_true rfl) (by decide) ?_
                                refine A_X12_kindWord e47 ?_
                                show z_G none 3 mX12_isKept 113 [some (.ref 139)] [.int q46.1] q46.2 Q
                                refine g_if_ge (t := 130) dX12_isKept_113 (by decide) (fun c48 => ?_) (fun c48 => ?_)
                                · replace h := z_ift c48 h
                                  refine g_iconst (v := (1 : Int32)) dX12_isKept_130 (by decide) ?_
                                  refine g_goto (t := 135) dX12_isKept_131 (by decide) ?_
                                  cases h
                                  exact g_iret dX12_isKept_135 rfl rfl hq
                                · replace h := z_iff c48 h
                                  refine g_aload_n dX12_isKept_116 rfl rfl ?_
                                  obtain ⟨q49, e50, h⟩ := z_bd h
                                  refine g_callV (a := 137) (as := []) (rest := []) (c := mX12_stepWord) (k1 := 1) dX12_isKept_117 rfl rfl rfl sh_137 rfl rfl (Nat.le_of_ble_eq_true rfl) (Nat.le_of_ble_eq_true rfl) (by decide) ?_
                                  refine A_X12_stepWord e50 ?_
                                  show z_G none 3 mX12_isKept 120 [some (.ref 139)] [.int q49.1] q49.2 Q
                                  refine g_if_ge (t := 130) dX12_isKept_120 (by decide) (fun c51 => ?_) (fun c51 => ?_)
                                  · replace h := z_ift c51 h
                                    refine g_iconst (v := (1 : Int32)) dX12_isKept_130 (by decide) ?_
                                    refine g_goto (t := 135) dX12_isKept_131 (by decide) ?_
                                    cases h
                                    exact g_iret dX12_isKept_135 rfl rfl hq
                                  · replace h := z_iff c51 h
                                    refine g_aload_n dX12_isKept_123 rfl rfl ?_
                                    obtain ⟨q52, e53, h⟩ := z_bd h
                                    refine g_callV (a := 137) (as := []) (rest := []) (c := mX12_testWord) (k1 := 2) dX12_isKept_124 rfl rfl rfl sh_137 rfl rfl (Nat.le_of_ble_eq_true rfl) (Nat.le_of_ble_eq_true rfl) (by decide) ?_
                                    refine A_X12_testWord e53 ?_
                                    show z_G none 3 mX12_isKept 127 [some (.ref 139)] [.int q52.1] q52.2 Q
                                    refine g_if_lt (t := 134) dX12_isKept_127 (by decide) (fun c54 => ?_) (fun c54 => ?_)
                                    · replace h := z_ift c54 h
                                      refine g_iconst (v := (0 : Int32)) dX12_isKept_134 (by decide) ?_
                                      cases h
                                      exact g_iret dX12_isKept_135 rfl rfl hq
                                    · replace h := z_iff c54 h
                                      refine g_iconst (v := (1 : Int32)) dX12_isKept_130 (by decide) ?_
                                      refine g_goto (t := 135) dX12_isKept_131 (by decide) ?_
                                      cases h
                                      exact g_iret dX12_isKept_135 rfl rfl hq
                            · replace h := z_ift (z_tbn.mp c42) h
                              refine g_iconst (v := (1 : Int32)) dX12_isKept_100 (by decide) ?_
                              cases h
                              exact g_iret dX12_isKept_101 rfl rfl hq
                    · replace h := z_ift (z_tbn.mp c30) h
                      refine g_iconst (v := (1 : Int32)) dX12_isKept_70 (by decide) ?_
                      cases h
                      exact g_iret dX12_isKept_71 rfl rfl hq
theorem dX12_isName_0 : decode cX12_isName 0 = .ok (.aload_n 0, 1) := by decide +kernel
theorem dX12_isName_1 : decode cX12_isName 1 = .ok (.getfield 112, 3) := by decide +kernel
theorem dX12_isName_4 : decode cX12_isName 4 = .ok (.iconst 1, 1) := by decide +kernel
theorem dX12_isName_5 : decode cX12_isName 5 = .ok (.if_icmp .ne 23, 3) := by decide +kernel
theorem dX12_isName_8 : decode cX12_isName 8 = .ok (.aload_n 0, 1) := by decide +kernel
theorem dX12_isName_9 : decode cX12_isName 9 = .ok (.getfield 125, 3) := by decide +kernel
theorem dX12_isName_12 : decode cX12_isName 12 = .ok (.bipush 8, 2) := by decide +kernel
theorem dX12_isName_14 : decode cX12_isName 14 = .ok (.if_icmp .gt 14, 3) := by decide +kernel
theorem dX12_isName_17 : decode cX12_isName 17 = .ok (.aload_n 0, 1) := by decide +kernel
theorem dX12_isName_18 : decode cX12_isName 18 = .ok (.invokevirtual 209, 3) := by decide +kernel
theorem dX12_isName_21 : decode cX12_isName 21 = .ok (.ifCond .ne 7, 3) := by decide +kernel
theorem dX12_isName_24 : decode cX12_isName 24 = .ok (.iconst 1, 1) := by decide +kernel
theorem dX12_isName_25 : decode cX12_isName 25 = .ok (.goto 4, 3) := by decide +kernel
theorem dX12_isName_28 : decode cX12_isName 28 = .ok (.iconst 0, 1) := by decide +kernel
theorem dX12_isName_29 : decode cX12_isName 29 = .ok (.ireturn, 1) := by decide +kernel
def F_X12_isName (w : Nat) (M : z_Mem) : Option (Bool × z_Mem) :=
  if (M.1 137 14) = (1 : Int32) then
  if (8 : Int32) < (M.1 137 18) then
  some (false, M)
  else
  (F_X12_isKept w M).bind fun q3 =>
  if q3.1 = true then
  some (false, q3.2)
  else
  some (true, q3.2)
  else
  some (false, M)
set_option maxHeartbeats 4000000 in
theorem A_X12_isName {w : Nat} {M : z_Mem} {r : Bool} {M' : z_Mem} {Q : Option Value → z_Mem → Prop} (h : F_X12_isName w M = some (r, M')) (hq : Q (some (.int (z_tb r))) M') : z_Cl 4 mX12_isName [.ref 139] M Q := by
  refine g_in (ls := [some (.ref 139)]) rfl ?_
  unfold F_X12_isName at h
  refine g_aload_n dX12_isName_0 rfl rfl ?_
  refine g_get (a := 137) (v := .int (M.1 137 14)) dX12_isName_1 f_12_112 sh_137 rfl rfl ?_
  refine g_iconst (v := (1 : Int32)) dX12_isName_4 (by decide) ?_
  refine g_ic_ne (t := 28) dX12_isName_5 (by decide) (fun c1 => ?_) (fun c1 => ?_)
  · replace h := z_iff c1 h
    refine g_iconst (v := (0 : Int32)) dX12_isName_28 (by decide) ?_
    cases h
    exact g_iret dX12_isName_29 rfl rfl hq
  · replace h := z_ift c1 h
    refine g_aload_n dX12_isName_8 rfl rfl ?_
    refine g_get (a := 137) (v := .int (M.1 137 18)) dX12_isName_9 f_12_125 sh_137 rfl rfl ?_
    refine g_bipush (v := (8 : Int32)) dX12_isName_12 (by decide) ?_
    refine g_ic_gt (t := 28) dX12_isName_14 (by decide) (fun c2 => ?_) (fun c2 => ?_)
    · replace h := z_ift c2 h
      refine g_iconst (v := (0 : Int32)) dX12_isName_28 (by decide) ?_
      cases h
      exact g_iret dX12_isName_29 rfl rfl hq
    · replace h := z_iff c2 h
      refine g_aload_n dX12_isName_17 rfl rfl ?_
      obtain ⟨q3, e4, h⟩ := z_bd h
      refine g_callV (a := 137) (as := []) (rest := []) (c := mX12_isKept) (k1 := 3) dX12_isName_18 rfl rfl rfl sh_137 rfl rfl (Nat.le_of_ble_eq_true rfl) (Nat.le_of_ble_eq_true rfl) (by decide) ?_
      refine A_X12_isKept e4 ?_
      show z_G none 4 mX12_isName 21 [some (.ref 139)] [.int (z_tb q3.1)] q3.2 Q
      refine g_if_ne (t := 28) dX12_isName_21 (by decide) (fun c5 => ?_) (fun c5 => ?_)
      · replace h := z_ift (z_tbn.mp c5) h
        refine g_iconst (v := (0 : Int32)) dX12_isName_28 (by decide) ?_
        cases h
        exact g_iret dX12_isName_29 rfl rfl hq
      · replace h := z_iff (z_tb0.mp c5) h
        refine g_iconst (v := (1 : Int32)) dX12_isName_24 (by decide) ?_
        refine g_goto (t := 29) dX12_isName_25 (by decide) ?_
        cases h
        exact g_iret dX12_isName_29 rfl rfl hq
theorem dX12_fail_0 : decode cX12_fail 0 = .ok (.aload_n 0, 1) := by decide +kernel
theorem dX12_fail_1 : decode cX12_fail 1 = .ok (.getfield 212, 3) := by decide +kernel
theorem dX12_fail_4 : decode cX12_fail 4 = .ok (.ifCond .le 4, 3) := by decide +kernel
theorem dX12_fail_7 : decode cX12_fail 7 = .ok (.return_, 1) := by decide +kernel
theorem dX12_fail_8 : decode cX12_fail 8 = .ok (.aload_n 0, 1) := by decide +kernel
theorem dX12_fail_9 : decode cX12_fail 9 = .ok (.iload_n 1, 1) := by decide +kernel
theorem dX12_fail_10 : decode cX12_fail 10 = .ok (.putfield 212, 3) := by decide +kernel
theorem dX12_fail_13 : decode cX12_fail 13 = .ok (.aload_n 0, 1) := by decide +kernel
theorem dX12_fail_14 : decode cX12_fail 14 = .ok (.iload_n 2, 1) := by decide +kernel
theorem dX12_fail_15 : decode cX12_fail 15 = .ok (.putfield 215, 3) := by decide +kernel
theorem dX12_fail_18 : decode cX12_fail 18 = .ok (.return_, 1) := by decide +kernel
def F_X12_fail (w : Nat) (M : z_Mem) (a1 : Int32) (a2 : Int32) : Option (Unit × z_Mem) :=
  if (M.1 137 12) ≤ (0 : Int32) then
  some ((), (z_wI (z_wI M 137 12 a1) 137 13 a2))
  else
  some ((), M)
set_option maxHeartbeats 4000000 in
theorem A_X12_fail {w : Nat} {M : z_Mem} {a1 : Int32} {a2 : Int32} {r : Unit} {M' : z_Mem} {Q : Option Value → z_Mem → Prop} (h : F_X12_fail w M a1 a2 = some (r, M')) (hq : Q none M') : z_Cl 0 mX12_fail [.ref 139, .int a1, .int a2] M Q := by
  refine g_in (ls := [some (.ref 139), some (.int a1), some (.int a2)]) rfl ?_
  unfold F_X12_fail at h
  refine g_aload_n dX12_fail_0 rfl rfl ?_
  refine g_get (a := 137) (v := .int (M.1 137 12)) dX12_fail_1 f_12_212 sh_137 rfl rfl ?_
  refine g_if_le (t := 8) dX12_fail_4 (by decide) (fun c1 => ?_) (fun c1 => ?_)
  · replace h := z_ift c1 h
    refine g_aload_n dX12_fail_8 rfl rfl ?_
    refine g_iload_n dX12_fail_9 rfl rfl ?_
    refine g_putI (a := 137) dX12_fail_10 f_12_212 sh_137 rfl rfl rfl ?_
    refine g_aload_n dX12_fail_13 rfl rfl ?_
    refine g_iload_n dX12_fail_14 rfl rfl ?_
    refine g_putI (a := 137) dX12_fail_15 f_12_215 sh_137 rfl rfl rfl ?_
    cases h
    exact g_vret dX12_fail_18 rfl hq
  · replace h := z_iff c1 h
    cases h
    exact g_vret dX12_fail_7 rfl hq
theorem dX12_amiss_0 : decode cX12_amiss 0 = .ok (.aload_n 0, 1) := by decide +kernel
theorem dX12_amiss_1 : decode cX12_amiss 1 = .ok (.aload_n 0, 1) := by decide +kernel
theorem dX12_amiss_2 : decode cX12_amiss 2 = .ok (.getfield 112, 3) := by decide +kernel
theorem dX12_amiss_5 : decode cX12_amiss 5 = .ok (.iconst 4, 1) := by decide +kernel
theorem dX12_amiss_6 : decode cX12_amiss 6 = .ok (.if_icmp .ne 7, 3) := by decide +kernel
theorem dX12_amiss_9 : decode cX12_amiss 9 = .ok (.iconst 1, 1) := by decide +kernel
theorem dX12_amiss_10 : decode cX12_amiss 10 = .ok (.goto 4, 3) := by decide +kernel
theorem dX12_amiss_13 : decode cX12_amiss 13 = .ok (.iconst 2, 1) := by decide +kernel
theorem dX12_amiss_14 : decode cX12_amiss 14 = .ok (.aload_n 0, 1) := by decide +kernel
theorem dX12_amiss_15 : decode cX12_amiss 15 = .ok (.getfield 106, 3) := by decide +kernel
theorem dX12_amiss_18 : decode cX12_amiss 18 = .ok (.invokevirtual 218, 3) := by decide +kernel
theorem dX12_amiss_21 : decode cX12_amiss 21 = .ok (.return_, 1) := by decide +kernel
def F_X12_amiss (w : Nat) (M : z_Mem) : Option (Unit × z_Mem) :=
  if (M.1 137 14) = (4 : Int32) then
  (F_X12_fail w M (1 : Int32) (M.1 137 15)).bind fun q4 =>
  some ((), q4.2)
  else
  (F_X12_fail w M (2 : Int32) (M.1 137 15)).bind fun q2 =>
  some ((), q2.2)
set_option maxHeartbeats 4000000 in
theorem A_X12_amiss {w : Nat} {M : z_Mem} {r : Unit} {M' : z_Mem} {Q : Option Value → z_Mem → Prop} (h : F_X12_amiss w M = some (r, M')) (hq : Q none M') : z_Cl 1 mX12_amiss [.ref 139] M Q := by
  refine g_in (ls := [some (.ref 139)]) rfl ?_
  unfold F_X12_amiss at h
  refine g_aload_n dX12_amiss_0 rfl rfl ?_
  refine g_aload_n dX12_amiss_1 rfl rfl ?_
  refine g_get (a := 137) (v := .int (M.1 137 14)) dX12_amiss_2 f_12_112 sh_137 rfl rfl ?_
  refine g_iconst (v := (4 : Int32)) dX12_amiss_5 (by decide) ?_
  refine g_ic_ne (t := 13) dX12_amiss_6 (by decide) (fun c1 => ?_) (fun c1 => ?_)
  · replace h := z_iff c1 h
    refine g_iconst (v := (2 : Int32)) dX12_amiss_13 (by decide) ?_
    refine g_aload_n dX12_amiss_14 rfl rfl ?_
    refine g_get (a := 137) (v := .int (M.1 137 15)) dX12_amiss_15 f_12_106 sh_137 rfl rfl ?_
    obtain ⟨q2, e3, h⟩ := z_bd h
    refine g_callV (a := 137) (as := [.int (2 : Int32), .int (M.1 137 15)]) (rest := []) (c := mX12_fail) (k1 := 0) dX12_amiss_18 rfl rfl rfl sh_137 rfl rfl (Nat.le_of_ble_eq_true rfl) (Nat.le_of_ble_eq_true rfl) (by decide) ?_
    refine A_X12_fail e3 ?_
    show z_G none 1 mX12_amiss 21 [some (.ref 139)] [] q2.2 Q
    cases h
    exact g_vret dX12_amiss_21 rfl hq
  · replace h := z_ift c1 h
    refine g_iconst (v := (1 : Int32)) dX12_amiss_9 (by decide) ?_
    refine g_goto (t := 14) dX12_amiss_10 (by decide) ?_
    refine g_aload_n dX12_amiss_14 rfl rfl ?_
    refine g_get (a := 137) (v := .int (M.1 137 15)) dX12_amiss_15 f_12_106 sh_137 rfl rfl ?_
    obtain ⟨q4, e5, h⟩ := z_bd h
    refine g_callV (a := 137) (as := [.int (1 : Int32), .int (M.1 137 15)]) (rest := []) (c := mX12_fail) (k1 := 0) dX12_amiss_18 rfl rfl rfl sh_137 rfl rfl (Nat.le_of_ble_eq_true rfl) (Nat.le_of_ble_eq_true rfl) (by decide) ?_
    refine A_X12_fail e5 ?_
    show z_G none 1 mX12_amiss 21 [some (.ref 139)] [] q4.2 Q
    cases h
    exact g_vret dX12_amiss_21 rfl hq
theorem dX12_must_0 : decode cX12_must 0 = .ok (.aload_n 0, 1) := by decide +kernel
theorem dX12_must_1 : decode cX12_must 1 = .ok (.getfield 212, 3) := by decide +kernel
theorem dX12_must_4 : decode cX12_must 4 = .ok (.ifCond .le 4, 3) := by decide +kernel
theorem dX12_must_7 : decode cX12_must 7 = .ok (.return_, 1) := by decide +kernel
theorem dX12_must_8 : decode cX12_must 8 = .ok (.iload_n 1, 1) := by decide +kernel
theorem dX12_must_9 : decode cX12_must 9 = .ok (.ifCond .eq 10, 3) := by decide +kernel
theorem dX12_must_12 : decode cX12_must 12 = .ok (.aload_n 0, 1) := by decide +kernel
theorem dX12_must_13 : decode cX12_must 13 = .ok (.invokevirtual 222, 3) := by decide +kernel
theorem dX12_must_16 : decode cX12_must 16 = .ok (.goto 7, 3) := by decide +kernel
theorem dX12_must_19 : decode cX12_must 19 = .ok (.aload_n 0, 1) := by decide +kernel
theorem dX12_must_20 : decode cX12_must 20 = .ok (.invokevirtual 225, 3) := by decide +kernel
theorem dX12_must_23 : decode cX12_must 23 = .ok (.return_, 1) := by decide +kernel
def F_X12_must (w : Nat) (M : z_Mem) (a1 : Int32) : Option (Unit × z_Mem) :=
  if (M.1 137 12) ≤ (0 : Int32) then
  if a1 = (0 : Int32) then
  (F_X12_amiss w M).bind fun q3 =>
  some ((), q3.2)
  else
  (F_X12_advance w M).bind fun q5 =>
  some ((), q5.2)
  else
  some ((), M)
set_option maxHeartbeats 4000000 in
theorem A_X12_must {w : Nat} {M : z_Mem} {a1 : Int32} {r : Unit} {M' : z_Mem} {Q : Option Value → z_Mem → Prop} (h : F_X12_must w M a1 = some (r, M')) (hq : Q none M') : z_Cl 2 mX12_must [.ref 139, .int a1] M Q := by
  refine g_in (ls := [some (.ref 139), some (.int a1)]) rfl ?_
  unfold F_X12_must at h
  refine g_aload_n dX12_must_0 rfl rfl ?_
  refine g_get (a := 137) (v := .int (M.1 137 12)) dX12_must_1 f_12_212 sh_137 rfl rfl ?_
  refine g_if_le (t := 8) dX12_must_4 (by decide) (fun c1 => ?_) (fun c1 => ?_)
  · replace h := z_ift c1 h
    refine g_iload_n dX12_must_8 rfl rfl ?_
    refine g_if_eq (t := 19) dX12_must_9 (by decide) (fun c2 => ?_) (fun c2 => ?_)
    · replace h := z_ift c2 h
      refine g_aload_n dX12_must_19 rfl rfl ?_
      obtain ⟨q3, e4, h⟩ := z_bd h
      refine g_callV (a := 137) (as := []) (rest := []) (c := mX12_amiss) (k1 := 1) dX12_must_20 rfl rfl rfl sh_137 rfl rfl (Nat.le_of_ble_eq_true rfl) (Nat.le_of_ble_eq_true rfl) (by decide) ?_
      refine A_X12_amiss e4 ?_
      show z_G none 2 mX12_must 23 [some (.ref 139), some (.int a1)] [] q3.2 Q
      cases h
      exact g_vret dX12_must_23 rfl hq
    · replace h := z_iff c2 h
      refine g_aload_n dX12_must_12 rfl rfl ?_
      obtain ⟨q5, e6, h⟩ := z_bd h
      refine g_callV (a := 137) (as := []) (rest := []) (c := mX12_advance) (k1 := 1) dX12_must_13 rfl rfl rfl sh_137 rfl rfl (Nat.le_of_ble_eq_true rfl) (Nat.le_of_ble_eq_true rfl) (by decide) ?_
      refine A_X12_advance e6 ?_
      show z_G none 2 mX12_must 16 [some (.ref 139), some (.int a1)] [] q5.2 Q
      refine g_goto (t := 23) dX12_must_16 (by decide) ?_
      cases h
      exact g_vret dX12_must_23 rfl hq
  · replace h := z_iff c1 h
    cases h
    exact g_vret dX12_must_7 rfl hq
theorem dX12_count_0 : decode cX12_count 0 = .ok (.aload_n 0, 1) := by decide +kernel
theorem dX12_count_1 : decode cX12_count 1 = .ok (.getfield 212, 3) := by decide +kernel
theorem dX12_count_4 : decode cX12_count 4 = .ok (.ifCond .ne 15, 3) := by decide +kernel
theorem dX12_count_7 : decode cX12_count 7 = .ok (.aload_n 0, 1) := by decide +kernel
theorem dX12_count_8 : decode cX12_count 8 = .ok (.getfield 112, 3) := by decide +kernel
theorem dX12_count_11 : decode cX12_count 11 = .ok (.iconst 2, 1) := by decide +kernel
theorem dX12_count_12 : decode cX12_count 12 = .ok (.if_icmp .eq 7, 3) := by decide +kernel
theorem dX12_count_15 : decode cX12_count 15 = .ok (.aload_n 0, 1) := by decide +kernel
theorem dX12_count_16 : decode cX12_count 16 = .ok (.invokevirtual 225, 3) := by decide +kernel
theorem dX12_count_19 : decode cX12_count 19 = .ok (.aload_n 0, 1) := by decide +kernel
theorem dX12_count_20 : decode cX12_count 20 = .ok (.getfield 212, 3) := by decide +kernel
theorem dX12_count_23 : decode cX12_count 23 = .ok (.ifCond .ne 27, 3) := by decide +kernel
theorem dX12_count_26 : decode cX12_count 26 = .ok (.aload_n 0, 1) := by decide +kernel
theorem dX12_count_27 : decode cX12_count 27 = .ok (.getfield 131, 3) := by decide +kernel
theorem dX12_count_30 : decode cX12_count 30 = .ok (.i2l, 1) := by decide +kernel
theorem dX12_count_31 : decode cX12_count 31 = .ok (.iload_n 1, 1) := by decide +kernel
theorem dX12_count_32 : decode cX12_count 32 = .ok (.i2l, 1) := by decide +kernel
theorem dX12_count_33 : decode cX12_count 33 = .ok (.iload_n 2, 1) := by decide +kernel
theorem dX12_count_34 : decode cX12_count 34 = .ok (.i2l, 1) := by decide +kernel
theorem dX12_count_35 : decode cX12_count 35 = .ok (.invokestatic 92, 3) := by decide +kernel
theorem dX12_count_38 : decode cX12_count 38 = .ok (.ifCond .ne 12, 3) := by decide +kernel
theorem dX12_count_41 : decode cX12_count 41 = .ok (.aload_n 0, 1) := by decide +kernel
theorem dX12_count_42 : decode cX12_count 42 = .ok (.iconst 4, 1) := by decide +kernel
theorem dX12_count_43 : decode cX12_count 43 = .ok (.aload_n 0, 1) := by decide +kernel
theorem dX12_count_44 : decode cX12_count 44 = .ok (.getfield 106, 3) := by decide +kernel
theorem dX12_count_47 : decode cX12_count 47 = .ok (.invokevirtual 218, 3) := by decide +kernel
theorem dX12_count_50 : decode cX12_count 50 = .ok (.aload_n 0, 1) := by decide +kernel
theorem dX12_count_51 : decode cX12_count 51 = .ok (.getfield 212, 3) := by decide +kernel
theorem dX12_count_54 : decode cX12_count 54 = .ok (.ifCond .le 5, 3) := by decide +kernel
theorem dX12_count_57 : decode cX12_count 57 = .ok (.iconst 0, 1) := by decide +kernel
theorem dX12_count_58 : decode cX12_count 58 = .ok (.ireturn, 1) := by decide +kernel
theorem dX12_count_59 : decode cX12_count 59 = .ok (.aload_n 0, 1) := by decide +kernel
theorem dX12_count_60 : decode cX12_count 60 = .ok (.getfield 131, 3) := by decide +kernel
theorem dX12_count_63 : decode cX12_count 63 = .ok (.istore_n 3, 1) := by decide +kernel
theorem dX12_count_64 : decode cX12_count 64 = .ok (.aload_n 0, 1) := by decide +kernel
theorem dX12_count_65 : decode cX12_count 65 = .ok (.invokevirtual 222, 3) := by decide +kernel
theorem dX12_count_68 : decode cX12_count 68 = .ok (.iload_n 3, 1) := by decide +kernel
theorem dX12_count_69 : decode cX12_count 69 = .ok (.ireturn, 1) := by decide +kernel
def F_X12_count (w : Nat) (M : z_Mem) (a1 : Int32) (a2 : Int32) : Option (Int32 × z_Mem) :=
  if (M.1 137 12) = (0 : Int32) then
  if (M.1 137 14) = (2 : Int32) then
  if (M.1 137 12) = (0 : Int32) then
  (F_X12_isIn w M ((M.1 137 17).toInt64) a1.toInt64 a2.toInt64).bind fun q22 =>
  if q22.1 = true then
  if (q22.2.1 137 12) ≤ (0 : Int32) then
  (F_X12_advance w q22.2).bind fun q26 =>
  some (q22.2.1 137 17, q26.2)
  else
  some ((0 : Int32), q22.2)
  else
  (F_X12_fail w q22.2 (4 : Int32) (q22.2.1 137 15)).bind fun q28 =>
  if (q28.2.1 137 12) ≤ (0 : Int32) then
  (F_X12_advance w q28.2).bind fun q31 =>
  some (q28.2.1 137 17, q31.2)
  else
  some ((0 : Int32), q28.2)
  else
  if (M.1 137 12) ≤ (0 : Int32) then
  (F_X12_advance w M).bind fun q20 =>
  some (M.1 137 17, q20.2)
  else
  some ((0 : Int32), M)
  else
  (F_X12_amiss w M).bind fun q33 =>
  if (q33.2.1 137 12) = (0 : Int32) then
  (F_X12_isIn w q33.2 ((q33.2.1 137 17).toInt64) a1.toInt64 a2.toInt64).bind fun q39 =>
  if q39.1 = true then
  if (q39.2.1 137 12) ≤ (0 : Int32) then
  (F_X12_advance w q39.2).bind fun q43 =>
  some (q39.2.1 137 17, q43.2)
  else
  some ((0 : Int32), q39.2)
  else
  (F_X12_fail w q39.2 (4 : Int32) (q39.2.1 137 15)).bind fun q45 =>
  if (q45.2.1 137 12) ≤ (0 : Int32) then
  (F_X12_advance w q45.2).bind fun q48 =>
  some (q45.2.1 137 17, q48.2)
  else
  some ((0 : Int32), q45.2)
  else
  if (q33.2.1 137 12) ≤ (0 : Int32) then
  (F_X12_advance w q33.2).bind fun q37 =>
  some (q33.2.1 137 17, q37.2)
  else
  some ((0 : Int32), q33.2)
  else
  if (M.1 137 12) = (0 : Int32) then
  (F_X12_isIn w M ((M.1 137 17).toInt64) a1.toInt64 a2.toInt64).bind fun q6 =>
  if q6.1 = true then
  if (q6.2.1 137 12) ≤ (0 : Int32) then
  (F_X12_advance w q6.2).bind fun q10 =>
  some (q6.2.1 137 17, q10.2)
  else
  some ((0 : Int32), q6.2)
  else
  (F_X12_fail w q6.2 (4 : Int32) (q6.2.1 137 15)).bind fun q12 =>
  if (q12.2.1 137 12) ≤ (0 : Int32) then
  (F_X12_advance w q12.2).bind fun q15 =>
  some (q12.2.1 137 17, q15.2)
  else
  some ((0 : Int32), q12.2)
  else
  if (M.1 137 12) ≤ (0 : Int32) then
  (F_X12_advance w M).bind fun q4 =>
  some (M.1 137 17, q4.2)
  else
  some ((0 : Int32), M)
set_option maxHeartbeats 4000000 in
theorem A_X12_count {w : Nat} {M : z_Mem} {a1 : Int32} {a2 : Int32} {r : Int32} {M' : z_Mem} {Q : Option Value → z_Mem → Prop} (h : F_X12_count w M a1 a2 = some (r, M')) (hq : Q (some (.int r)) M') : z_Cl 2 mX12_count [.ref 139, .int a1, .int a2] M Q := by
  refine g_in (ls := [some (.ref 139), some (.int a1), some (.int a2), none]) rfl ?_
  unfold F_X12_count at h
  refine g_aload_n dX12_count_0 rfl rfl ?_
  refine g_get (a := 137) (v := .int (M.1 137 12)) dX12_count_1 f_12_212 sh_137 rfl rfl ?_
  refine g_if_ne (t := 19) dX12_count_4 (by decide) (fun c1 => ?_) (fun c1 => ?_)
  · replace h := z_iff c1 h
    refine g_aload_n dX12_count_19 rfl rfl ?_
    refine g_get (a := 137) (v := .int (M.1 137 12)) dX12_count_20 f_12_212 sh_137 rfl rfl ?_
    refine g_if_ne (t := 50) dX12_count_23 (by decide) (fun c2 => ?_) (fun c2 => ?_)
    · replace h := z_iff c2 h
      refine g_aload_n dX12_count_50 rfl rfl ?_
      refine g_get (a := 137) (v := .int (M.1 137 12)) dX12_count_51 f_12_212 sh_137 rfl rfl ?_
      refine g_if_le (t := 59) dX12_count_54 (by decide) (fun c3 => ?_) (fun c3 => ?_)
      · replace h := z_ift c3 h
        refine g_aload_n dX12_count_59 rfl rfl ?_
        refine g_get (a := 137) (v := .int (M.1 137 17)) dX12_count_60 f_12_131 sh_137 rfl rfl ?_
        refine g_istore_n (ls' := [some (.ref 139), some (.int a1), some (.int a2), some (.int (M.1 137 17))]) dX12_count_63 rfl (Nat.le_of_ble_eq_true rfl) rfl ?_
        refine g_aload_n dX12_count_64 rfl rfl ?_
        obtain ⟨q4, e5, h⟩ := z_bd h
        refine g_callV (a := 137) (as := []) (rest := []) (c := mX12_advance) (k1 := 1) dX12_count_65 rfl rfl rfl sh_137 rfl rfl (Nat.le_of_ble_eq_true rfl) (Nat.le_of_ble_eq_true rfl) (by decide) ?_
        refine A_X12_advance e5 ?_
        show z_G none 2 mX12_count 68 [some (.ref 139), some (.int a1), some (.int a2), some (.int (M.1 137 17))] [] q4.2 Q
        refine g_iload_n dX12_count_68 rfl rfl ?_
        cases h
        exact g_iret dX12_count_69 rfl rfl hq
      · replace h := z_iff c3 h
        refine g_iconst (v := (0 : Int32)) dX12_count_57 (by decide) ?_
        cases h
        exact g_iret dX12_count_58 rfl rfl hq
    · replace h := z_ift c2 h
      refine g_aload_n dX12_count_26 rfl rfl ?_
      refine g_get (a := 137) (v := .int (M.1 137 17)) dX12_count_27 f_12_131 sh_137 rfl rfl ?_
      refine g_i2l dX12_count_30 ?_
      refine g_iload_n dX12_count_31 rfl rfl ?_
      refine g_i2l dX12_count_32 ?_
      refine g_iload_n dX12_count_33 rfl rfl ?_
      refine g_i2l dX12_count_34 ?_
      obtain ⟨q6, e7, h⟩ := z_bd h
      refine g_callS (as := [.long ((M.1 137 17).toInt64), .long a1.toInt64, .long a2.toInt64]) (rest := []) (c := mX12_isIn) (k1 := 0) dX12_count_35 rfl rfl rfl rfl rfl (Nat.le_of_ble_eq_true rfl) (Nat.le_of_ble_eq_true rfl) (by decide) ?_
      refine A_X12_isIn e7 ?_
      show z_G none 2 mX12_count 38 [some (.ref 139), some (.int a1), some (.int a2), none] [.int (z_tb q6.1)] q6.2 Q
      refine g_if_ne (t := 50) dX12_count_38 (by decide) (fun c8 => ?_) (fun c8 => ?_)
      · replace h := z_ift (z_tbn.mp c8) h
        refine g_aload_n dX12_count_50 rfl rfl ?_
        refine g_get (a := 137) (v := .int (q6.2.1 137 12)) dX12_count_51 f_12_212 sh_137 rfl rfl ?_
        refine g_if_le (t := 59) dX12_count_54 (by decide) (fun c9 => ?_) (fun c9 => ?_)
        · replace h := z_ift c9 h
          refine g_aload_n dX12_count_59 rfl rfl ?_
          refine g_get (a := 137) (v := .int (q6.2.1 137 17)) dX12_count_60 f_12_131 sh_137 rfl rfl ?_
          refine g_istore_n (ls' := [some (.ref 139), some (.int a1), some (.int a2), some (.int (q6.2.1 137 17))]) dX12_count_63 rfl (Nat.le_of_ble_eq_true rfl) rfl ?_
          refine g_aload_n dX12_count_64 rfl rfl ?_
          obtain ⟨q10, e11, h⟩ := z_bd h
          refine g_callV (a := 137) (as := []) (rest := []) (c := mX12_advance) (k1 := 1) dX12_count_65 rfl rfl rfl sh_137 rfl rfl (Nat.le_of_ble_eq_true rfl) (Nat.le_of_ble_eq_true rfl) (by decide) ?_
          refine A_X12_advance e11 ?_
          show z_G none 2 mX12_count 68 [some (.ref 139), some (.int a1), some (.int a2), some (.int (q6.2.1 137 17))] [] q10.2 Q
          refine g_iload_n dX12_count_68 rfl rfl ?_
          cases h
          exact g_iret dX12_count_69 rfl rfl hq
        · replace h := z_iff c9 h
          refine g_iconst (v := (0 : Int32)) dX12_count_57 (by decide) ?_
          cases h
          exact g_iret dX12_count_58 rfl rfl hq
      · replace h := z_iff (z_tb0.mp c8) h
        refine g_aload_n dX12_count_41 rfl rfl ?_
        refine g_iconst (v := (4 : Int32)) dX12_count_42 (by decide) ?_
        refine g_aload_n dX12_count_43 rfl rfl ?_
        refine g_get (a := 137) (v := .int (q6.2.1 137 15)) dX12_count_44 f_12_106 sh_137 rfl rfl ?_
        obtain ⟨q12, e13, h⟩ := z_bd h
        refine g_callV (a := 137) (as := [.int (4 : Int32), .int (q6.2.1 137 15)]) (rest := []) (c := mX12_fail) (k1 := 0) dX12_count_47 rfl rfl rfl sh_137 rfl rfl (Nat.le_of_ble_eq_true rfl) (Nat.le_of_ble_eq_true rfl) (by decide) ?_
        refine A_X12_fail e13 ?_
        show z_G none 2 mX12_count 50 [some (.ref 139), some (.int a1), some (.int a2), none] [] q12.2 Q
        refine g_aload_n dX12_count_50 rfl rfl ?_
        refine g_get (a := 137) (v := .int (q12.2.1 137 12)) dX12_count_51 f_12_212 sh_137 rfl rfl ?_
        refine g_if_le (t := 59) dX12_count_54 (by decide) (fun c14 => ?_) (fun c14 => ?_)
        · replace h := z_ift c14 h
          refine g_aload_n dX12_count_59 rfl rfl ?_
          refine g_get (a := 137) (v := .int (q12.2.1 137 17)) dX12_count_60 f_12_131 sh_137 rfl rfl ?_
          refine g_istore_n (ls' := [some (.ref 139), some (.int a1), some (.int a2), some (.int (q12.2.1 137 17))]) dX12_count_63 rfl (Nat.le_of_ble_eq_true rfl) rfl ?_
          refine g_aload_n dX12_count_64 rfl rfl ?_
          obtain ⟨q15, e16, h⟩ := z_bd h
          refine g_callV (a := 137) (as := []) (rest := []) (c := mX12_advance) (k1 := 1) dX12_count_65 rfl rfl rfl sh_137 rfl rfl (Nat.le_of_ble_eq_true rfl) (Nat.le_of_ble_eq_true rfl) (by decide) ?_
          refine A_X12_advance e16 ?_
          show z_G none 2 mX12_count 68 [some (.ref 139), some (.int a1), some (.int a2), some (.int (q12.2.1 137 17))] [] q15.2 Q
          refine g_iload_n dX12_count_68 rfl rfl ?_
          cases h
          exact g_iret dX12_count_69 rfl rfl hq
        · replace h := z_iff c14 h
          refine g_iconst (v := (0 : Int32)) dX12_count_57 (by decide) ?_
          cases h
          exact g_iret dX12_count_58 rfl rfl hq
  · replace h := z_ift c1 h
    refine g_aload_n dX12_count_7 rfl rfl ?_
    refine g_get (a := 137) (v := .int (M.1 137 14)) dX12_count_8 f_12_112 sh_137 rfl rfl ?_
    refine g_iconst (v := (2 : Int32)) dX12_count_11 (by decide) ?_
    refine g_ic_eq (t := 19) dX12_count_12 (by decide) (fun c17 => ?_) (fun c17 => ?_)
    · replace h := z_ift c17 h
      refine g_aload_n dX12_count_19 rfl rfl ?_
      refine g_get (a := 137) (v := .int (M.1 137 12)) dX12_count_20 f_12_212 sh_137 rfl rfl ?_
      refine g_if_ne (t := 50) dX12_count_23 (by decide) (fun c18 => ?_) (fun c18 => ?_)
      · replace h := z_iff c18 h
        refine g_aload_n dX12_count_50 rfl rfl ?_
        refine g_get (a := 137) (v := .int (M.1 137 12)) dX12_count_51 f_12_212 sh_137 rfl rfl ?_
        refine g_if_le (t := 59) dX12_count_54 (by decide) (fun c19 => ?_) (fun c19 => ?_)
        · replace h := z_ift c19 h
          refine g_aload_n dX12_count_59 rfl rfl ?_
          refine g_get (a := 137) (v := .int (M.1 137 17)) dX12_count_60 f_12_131 sh_137 rfl rfl ?_
          refine g_istore_n (ls' := [some (.ref 139), some (.int a1), some (.int a2), some (.int (M.1 137 17))]) dX12_count_63 rfl (Nat.le_of_ble_eq_true rfl) rfl ?_
          refine g_aload_n dX12_count_64 rfl rfl ?_
          obtain ⟨q20, e21, h⟩ := z_bd h
          refine g_callV (a := 137) (as := []) (rest := []) (c := mX12_advance) (k1 := 1) dX12_count_65 rfl rfl rfl sh_137 rfl rfl (Nat.le_of_ble_eq_true rfl) (Nat.le_of_ble_eq_true rfl) (by decide) ?_
          refine A_X12_advance e21 ?_
          show z_G none 2 mX12_count 68 [some (.ref 139), some (.int a1), some (.int a2), some (.int (M.1 137 17))] [] q20.2 Q
          refine g_iload_n dX12_count_68 rfl rfl ?_
          cases h
          exact g_iret dX12_count_69 rfl rfl hq
        · replace h := z_iff c19 h
          refine g_iconst (v := (0 : Int32)) dX12_count_57 (by decide) ?_
          cases h
          exact g_iret dX12_count_58 rfl rfl hq
      · replace h := z_ift c18 h
        refine g_aload_n dX12_count_26 rfl rfl ?_
        refine g_get (a := 137) (v := .int (M.1 137 17)) dX12_count_27 f_12_131 sh_137 rfl rfl ?_
        refine g_i2l dX12_count_30 ?_
        refine g_iload_n dX12_count_31 rfl rfl ?_
        refine g_i2l dX12_count_32 ?_
        refine g_iload_n dX12_count_33 rfl rfl ?_
        refine g_i2l dX12_count_34 ?_
        obtain ⟨q22, e23, h⟩ := z_bd h
        refine g_callS (as := [.long ((M.1 137 17).toInt64), .long a1.toInt64, .long a2.toInt64]) (rest := []) (c := mX12_isIn) (k1 := 0) dX12_count_35 rfl rfl rfl rfl rfl (Nat.le_of_ble_eq_true rfl) (Nat.le_of_ble_eq_true rfl) (by decide) ?_
        refine A_X12_isIn e23 ?_
        show z_G none 2 mX12_count 38 [some (.ref 139), some (.int a1), some (.int a2), none] [.int (z_tb q22.1)] q22.2 Q
        refine g_if_ne (t := 50) dX12_count_38 (by decide) (fun c24 => ?_) (fun c24 => ?_)
        · replace h := z_ift (z_tbn.mp c24) h
          refine g_aload_n dX12_count_50 rfl rfl ?_
          refine g_get (a := 137) (v := .int (q22.2.1 137 12)) dX12_count_51 f_12_212 sh_137 rfl rfl ?_
          refine g_if_le (t := 59) dX12_count_54 (by decide) (fun c25 => ?_) (fun c25 => ?_)
          · replace h := z_ift c25 h
            refine g_aload_n dX12_count_59 rfl rfl ?_
            refine g_get (a := 137) (v := .int (q22.2.1 137 17)) dX12_count_60 f_12_131 sh_137 rfl rfl ?_
            refine g_istore_n (ls' := [some (.ref 139), some (.int a1), some (.int a2), some (.int (q22.2.1 137 17))]) dX12_count_63 rfl (Nat.le_of_ble_eq_true rfl) rfl ?_
            refine g_aload_n dX12_count_64 rfl rfl ?_
            obtain ⟨q26, e27, h⟩ := z_bd h
            refine g_callV (a := 137) (as := []) (rest := []) (c := mX12_advance) (k1 := 1) dX12_count_65 rfl rfl rfl sh_137 rfl rfl (Nat.le_of_ble_eq_true rfl) (Nat.le_of_ble_eq_true rfl) (by decide) ?_
            refine A_X12_advance e27 ?_
            show z_G none 2 mX12_count 68 [some (.ref 139), some (.int a1), some (.int a2), some (.int (q22.2.1 137 17))] [] q26.2 Q
            refine g_iload_n dX12_count_68 rfl rfl ?_
            cases h
            exact g_iret dX12_count_69 rfl rfl hq
          · replace h := z_iff c25 h
            refine g_iconst (v := (0 : Int32)) dX12_count_57 (by decide) ?_
            cases h
            exact g_iret dX12_count_58 rfl rfl hq
        · replace h := z_iff (z_tb0.mp c24) h
          refine g_aload_n dX12_count_41 rfl rfl ?_
          refine g_iconst (v := (4 : Int32)) dX12_count_42 (by decide) ?_
          refine g_aload_n dX12_count_43 rfl rfl ?_
          refine g_get (a := 137) (v := .int (q22.2.1 137 15)) dX12_count_44 f_12_106 sh_137 rfl rfl ?_
          obtain ⟨q28, e29, h⟩ := z_bd h
          refine g_callV (a := 137) (as := [.int (4 : Int32), .int (q22.2.1 137 15)]) (rest := []) (c := mX12_fail) (k1 := 0) dX12_count_47 rfl rfl rfl sh_137 rfl rfl (Nat.le_of_ble_eq_true rfl) (Nat.le_of_ble_eq_true rfl) (by decide) ?_
          refine A_X12_fail e29 ?_
          show z_G none 2 mX12_count 50 [some (.ref 139), some (.int a1), some (.int a2), none] [] q28.2 Q
          refine g_aload_n dX12_count_50 rfl rfl ?_
          refine g_get (a := 137) (v := .int (q28.2.1 137 12)) dX12_count_51 f_12_212 sh_137 rfl rfl ?_
          refine g_if_le (t := 59) dX12_count_54 (by decide) (fun c30 => ?_) (fun c30 => ?_)
          · replace h := z_ift c30 h
            refine g_aload_n dX12_count_59 rfl rfl ?_
            refine g_get (a := 137) (v := .int (q28.2.1 137 17)) dX12_count_60 f_12_131 sh_137 rfl rfl ?_
            refine g_istore_n (ls' := [some (.ref 139), some (.int a1), some (.int a2), some (.int (q28.2.1 137 17))]) dX12_count_63 rfl (Nat.le_of_ble_eq_true rfl) rfl ?_
            refine g_aload_n dX12_count_64 rfl rfl ?_
            obtain ⟨q31, e32, h⟩ := z_bd h
            refine g_callV (a := 137) (as := []) (rest := []) (c := mX12_advance) (k1 := 1) dX12_count_65 rfl rfl rfl sh_137 rfl rfl (Nat.le_of_ble_eq_true rfl) (Nat.le_of_ble_eq_true rfl) (by decide) ?_
            refine A_X12_advance e32 ?_
            show z_G none 2 mX12_count 68 [some (.ref 139), some (.int a1), some (.int a2), some (.int (q28.2.1 137 17))] [] q31.2 Q
            refine g_iload_n dX12_count_68 rfl rfl ?_
            cases h
            exact g_iret dX12_count_69 rfl rfl hq
          · replace h := z_iff c30 h
            refine g_iconst (v := (0 : Int32)) dX12_count_57 (by decide) ?_
            cases h
            exact g_iret dX12_count_58 rfl rfl hq
    · replace h := z_iff c17 h
      refine g_aload_n dX12_count_15 rfl rfl ?_
      obtain ⟨q33, e34, h⟩ := z_bd h
      refine g_callV (a := 137) (as := []) (rest := []) (c := mX12_amiss) (k1 := 1) dX12_count_16 rfl rfl rfl sh_137 rfl rfl (Nat.le_of_ble_eq_true rfl) (Nat.le_of_ble_eq_true rfl) (by decide) ?_
      refine A_X12_amiss e34 ?_
      show z_G none 2 mX12_count 19 [some (.ref 139), some (.int a1), some (.int a2), none] [] q33.2 Q
      refine g_aload_n dX12_count_19 rfl rfl ?_
      refine g_get (a := 137) (v := .int (q33.2.1 137 12)) dX12_count_20 f_12_212 sh_137 rfl rfl ?_
      refine g_if_ne (t := 50) dX12_count_23 (by decide) (fun c35 => ?_) (fun c35 => ?_)
      · replace h := z_iff c35 h
        refine g_aload_n dX12_count_50 rfl rfl ?_
        refine g_get (a := 137) (v := .int (q33.2.1 137 12)) dX12_count_51 f_12_212 sh_137 rfl rfl ?_
        refine g_if_le (t := 59) dX12_count_54 (by decide) (fun c36 => ?_) (fun c36 => ?_)
        · replace h := z_ift c36 h
          refine g_aload_n dX12_count_59 rfl rfl ?_
          refine g_get (a := 137) (v := .int (q33.2.1 137 17)) dX12_count_60 f_12_131 sh_137 rfl rfl ?_
          refine g_istore_n (ls' := [some (.ref 139), some (.int a1), some (.int a2), some (.int (q33.2.1 137 17))]) dX12_count_63 rfl (Nat.le_of_ble_eq_true rfl) rfl ?_
          refine g_aload_n dX12_count_64 rfl rfl ?_
          obtain ⟨q37, e38, h⟩ := z_bd h
          refine g_callV (a := 137) (as := []) (rest := []) (c := mX12_advance) (k1 := 1) dX12_count_65 rfl rfl rfl sh_137 rfl rfl (Nat.le_of_ble_eq_true rfl) (Nat.le_of_ble_eq_true rfl) (by decide) ?_
          refine A_X12_advance e38 ?_
          show z_G none 2 mX12_count 68 [some (.ref 139), some (.int a1), some (.int a2), some (.int (q33.2.1 137 17))] [] q37.2 Q
          refine g_iload_n dX12_count_68 rfl rfl ?_
          cases h
          exact g_iret dX12_count_69 rfl rfl hq
        · replace h := z_iff c36 h
          refine g_iconst (v := (0 : Int32)) dX12_count_57 (by decide) ?_
          cases h
          exact g_iret dX12_count_58 rfl rfl hq
      · replace h := z_ift c35 h
        refine g_aload_n dX12_count_26 rfl rfl ?_
        refine g_get (a := 137) (v := .int (q33.2.1 137 17)) dX12_count_27 f_12_131 sh_137 rfl rfl ?_
        refine g_i2l dX12_count_30 ?_
        refine g_iload_n dX12_count_31 rfl rfl ?_
        refine g_i2l dX12_count_32 ?_
        refine g_iload_n dX12_count_33 rfl rfl ?_
        refine g_i2l dX12_count_34 ?_
        obtain ⟨q39, e40, h⟩ := z_bd h
        refine g_callS (as := [.long ((q33.2.1 137 17).toInt64), .long a1.toInt64, .long a2.toInt64]) (rest := []) (c := mX12_isIn) (k1 := 0) dX12_count_35 rfl rfl rfl rfl rfl (Nat.le_of_ble_eq_true rfl) (Nat.le_of_ble_eq_true rfl) (by decide) ?_
        refine A_X12_isIn e40 ?_
        show z_G none 2 mX12_count 38 [some (.ref 139), some (.int a1), some (.int a2), none] [.int (z_tb q39.1)] q39.2 Q
        refine g_if_ne (t := 50) dX12_count_38 (by decide) (fun c41 => ?_) (fun c41 => ?_)
        · replace h := z_ift (z_tbn.mp c41) h
          refine g_aload_n dX12_count_50 rfl rfl ?_
          refine g_get (a := 137) (v := .int (q39.2.1 137 12)) dX12_count_51 f_12_212 sh_137 rfl rfl ?_
          refine g_if_le (t := 59) dX12_count_54 (by decide) (fun c42 => ?_) (fun c42 => ?_)
          · replace h := z_ift c42 h
            refine g_aload_n dX12_count_59 rfl rfl ?_
            refine g_get (a := 137) (v := .int (q39.2.1 137 17)) dX12_count_60 f_12_131 sh_137 rfl rfl ?_
            refine g_istore_n (ls' := [some (.ref 139), some (.int a1), some (.int a2), some (.int (q39.2.1 137 17))]) dX12_count_63 rfl (Nat.le_of_ble_eq_true rfl) rfl ?_
            refine g_aload_n dX12_count_64 rfl rfl ?_
            obtain ⟨q43, e44, h⟩ := z_bd h
            refine g_callV (a := 137) (as := []) (rest := []) (c := mX12_advance) (k1 := 1) dX12_count_65 rfl rfl rfl sh_137 rfl rfl (Nat.le_of_ble_eq_true rfl) (Nat.le_of_ble_eq_true rfl) (by decide) ?_
            refine A_X12_advance e44 ?_
            show z_G none 2 mX12_count 68 [some (.ref 139), some (.int a1), some (.int a2), some (.int (q39.2.1 137 17))] [] q43.2 Q
            refine g_iload_n dX12_count_68 rfl rfl ?_
            cases h
            exact g_iret dX12_count_69 rfl rfl hq
          · replace h := z_iff c42 h
            refine g_iconst (v := (0 : Int32)) dX12_count_57 (by decide) ?_
            cases h
            exact g_iret dX12_count_58 rfl rfl hq
        · replace h := z_iff (z_tb0.mp c41) h
          refine g_aload_n dX12_count_41 rfl rfl ?_
          refine g_iconst (v := (4 : Int32)) dX12_count_42 (by decide) ?_
          refine g_aload_n dX12_count_43 rfl rfl ?_
          refine g_get (a := 137) (v := .int (q39.2.1 137 15)) dX12_count_44 f_12_106 sh_137 rfl rfl ?_
          obtain ⟨q45, e46, h⟩ := z_bd h
          refine g_callV (a := 137) (as := [.int (4 : Int32), .int (q39.2.1 137 15)]) (rest := []) (c := mX12_fail) (k1 := 0) dX12_count_47 rfl rfl rfl sh_137 rfl rfl (Nat.le_of_ble_eq_true rfl) (Nat.le_of_ble_eq_true rfl) (by decide) ?_
          refine A_X12_fail e46 ?_
          show z_G none 2 mX12_count 50 [some (.ref 139), some (.int a1), some (.int a2), none] [] q45.2 Q
          refine g_aload_n dX12_count_50 rfl rfl ?_
          refine g_get (a := 137) (v := .int (q45.2.1 137 12)) dX12_count_51 f_12_212 sh_137 rfl rfl ?_
          refine g_if_le (t := 59) dX12_count_54 (by decide) (fun c47 => ?_) (fun c47 => ?_)
          · replace h := z_ift c47 h
            refine g_aload_n dX12_count_59 rfl rfl ?_
            refine g_get (a := 137) (v := .int (q45.2.1 137 17)) dX12_count_60 f_12_131 sh_137 rfl rfl ?_
            refine g_istore_n (ls' := [some (.ref 139), some (.int a1), some (.int a2), some (.int (q45.2.1 137 17))]) dX12_count_63 rfl (Nat.le_of_ble_eq_true rfl) rfl ?_
            refine g_aload_n dX12_count_64 rfl rfl ?_
            obtain ⟨q48, e49, h⟩ := z_bd h
            refine g_callV (a := 137) (as := []) (rest := []) (c := mX12_advance) (k1 := 1) dX12_count_65 rfl rfl rfl sh_137 rfl rfl (Nat.le_of_ble_eq_true rfl) (Nat.le_of_ble_eq_true rfl) (by decide) ?_
            refine A_X12_advance e49 ?_
            show z_G none 2 mX12_count 68 [some (.ref 139), some (.int a1), some (.int a2), some (.int (q45.2.1 137 17))] [] q48.2 Q
            refine g_iload_n dX12_count_68 rfl rfl ?_
            cases h
            exact g_iret dX12_count_69 rfl rfl hq
          · replace h := z_iff c47 h
            refine g_iconst (v := (0 : Int32)) dX12_count_57 (by decide) ?_
            cases h
            exact g_iret dX12_count_58 rfl rfl hq
theorem dX12_behindWord_0 : decode cX12_behindWord 0 = .ok (.aload_n 0, 1) := by decide +kernel
theorem dX12_behindWord_1 : decode cX12_behindWord 1 = .ok (.iload_n 1, 1) := by decide +kernel
theorem dX12_behindWord_2 : decode cX12_behindWord 2 = .ok (.invokevirtual 228, 3) := by decide +kernel
theorem dX12_behindWord_5 : decode cX12_behindWord 5 = .ok (.aload_n 0, 1) := by decide +kernel
theorem dX12_behindWord_6 : decode cX12_behindWord 6 = .ok (.iload_n 2, 1) := by decide +kernel
theorem dX12_behindWord_7 : decode cX12_behindWord 7 = .ok (.iload_n 3, 1) := by decide +kernel
theorem dX12_behindWord_8 : decode cX12_behindWord 8 = .ok (.invokevirtual 232, 3) := by decide +kernel
theorem dX12_behindWord_11 : decode cX12_behindWord 11 = .ok (.ireturn, 1) := by decide +kernel
def F_X12_behindWord (w : Nat) (M : z_Mem) (a1 : Int32) (a2 : Int32) (a3 : Int32) : Option (Int32 × z_Mem) :=
  (F_X12_must w M a1).bind fun q1 =>
  (F_X12_count w q1.2 a2 a3).bind fun q3 =>
  some (q3.1, q3.2)
set_option maxHeartbeats 4000000 in
theorem A_X12_behindWord {w : Nat} {M : z_Mem} {a1 : Int32} {a2 : Int32} {a3 : Int32} {r : Int32} {M' : z_Mem} {Q : Option Value → z_Mem → Prop} (h : F_X12_behindWord w M a1 a2 a3 = some (r, M')) (hq : Q (some (.int r)) M') : z_Cl 3 mX12_behindWord [.ref 139, .int a1, .int a2, .int a3] M Q := by
  refine g_in (ls := [some (.ref 139), some (.int a1), some (.int a2), some (.int a3)]) rfl ?_
  unfold F_X12_behindWord at h
  refine g_aload_n dX12_behindWord_0 rfl rfl ?_
  refine g_iload_n dX12_behindWord_1 rfl rfl ?_
  obtain ⟨q1, e2, h⟩ := z_bd h
  refine g_callV (a := 137) (as := [.int a1]) (rest := []) (c := mX12_must) (k1 := 2) dX12_behindWord_2 rfl rfl rfl sh_137 rfl rfl (Nat.le_of_ble_eq_true rfl) (Nat.le_of_ble_eq_true rfl) (by decide) ?_
  refine A_X12_must e2 ?_
  show z_G none 3 mX12_behindWord 5 [some (.ref 139), some (.int a1), some (.int a2), some (.int a3)] [] q1.2 Q
  refine g_aload_n dX12_behindWord_5 rfl rfl ?_
  refine g_iload_n dX12_behindWord_6 rfl rfl ?_
  refine g_iload_n dX12_behindWord_7 rfl rfl ?_
  obtain ⟨q3, e4, h⟩ := z_bd h
  refine g_callV (a := 137) (as := [.int a2, .int a3]) (rest := []) (c := mX12_count) (k1 := 2) dX12_behindWord_8 rfl rfl rfl sh_137 rfl rfl (Nat.le_of_ble_eq_true rfl) (Nat.le_of_ble_eq_true rfl) (by decide) ?_
  refine A_X12_count e4 ?_
  show z_G none 3 mX12_behindWord 11 [some (.ref 139), some (.int a1), some (.int a2), some (.int a3)] [.int q3.1] q3.2 Q
  cases h
  exact g_iret dX12_behindWord_11 rfl rfl hq
theorem dX12_readSide_0 : decode cX12_readSide 0 = .ok (.aload_n 0, 1) := by decide +kernel
theorem dX12_readSide_1 : decode cX12_readSide 1 = .ok (.getfield 212, 3) := by decide +kernel
theorem dX12_readSide_4 : decode cX12_readSide 4 = .ok (.ifCond .le 7, 3) := by decide +kernel
theorem dX12_readSide_7 : decode cX12_readSide 7 = .ok (.iconst 0, 1) := by decide +kernel
theorem dX12_readSide_8 : decode cX12_readSide 8 = .ok (.goto 7, 3) := by decide +kernel
theorem dX12_readSide_11 : decode cX12_readSide 11 = .ok (.aload_n 0, 1) := by decide +kernel
theorem dX12_readSide_12 : decode cX12_readSide 12 = .ok (.invokevirtual 196, 3) := by decide +kernel
theorem dX12_readSide_15 : decode cX12_readSide 15 = .ok (.istore_n 1, 1) := by decide +kernel
theorem dX12_readSide_16 : decode cX12_readSide 16 = .ok (.aload_n 0, 1) := by decide +kernel
theorem dX12_readSide_17 : decode cX12_readSide 17 = .ok (.iload_n 1, 1) := by decide +kernel
theorem dX12_readSide_18 : decode cX12_readSide 18 = .ok (.ifCond .lt 7, 3) := by decide +kernel
theorem dX12_readSide_21 : decode cX12_readSide 21 = .ok (.iconst 1, 1) := by decide +kernel
theorem dX12_readSide_22 : decode cX12_readSide 22 = .ok (.goto 4, 3) := by decide +kernel
theorem dX12_readSide_25 : decode cX12_readSide 25 = .ok (.iconst 0, 1) := by decide +kernel
theorem dX12_readSide_26 : decode cX12_readSide 26 = .ok (.invokevirtual 228, 3) := by decide +kernel
theorem dX12_readSide_29 : decode cX12_readSide 29 = .ok (.iconst 0, 1) := by decide +kernel
theorem dX12_readSide_30 : decode cX12_readSide 30 = .ok (.iload_n 1, 1) := by decide +kernel
theorem dX12_readSide_31 : decode cX12_readSide 31 = .ok (.invokestatic 235, 3) := by decide +kernel
theorem dX12_readSide_34 : decode cX12_readSide 34 = .ok (.ireturn, 1) := by decide +kernel
def F_X12_readSide (w : Nat) (M : z_Mem) : Option (Int32 × z_Mem) :=
  if (M.1 137 12) ≤ (0 : Int32) then
  (F_X12_sideWord w M).bind fun q2 =>
  if q2.1 < (0 : Int32) then
  (F_X12_must w q2.2 (0 : Int32)).bind fun q5 =>
  some (if (0 : Int32) < q2.1 then q2.1 else (0 : Int32), q5.2)
  else
  (F_X12_must w q2.2 (1 : Int32)).bind fun q7 =>
  some (if (0 : Int32) < q2.1 then q2.1 else (0 : Int32), q7.2)
  else
  (F_X12_must w M (1 : Int32)).bind fun q10 =>
  some (if (0 : Int32) < (0 : Int32) then (0 : Int32) else (0 : Int32), q10.2)
set_option maxHeartbeats 4000000 in
theorem A_X12_readSide {w : Nat} {M : z_Mem} {r : Int32} {M' : z_Mem} {Q : Option Value → z_Mem → Prop} (h : F_X12_readSide w M = some (r, M')) (hq : Q (some (.int r)) M') : z_Cl 3 mX12_readSide [.ref 139] M Q := by
  refine g_in (ls := [some (.ref 139), none]) rfl ?_
  unfold F_X12_readSide at h
  refine g_aload_n dX12_readSide_0 rfl rfl ?_
  refine g_get (a := 137) (v := .int (M.1 137 12)) dX12_readSide_1 f_12_212 sh_137 rfl rfl ?_
  refine g_if_le (t := 11) dX12_readSide_4 (by decide) (fun c1 => ?_) (fun c1 => ?_)
  · replace h := z_ift c1 h
    refine g_aload_n dX12_readSide_11 rfl rfl ?_
    obtain ⟨q2, e3, h⟩ := z_bd h
    refine g_callV (a := 137) (as := []) (rest := []) (c := mX12_sideWord) (k1 := 1) dX12_readSide_12 rfl rfl rfl sh_137 rfl rfl (Nat.le_of_ble_eq_true rfl) (Nat.le_of_ble_eq_true rfl) (by decide) ?_
    refine A_X12_sideWord e3 ?_
    show z_G none 3 mX12_readSide 15 [some (.ref 139), none] [.int q2.1] q2.2 Q
    refine g_istore_n (ls' := [some (.ref 139), some (.int q2.1)]) dX12_readSide_15 rfl (Nat.le_of_ble_eq_true rfl) rfl ?_
    refine g_aload_n dX12_readSide_16 rfl rfl ?_
    refine g_iload_n dX12_readSide_17 rfl rfl ?_
    refine g_if_lt (t := 25) dX12_readSide_18 (by decide) (fun c4 => ?_) (fun c4 => ?_)
    · replace h := z_ift c4 h
      refine g_iconst (v := (0 : Int32)) dX12_readSide_25 (by decide) ?_
      obtain ⟨q5, e6, h⟩ := z_bd h
      refine g_callV (a := 137) (as := [.int (0 : Int32)]) (rest := []) (c := mX12_must) (k1 := 2) dX12_readSide_26 rfl rfl rfl sh_137 rfl rfl (Nat.le_of_ble_eq_true rfl) (Nat.le_of_ble_eq_true rfl) (by decide) ?_
      refine A_X12_must e6 ?_
      show z_G none 3 mX12_readSide 29 [some (.ref 139), some (.int q2.1)] [] q5.2 Q
      refine g_iconst (v := (0 : Int32)) dX12_readSide_29 (by decide) ?_
      refine g_iload_n dX12_readSide_30 rfl rfl ?_
      refine g_max dX12_readSide_31 rfl (Nat.le_of_ble_eq_true rfl) ?_
      cases h
      exact g_iret dX12_readSide_34 rfl rfl hq
    · replace h := z_iff c4 h
      refine g_iconst (v := (1 : Int32)) dX12_readSide_21 (by decide) ?_
      refine g_goto (t := 26) dX12_readSide_22 (by decide) ?_
      obtain ⟨q7, e8, h⟩ := z_bd h
      refine g_callV (a := 137) (as := [.int (1 : Int32)]) (rest := []) (c := mX12_must) (k1 := 2) dX12_readSide_26 rfl rfl rfl sh_137 rfl rfl (Nat.le_of_ble_eq_true rfl) (Nat.le_of_ble_eq_true rfl) (by decide) ?_
      refine A_X12_must e8 ?_
      show z_G none 3 mX12_readSide 29 [some (.ref 139), some (.int q2.1)] [] q7.2 Q
      refine g_iconst (v := (0 : Int32)) dX12_readSide_29 (by decide) ?_
      refine g_iload_n dX12_readSide_30 rfl rfl ?_
      refine g_max dX12_readSide_31 rfl (Nat.le_of_ble_eq_true rfl) ?_
      cases h
      exact g_iret dX12_readSide_34 rfl rfl hq
  · replace h := z_iff c1 h
    refine g_iconst (v := (0 : Int32)) dX12_readSide_7 (by decide) ?_
    refine g_goto (t := 15) dX12_readSide_8 (by decide) ?_
    refine g_istore_n (ls' := [some (.ref 139), some (.int (0 : Int32))]) dX12_readSide_15 rfl (Nat.le_of_ble_eq_true rfl) rfl ?_
    refine g_aload_n dX12_readSide_16 rfl rfl ?_
    refine g_iload_n dX12_readSide_17 rfl rfl ?_
    refine g_if_lt (t := 25) dX12_readSide_18 (by decide) (fun c9 => ?_) (fun c9 => ?_)
    · exact absurd c9 (by decide)
    · skip
      refine g_iconst (v := (1 : Int32)) dX12_readSide_21 (by decide) ?_
      refine g_goto (t := 26) dX12_readSide_22 (by decide) ?_
      obtain ⟨q10, e11, h⟩ := z_bd h
      refine g_callV (a := 137) (as := [.int (1 : Int32)]) (rest := []) (c := mX12_must) (k1 := 2) dX12_readSide_26 rfl rfl rfl sh_137 rfl rfl (Nat.le_of_ble_eq_true rfl) (Nat.le_of_ble_eq_true rfl) (by decide) ?_
      refine A_X12_must e11 ?_
      show z_G none 3 mX12_readSide 29 [some (.ref 139), some (.int (0 : Int32))] [] q10.2 Q
      refine g_iconst (v := (0 : Int32)) dX12_readSide_29 (by decide) ?_
      refine g_iload_n dX12_readSide_30 rfl rfl ?_
      refine g_max dX12_readSide_31 rfl (Nat.le_of_ble_eq_true rfl) ?_
      cases h
      exact g_iret dX12_readSide_34 rfl rfl hq
theorem dX12_lay_0 : decode cX12_lay 0 = .ok (.iconst 3, 1) := by decide +kernel
theorem dX12_lay_1 : decode cX12_lay 1 = .ok (.istore_n 2, 1) := by decide +kernel
theorem dX12_lay_2 : decode cX12_lay 2 = .ok (.iload_n 2, 1) := by decide +kernel
theorem dX12_lay_3 : decode cX12_lay 3 = .ok (.ifCond .lt 35, 3) := by decide +kernel
theorem dX12_lay_6 : decode cX12_lay 6 = .ok (.aload_n 0, 1) := by decide +kernel
theorem dX12_lay_7 : decode cX12_lay 7 = .ok (.getfield 24, 3) := by decide +kernel
theorem dX12_lay_10 : decode cX12_lay 10 = .ok (.aload_n 0, 1) := by decide +kernel
theorem dX12_lay_11 : decode cX12_lay 11 = .ok (.getfield 238, 3) := by decide +kernel
theorem dX12_lay_14 : decode cX12_lay 14 = .ok (.iload_n 1, 1) := by decide +kernel
theorem dX12_lay_15 : decode cX12_lay 15 = .ok (.bipush 8, 2) := by decide +kernel
theorem dX12_lay_17 : decode cX12_lay 17 = .ok (.iload_n 2, 1) := by decide +kernel
theorem dX12_lay_18 : decode cX12_lay 18 = .ok (.imul, 1) := by decide +kernel
theorem dX12_lay_19 : decode cX12_lay 19 = .ok (.ishr, 1) := by decide +kernel
theorem dX12_lay_20 : decode cX12_lay 20 = .ok (.i2b, 1) := by decide +kernel
theorem dX12_lay_21 : decode cX12_lay 21 = .ok (.bastore, 1) := by decide +kernel
theorem dX12_lay_22 : decode cX12_lay 22 = .ok (.aload_n 0, 1) := by decide +kernel
theorem dX12_lay_23 : decode cX12_lay 23 = .ok (.dup, 1) := by decide +kernel
theorem dX12_lay_24 : decode cX12_lay 24 = .ok (.getfield 238, 3) := by decide +kernel
theorem dX12_lay_27 : decode cX12_lay 27 = .ok (.iconst 1, 1) := by decide +kernel
theorem dX12_lay_28 : decode cX12_lay 28 = .ok (.iadd, 1) := by decide +kernel
theorem dX12_lay_29 : decode cX12_lay 29 = .ok (.putfield 238, 3) := by decide +kernel
theorem dX12_lay_32 : decode cX12_lay 32 = .ok (.iinc 2 (-1), 3) := by decide +kernel
theorem dX12_lay_35 : decode cX12_lay 35 = .ok (.goto (-33), 3) := by decide +kernel
theorem dX12_lay_38 : decode cX12_lay 38 = .ok (.return_, 1) := by decide +kernel
def L_X12_lay (w : Nat) : Nat → z_Mem → Int32 → Int32 → Option (Unit × z_Mem)
  | 0, _, _, _ => none
  | c + 1, M, x1, x2 =>
    if x2 < (0 : Int32) then
    some ((), M)
    else
    if (M.1 137 8) < 0 ∨ 900 ≤ (M.1 137 8).toNatClampNeg then none else
    L_X12_lay w c (z_wI (z_wI M 141 ((M.1 137 8).toNatClampNeg) (vp_nar .byte ((x1 >>> (((8 : Int32) * x2) &&& 31)).toInt8.toInt32))) 137 8 ((M.1 137 8) + (1 : Int32))) x1 (x2 + (-1 : Int32))
set_option maxHeartbeats 4000000 in
theorem AL_X12_lay {w : Nat} : ∀ (c : Nat), (∀ (M : z_Mem) (x1 : Int32) (x2 : Int32) (r : Unit) (M' : z_Mem) (Q : Option Value → z_Mem → Prop), L_X12_lay w c M x1 x2 = some (r, M') → Q none M' → z_G none 0 mX12_lay 2 [some (.ref 139), some (.int x1), some (.int x2)] [] M Q) := by
  intro c
  induction c with
  | zero => exact (fun M x1 x2 r M' Q h hq => by rw [L_X12_lay] at h; cases h)
  | succ c ih =>
    intro M x1 x2 r M' Q h hq
    rw [L_X12_lay] at h
    refine g_iload_n dX12_lay_2 rfl rfl ?_
    refine g_if_lt (t := 38) dX12_lay_3 (by decide) (fun c1 => ?_) (fun c1 => ?_)
    · replace h := z_ift c1 h
      cases h
      exact g_vret dX12_lay_38 rfl hq
    · replace h := z_iff c1 h
      refine g_aload_n dX12_lay_6 rfl rfl ?_
      refine g_get (a := 137) (v := .ref 143) dX12_lay_7 f_12_24 sh_137 rfl rfl ?_
      refine g_aload_n dX12_lay_10 rfl rfl ?_
      refine g_get (a := 137) (v := .int (M.1 137 8)) dX12_lay_11 f_12_238 sh_137 rfl rfl ?_
      refine g_iload_n dX12_lay_14 rfl rfl ?_
      refine g_bipush (v := (8 : Int32)) dX12_lay_15 (by decide) ?_
      refine g_iload_n dX12_lay_17 rfl rfl ?_
      refine g_imul dX12_lay_18 ?_
      refine g_ishr dX12_lay_19 ?_
      refine g_i2b dX12_lay_20 ?_
      by_cases g2 : (M.1 137 8) < 0 ∨ 900 ≤ (M.1 137 8).toNatClampNeg
      · rw [if_pos g2] at h; cases h
      replace h := z_iff g2 h
      refine g_bast (a := 141) dX12_lay_21 sh_141 g2 ?_
      refine g_aload_n dX12_lay_22 rfl rfl ?_
      refine g_dup dX12_lay_23 rfl ?_
      refine g_get (a := 137) (v := .int (M.1 137 8)) dX12_lay_24 f_12_238 sh_137 rfl (by simp [z_fv, z_wI, z_wL, z_wLs, upd, vp_updL]) ?_
      refine g_iconst (v := (1 : Int32)) dX12_lay_27 (by decide) ?_
      refine g_iadd dX12_lay_28 ?_
      refine g_putI (a := 137) dX12_lay_29 f_12_238 sh_137 rfl rfl rfl ?_
      refine g_iinc (v := x2 + (-1 : Int32)) (ls' := [some (.ref 139), some (.int x1), some (.int (x2 + (-1 : Int32)))]) dX12_lay_32 rfl rfl rfl ?_
      refine g_goto (t := 2) dX12_lay_35 (by decide) ?_
      exact g_sub (z_sub_s (z_sub_s (z_sub_s z_sub_nil))) (ih _ _ _ _ _ _ h hq)
def F_X12_lay (w : Nat) (M : z_Mem) (a1 : Int32) : Option (Unit × z_Mem) :=
  L_X12_lay w w M a1 (3 : Int32)
set_option maxHeartbeats 4000000 in
theorem A_X12_lay {w : Nat} {M : z_Mem} {a1 : Int32} {r : Unit} {M' : z_Mem} {Q : Option Value → z_Mem → Prop} (h : F_X12_lay w M a1 = some (r, M')) (hq : Q none M') : z_Cl 0 mX12_lay [.ref 139, .int a1] M Q := by
  refine g_in (ls := [some (.ref 139), some (.int a1), none]) rfl ?_
  unfold F_X12_lay at h
  refine g_iconst (v := (3 : Int32)) dX12_lay_0 (by decide) ?_
  refine g_istore_n (ls' := [some (.ref 139), some (.int a1), some (.int (3 : Int32))]) dX12_lay_1 rfl (Nat.le_of_ble_eq_true rfl) rfl ?_
  exact g_sub (z_sub_s (z_sub_s (z_sub_s z_sub_nil))) ((AL_X12_lay (w := w) w) _ _ _ _ _ _ h hq)
theorem dX12_feed_0 : decode cX12_feed 0 = .ok (.aload_n 0, 1) := by decide +kernel
theorem dX12_feed_1 : decode cX12_feed 1 = .ok (.iconst 0, 1) := by decide +kernel
theorem dX12_feed_2 : decode cX12_feed 2 = .ok (.putfield 57, 3) := by decide +kernel
theorem dX12_feed_5 : decode cX12_feed 5 = .ok (.aload_n 0, 1) := by decide +kernel
theorem dX12_feed_6 : decode cX12_feed 6 = .ok (.getfield 238, 3) := by decide +kernel
theorem dX12_feed_9 : decode cX12_feed 9 = .ok (.bipush 20, 2) := by decide +kernel
theorem dX12_feed_11 : decode cX12_feed 11 = .ok (.iadd, 1) := by decide +kernel
theorem dX12_feed_12 : decode cX12_feed 12 = .ok (.sipush 900, 3) := by decide +kernel
theorem dX12_feed_15 : decode cX12_feed 15 = .ok (.if_icmp .le 5, 3) := by decide +kernel
theorem dX12_feed_18 : decode cX12_feed 18 = .ok (.iconst (-1), 1) := by decide +kernel
theorem dX12_feed_19 : decode cX12_feed 19 = .ok (.ireturn, 1) := by decide +kernel
theorem dX12_feed_20 : decode cX12_feed 20 = .ok (.aload_n 0, 1) := by decide +kernel
theorem dX12_feed_21 : decode cX12_feed 21 = .ok (.iload_n 1, 1) := by decide +kernel
theorem dX12_feed_22 : decode cX12_feed 22 = .ok (.invokevirtual 241, 3) := by decide +kernel
theorem dX12_feed_25 : decode cX12_feed 25 = .ok (.aload_n 0, 1) := by decide +kernel
theorem dX12_feed_26 : decode cX12_feed 26 = .ok (.iload_n 2, 1) := by decide +kernel
theorem dX12_feed_27 : decode cX12_feed 27 = .ok (.invokevirtual 241, 3) := by decide +kernel
theorem dX12_feed_30 : decode cX12_feed 30 = .ok (.aload_n 0, 1) := by decide +kernel
theorem dX12_feed_31 : decode cX12_feed 31 = .ok (.iload_n 3, 1) := by decide +kernel
theorem dX12_feed_32 : decode cX12_feed 32 = .ok (.invokevirtual 241, 3) := by decide +kernel
theorem dX12_feed_35 : decode cX12_feed 35 = .ok (.aload_n 0, 1) := by decide +kernel
theorem dX12_feed_36 : decode cX12_feed 36 = .ok (.iload 4, 2) := by decide +kernel
theorem dX12_feed_38 : decode cX12_feed 38 = .ok (.invokevirtual 241, 3) := by decide +kernel
theorem dX12_feed_41 : decode cX12_feed 41 = .ok (.aload_n 0, 1) := by decide +kernel
theorem dX12_feed_42 : decode cX12_feed 42 = .ok (.iload 5, 2) := by decide +kernel
theorem dX12_feed_44 : decode cX12_feed 44 = .ok (.invokevirtual 241, 3) := by decide +kernel
theorem dX12_feed_47 : decode cX12_feed 47 = .ok (.aload_n 0, 1) := by decide +kernel
theorem dX12_feed_48 : decode cX12_feed 48 = .ok (.getfield 238, 3) := by decide +kernel
theorem dX12_feed_51 : decode cX12_feed 51 = .ok (.ireturn, 1) := by decide +kernel
def F_X12_feed (w : Nat) (M : z_Mem) (a1 : Int32) (a2 : Int32) (a3 : Int32) (a4 : Int32) (a5 : Int32) : Option (Int32 × z_Mem) :=
  if ((M.1 137 8) + (20 : Int32)) ≤ (900 : Int32) then
  (F_X12_lay w (z_wI M 137 1 (0 : Int32)) a1).bind fun q2 =>
  (F_X12_lay w q2.2 a2).bind fun q4 =>
  (F_X12_lay w q4.2 a3).bind fun q6 =>
  (F_X12_lay w q6.2 a4).bind fun q8 =>
  (F_X12_lay w q8.2 a5).bind fun q10 =>
  some (q10.2.1 137 8, q10.2)
  else
  some ((-1 : Int32), (z_wI M 137 1 (0 : Int32)))
set_option maxHeartbeats 4000000 in
theorem A_X12_feed {w : Nat} {M : z_Mem} {a1 : Int32} {a2 : Int32} {a3 : Int32} {a4 : Int32} {a5 : Int32} {r : Int32} {M' : z_Mem} {Q : Option Value → z_Mem → Prop} (h : F_X12_feed w M a1 a2 a3 a4 a5 = some (r, M')) (hq : Q (some (.int r)) M') : z_Cl 1 mX12_feed [.ref 139, .int a1, .int a2, .int a3, .int a4, .int a5] M Q := by
  refine g_in (ls := [some (.ref 139), some (.int a1), some (.int a2), some (.int a3), some (.int a4), some (.int a5)]) rfl ?_
  unfold F_X12_feed at h
  refine g_aload_n dX12_feed_0 rfl rfl ?_
  refine g_iconst (v := (0 : Int32)) dX12_feed_1 (by decide) ?_
  refine g_putI (a := 137) dX12_feed_2 f_12_57 sh_137 rfl rfl rfl ?_
  refine g_aload_n dX12_feed_5 rfl rfl ?_
  refine g_get (a := 137) (v := .int (M.1 137 8)) dX12_feed_6 f_12_238 sh_137 rfl (by simp [z_fv, z_wI, z_wL, z_wLs, upd, vp_updL]) ?_
  refine g_bipush (v := (20 : Int32)) dX12_feed_9 (by decide) ?_
  refine g_iadd dX12_feed_11 ?_
  refine g_sipush (v := (900 : Int32)) dX12_feed_12 (by decide) ?_
  refine g_ic_le (t := 20) dX12_feed_15 (by decide) (fun c1 => ?_) (fun c1 => ?_)
  · replace h := z_ift c1 h
    refine g_aload_n dX12_feed_20 rfl rfl ?_
    refine g_iload_n dX12_feed_21 rfl rfl ?_
    obtain ⟨q2, e3, h⟩ := z_bd h
    refine g_callV (a := 137) (as := [.int a1]) (rest := []) (c := mX12_lay) (k1 := 0) dX12_feed_22 rfl rfl rfl sh_137 rfl rfl (Nat.le_of_ble_eq_true rfl) (Nat.le_of_ble_eq_true rfl) (by decide) ?_
    refine A_X12_lay e3 ?_
    show z_G none 1 mX12_feed 25 [some (.ref 139), some (.int a1), some (.int a2), some (.int a3), some (.int a4), some (.int a5)] [] q2.2 Q
    refine g_aload_n dX12_feed_25 rfl rfl ?_
    refine g_iload_n dX12_feed_26 rfl rfl ?_
    obtain ⟨q4, e5, h⟩ := z_bd h
    refine g_callV (a := 137) (as := [.int a2]) (rest := []) (c := mX12_lay) (k1 := 0) dX12_feed_27 rfl rfl rfl sh_137 rfl rfl (Nat.le_of_ble_eq_true rfl) (Nat.le_of_ble_eq_true rfl) (by decide) ?_
    refine A_X12_lay e5 ?_
    show z_G none 1 mX12_feed 30 [some (.ref 139), some (.int a1), some (.int a2), some (.int a3), some (.int a4), some (.int a5)] [] q4.2 Q
    refine g_aload_n dX12_feed_30 rfl rfl ?_
    refine g_iload_n dX12_feed_31 rfl rfl ?_
    obtain ⟨q6, e7, h⟩ := z_bd h
    refine g_callV (a := 137) (as := [.int a3]) (rest := []) (c := mX12_lay) (k1 := 0) dX12_feed_32 rfl rfl rfl sh_137 rfl rfl (Nat.le_of_ble_eq_true rfl) (Nat.le_of_ble_eq_true rfl) (by decide) ?_
    refine A_X12_lay e7 ?_
    show z_G none 1 mX12_feed 35 [some (.ref 139), some (.int a1), some (.int a2), some (.int a3), some (.int a4), some (.int a5)] [] q6.2 Q
    refine g_aload_n dX12_feed_35 rfl rfl ?_
    refine g_iload dX12_feed_36 rfl ?_
    obtain ⟨q8, e9, h⟩ := z_bd h
    refine g_callV (a := 137) (as := [.int a4]) (rest := []) (c := mX12_lay) (k1 := 0) dX12_feed_38 rfl rfl rfl sh_137 rfl rfl (Nat.le_of_ble_eq_true rfl) (Nat.le_of_ble_eq_true rfl) (by decide) ?_
    refine A_X12_lay e9 ?_
    show z_G none 1 mX12_feed 41 [some (.ref 139), some (.int a1), some (.int a2), some (.int a3), some (.int a4), some (.int a5)] [] q8.2 Q
    refine g_aload_n dX12_feed_41 rfl rfl ?_
    refine g_iload dX12_feed_42 rfl ?_
    obtain ⟨q10, e11, h⟩ := z_bd h
    refine g_callV (a := 137) (as := [.int a5]) (rest := []) (c := mX12_lay) (k1 := 0) dX12_feed_44 rfl rfl rfl sh_137 rfl rfl (Nat.le_of_ble_eq_true rfl) (Nat.le_of_ble_eq_true rfl) (by decide) ?_
    refine A_X12_lay e11 ?_
    show z_G none 1 mX12_feed 47 [some (.ref 139), some (.int a1), some (.int a2), some (.int a3), some (.int a4), some (.int a5)] [] q10.2 Q
    refine g_aload_n dX12_feed_47 rfl rfl ?_
    refine g_get (a := 137) (v := .int (q10.2.1 137 8)) dX12_feed_48 f_12_238 sh_137 rfl rfl ?_
    cases h
    exact g_iret dX12_feed_51 rfl rfl hq
  · replace h := z_iff c1 h
    refine g_iconst (v := (-1 : Int32)) dX12_feed_18 (by decide) ?_
    cases h
    exact g_iret dX12_feed_19 rfl rfl hq
theorem dX12_starts_0 : decode cX12_starts 0 = .ok (.iload_n 1, 1) := by decide +kernel
theorem dX12_starts_1 : decode cX12_starts 1 = .ok (.ifCond .lt 16, 3) := by decide +kernel
theorem dX12_starts_4 : decode cX12_starts 4 = .ok (.iload_n 1, 1) := by decide +kernel
theorem dX12_starts_5 : decode cX12_starts 5 = .ok (.aload_n 0, 1) := by decide +kernel
theorem dX12_starts_6 : decode cX12_starts 6 = .ok (.getfield 238, 3) := by decide +kernel
theorem dX12_starts_9 : decode cX12_starts 9 = .ok (.if_icmp .gt 8, 3) := by decide +kernel
theorem dX12_starts_12 : decode cX12_starts 12 = .ok (.iload_n 1, 1) := by decide +kernel
theorem dX12_starts_13 : decode cX12_starts 13 = .ok (.iload_n 2, 1) := by decide +kernel
theorem dX12_starts_14 : decode cX12_starts 14 = .ok (.if_icmp .le 9, 3) := by decide +kernel
theorem dX12_starts_17 : decode cX12_starts 17 = .ok (.aload_n 0, 1) := by decide +kernel
theorem dX12_starts_18 : decode cX12_starts 18 = .ok (.iconst 5, 1) := by decide +kernel
theorem dX12_starts_19 : decode cX12_starts 19 = .ok (.invokevirtual 72, 3) := by decide +kernel
theorem dX12_starts_22 : decode cX12_starts 22 = .ok (.ireturn, 1) := by decide +kernel
theorem dX12_starts_23 : decode cX12_starts 23 = .ok (.aload_n 0, 1) := by decide +kernel
theorem dX12_starts_24 : decode cX12_starts 24 = .ok (.iload_n 1, 1) := by decide +kernel
theorem dX12_starts_25 : decode cX12_starts 25 = .ok (.putfield 100, 3) := by decide +kernel
theorem dX12_starts_28 : decode cX12_starts 28 = .ok (.aload_n 0, 1) := by decide +kernel
theorem dX12_starts_29 : decode cX12_starts 29 = .ok (.iconst 0, 1) := by decide +kernel
theorem dX12_starts_30 : decode cX12_starts 30 = .ok (.putfield 238, 3) := by decide +kernel
theorem dX12_starts_33 : decode cX12_starts 33 = .ok (.aload_n 0, 1) := by decide +kernel
theorem dX12_starts_34 : decode cX12_starts 34 = .ok (.iconst 0, 1) := by decide +kernel
theorem dX12_starts_35 : decode cX12_starts 35 = .ok (.putfield 103, 3) := by decide +kernel
theorem dX12_starts_38 : decode cX12_starts 38 = .ok (.aload_n 0, 1) := by decide +kernel
theorem dX12_starts_39 : decode cX12_starts 39 = .ok (.iconst 0, 1) := by decide +kernel
theorem dX12_starts_40 : decode cX12_starts 40 = .ok (.putfield 212, 3) := by decide +kernel
theorem dX12_starts_43 : decode cX12_starts 43 = .ok (.aload_n 0, 1) := by decide +kernel
theorem dX12_starts_44 : decode cX12_starts 44 = .ok (.invokevirtual 222, 3) := by decide +kernel
theorem dX12_starts_47 : decode cX12_starts 47 = .ok (.iconst 1, 1) := by decide +kernel
theorem dX12_starts_48 : decode cX12_starts 48 = .ok (.ireturn, 1) := by decide +kernel
def F_X12_starts (w : Nat) (M : z_Mem) (a1 : Int32) (a2 : Int32) : Option (Bool × z_Mem) :=
  if a1 < (0 : Int32) then
  (F_X12_no w M (5 : Int32)).bind fun q2 =>
  some (q2.1, q2.2)
  else
  if (M.1 137 8) < a1 then
  (F_X12_no w M (5 : Int32)).bind fun q5 =>
  some (q5.1, q5.2)
  else
  if a1 ≤ a2 then
  (F_X12_advance w (z_wI (z_wI (z_wI (z_wI M 137 9 a1) 137 8 (0 : Int32)) 137 16 (0 : Int32)) 137 12 (0 : Int32))).bind fun q8 =>
  some (true, q8.2)
  else
  (F_X12_no w M (5 : Int32)).bind fun q10 =>
  some (q10.1, q10.2)
set_option maxHeartbeats 4000000 in
theorem A_X12_starts {w : Nat} {M : z_Mem} {a1 : Int32} {a2 : Int32} {r : Bool} {M' : z_Mem} {Q : Option Value → z_Mem → Prop} (h : F_X12_starts w M a1 a2 = some (r, M')) (hq : Q (some (.int (z_tb r))) M') : z_Cl 2 mX12_starts [.ref 139, .int a1, .int a2] M Q := by
  refine g_in (ls := [some (.ref 139), some (.int a1), some (.int a2)]) rfl ?_
  unfold F_X12_starts at h
  refine g_iload_n dX12_starts_0 rfl rfl ?_
  refine g_if_lt (t := 17) dX12_starts_1 (by decide) (fun c1 => ?_) (fun c1 => ?_)
  · replace h := z_ift c1 h
    refine g_aload_n dX12_starts_17 rfl rfl ?_
    refine g_iconst (v := (5 : Int32)) dX12_starts_18 (by decide) ?_
    obtain ⟨q2, e3, h⟩ := z_bd h
    refine g_callV (a := 137) (as := [.int (5 : Int32)]) (rest := []) (c := mX12_no) (k1 := 0) dX12_starts_19 rfl rfl rfl sh_137 rfl rfl (Nat.le_of_ble_eq_true rfl) (Nat.le_of_ble_eq_true rfl) (by decide) ?_
    refine A_X12_no e3 ?_
    show z_G none 2 mX12_starts 22 [some (.ref 139), some (.int a1), some (.int a2)] [.int (z_tb q2.1)] q2.2 Q
    cases h
    exact g_iret dX12_starts_22 rfl nb_tb hq
  · replace h := z_iff c1 h
    refine g_iload_n dX12_starts_4 rfl rfl ?_
    refine g_aload_n dX12_starts_5 rfl rfl ?_
    refine g_get (a := 137) (v := .int (M.1 137 8)) dX12_starts_6 f_12_238 sh_137 rfl rfl ?_
    refine g_ic_gt (t := 17) dX12_starts_9 (by decide) (fun c4 => ?_) (fun c4 => ?_)
    · replace h := z_ift c4 h
      refine g_aload_n dX12_starts_17 rfl rfl ?_
      refine g_iconst (v := (5 : Int32)) dX12_starts_18 (by decide) ?_
      obtain ⟨q5, e6, h⟩ := z_bd h
      refine g_callV (a := 137) (as := [.int (5 : Int32)]) (rest := []) (c := mX12_no) (k1 := 0) dX12_starts_19 rfl rfl rfl sh_137 rfl rfl (Nat.le_of_ble_eq_true rfl) (Nat.le_of_ble_eq_true rfl) (by decide) ?_
      refine A_X12_no e6 ?_
      show z_G none 2 mX12_starts 22 [some (.ref 139), some (.int a1), some (.int a2)] [.int (z_tb q5.1)] q5.2 Q
      cases h
      exact g_iret dX12_starts_22 rfl nb_tb hq
    · replace h := z_iff c4 h
      refine g_iload_n dX12_starts_12 rfl rfl ?_
      refine g_iload_n dX12_starts_13 rfl rfl ?_
      refine g_ic_le (t := 23) dX12_starts_14 (by decide) (fun c7 => ?_) (fun c7 => ?_)
      · replace h := z_ift c7 h
        refine g_aload_n dX12_starts_23 rfl rfl ?_
        refine g_iload_n dX12_starts_24 rfl rfl ?_
        refine g_putI (a := 137) dX12_starts_25 f_12_100 sh_137 rfl rfl rfl ?_
        refine g_aload_n dX12_starts_28 rfl rfl ?_
        refine g_iconst (v := (0 : Int32)) dX12_starts_29 (by decide) ?_
        refine g_putI (a := 137) dX12_starts_30 f_12_238 sh_137 rfl rfl rfl ?_
        refine g_aload_n dX12_starts_33 rfl rfl ?_
        refine g_iconst (v := (0 : Int32)) dX12_starts_34 (by decide) ?_
        refine g_putI (a := 137) dX12_starts_35 f_12_103 sh_137 rfl rfl rfl ?_
        refine g_aload_n dX12_starts_38 rfl rfl ?_
        refine g_iconst (v := (0 : Int32)) dX12_starts_39 (by decide) ?_
        refine g_putI (a := 137) dX12_starts_40 f_12_212 sh_137 rfl rfl rfl ?_
        refine g_aload_n dX12_starts_43 rfl rfl ?_
        obtain ⟨q8, e9, h⟩ := z_bd h
        refine g_callV (a := 137) (as := []) (rest := []) (c := mX12_advance) (k1 := 1) dX12_starts_44 rfl rfl rfl sh_137 rfl rfl (Nat.le_of_ble_eq_true rfl) (Nat.le_of_ble_eq_true rfl) (by decide) ?_
        refine A_X12_advance e9 ?_
        show z_G none 2 mX12_starts 47 [some (.ref 139), some (.int a1), some (.int a2)] [] q8.2 Q
        refine g_iconst (v := (1 : Int32)) dX12_starts_47 (by decide) ?_
        cases h
        exact g_iret dX12_starts_48 rfl rfl hq
      · replace h := z_iff c7 h
        refine g_aload_n dX12_starts_17 rfl rfl ?_
        refine g_iconst (v := (5 : Int32)) dX12_starts_18 (by decide) ?_
        obtain ⟨q10, e11, h⟩ := z_bd h
        refine g_callV (a := 137) (as := [.int (5 : Int32)]) (rest := []) (c := mX12_no) (k1 := 0) dX12_starts_19 rfl rfl rfl sh_137 rfl rfl (Nat.le_of_ble_eq_true rfl) (Nat.le_of_ble_eq_true rfl) (by decide) ?_
        refine A_X12_no e11 ?_
        show z_G none 2 mX12_starts 22 [some (.ref 139), some (.int a1), some (.int a2)] [.int (z_tb q10.1)] q10.2 Q
        cases h
        exact g_iret dX12_starts_22 rfl nb_tb hq
theorem dX12_isWell_0 : decode cX12_isWell 0 = .ok (.aload_n 0, 1) := by decide +kernel
theorem dX12_isWell_1 : decode cX12_isWell 1 = .ok (.aload_n 0, 1) := by decide +kernel
theorem dX12_isWell_2 : decode cX12_isWell 2 = .ok (.getfield 212, 3) := by decide +kernel
theorem dX12_isWell_5 : decode cX12_isWell 5 = .ok (.putfield 28, 3) := by decide +kernel
theorem dX12_isWell_8 : decode cX12_isWell 8 = .ok (.aload_n 0, 1) := by decide +kernel
theorem dX12_isWell_9 : decode cX12_isWell 9 = .ok (.aload_n 0, 1) := by decide +kernel
theorem dX12_isWell_10 : decode cX12_isWell 10 = .ok (.getfield 212, 3) := by decide +kernel
theorem dX12_isWell_13 : decode cX12_isWell 13 = .ok (.ifCond .ne 7, 3) := by decide +kernel
theorem dX12_isWell_16 : decode cX12_isWell 16 = .ok (.iconst (-1), 1) := by decide +kernel
theorem dX12_isWell_17 : decode cX12_isWell 17 = .ok (.goto 7, 3) := by decide +kernel
theorem dX12_isWell_20 : decode cX12_isWell 20 = .ok (.aload_n 0, 1) := by decide +kernel
theorem dX12_isWell_21 : decode cX12_isWell 21 = .ok (.getfield 215, 3) := by decide +kernel
theorem dX12_isWell_24 : decode cX12_isWell 24 = .ok (.putfield 32, 3) := by decide +kernel
theorem dX12_isWell_27 : decode cX12_isWell 27 = .ok (.aload_n 0, 1) := by decide +kernel
theorem dX12_isWell_28 : decode cX12_isWell 28 = .ok (.getfield 212, 3) := by decide +kernel
theorem dX12_isWell_31 : decode cX12_isWell 31 = .ok (.ifCond .eq 12, 3) := by decide +kernel
theorem dX12_isWell_34 : decode cX12_isWell 34 = .ok (.aload_n 0, 1) := by decide +kernel
theorem dX12_isWell_35 : decode cX12_isWell 35 = .ok (.bipush 10, 2) := by decide +kernel
theorem dX12_isWell_37 : decode cX12_isWell 37 = .ok (.invokevirtual 72, 3) := by decide +kernel
theorem dX12_isWell_40 : decode cX12_isWell 40 = .ok (.ifCond .eq 7, 3) := by decide +kernel
theorem dX12_isWell_43 : decode cX12_isWell 43 = .ok (.iconst 1, 1) := by decide +kernel
theorem dX12_isWell_44 : decode cX12_isWell 44 = .ok (.goto 4, 3) := by decide +kernel
theorem dX12_isWell_47 : decode cX12_isWell 47 = .ok (.iconst 0, 1) := by decide +kernel
theorem dX12_isWell_48 : decode cX12_isWell 48 = .ok (.ireturn, 1) := by decide +kernel
def F_X12_isWell (w : Nat) (M : z_Mem) : Option (Bool × z_Mem) :=
  if (M.1 137 12) = (0 : Int32) then
  if (M.1 137 12) = (0 : Int32) then
  some (true, (z_wI (z_wI M 137 10 (M.1 137 12)) 137 11 (-1 : Int32)))
  else
  (F_X12_no w (z_wI (z_wI M 137 10 (M.1 137 12)) 137 11 (-1 : Int32)) (10 : Int32)).bind fun q7 =>
  if q7.1 = true then
  some (true, q7.2)
  else
  some (false, q7.2)
  else
  if (M.1 137 12) = (0 : Int32) then
  some (true, (z_wI (z_wI M 137 10 (M.1 137 12)) 137 11 (M.1 137 13)))
  else
  (F_X12_no w (z_wI (z_wI M 137 10 (M.1 137 12)) 137 11 (M.1 137 13)) (10 : Int32)).bind fun q3 =>
  if q3.1 = true then
  some (true, q3.2)
  else
  some (false, q3.2)
set_option maxHeartbeats 4000000 in
theorem A_X12_isWell {w : Nat} {M : z_Mem} {r : Bool} {M' : z_Mem} {Q : Option Value → z_Mem → Prop} (h : F_X12_isWell w M = some (r, M')) (hq : Q (some (.int (z_tb r))) M') : z_Cl 1 mX12_isWell [.ref 139] M Q := by
  refine g_in (ls := [some (.ref 139)]) rfl ?_
  unfold F_X12_isWell at h
  refine g_aload_n dX12_isWell_0 rfl rfl ?_
  refine g_aload_n dX12_isWell_1 rfl rfl ?_
  refine g_get (a := 137) (v := .int (M.1 137 12)) dX12_isWell_2 f_12_212 sh_137 rfl rfl ?_
  refine g_putI (a := 137) dX12_isWell_5 f_12_28 sh_137 rfl rfl rfl ?_
  refine g_aload_n dX12_isWell_8 rfl rfl ?_
  refine g_aload_n dX12_isWell_9 rfl rfl ?_
  refine g_get (a := 137) (v := .int (M.1 137 12)) dX12_isWell_10 f_12_212 sh_137 rfl (by simp [z_fv, z_wI, z_wL, z_wLs, upd, vp_updL]) ?_
  refine g_if_ne (t := 20) dX12_isWell_13 (by decide) (fun c1 => ?_) (fun c1 => ?_)
  · replace h := z_iff c1 h
    refine g_aload_n dX12_isWell_20 rfl rfl ?_
    refine g_get (a := 137) (v := .int (M.1 137 13)) dX12_isWell_21 f_12_215 sh_137 rfl (by simp [z_fv, z_wI, z_wL, z_wLs, upd, vp_updL]) ?_
    refine g_putI (a := 137) dX12_isWell_24 f_12_32 sh_137 rfl rfl rfl ?_
    refine g_aload_n dX12_isWell_27 rfl rfl ?_
    refine g_get (a := 137) (v := .int (M.1 137 12)) dX12_isWell_28 f_12_212 sh_137 rfl (by simp [z_fv, z_wI, z_wL, z_wLs, upd, vp_updL]) ?_
    refine g_if_eq (t := 43) dX12_isWell_31 (by decide) (fun c2 => ?_) (fun c2 => ?_)
    · replace h := z_ift c2 h
      refine g_iconst (v := (1 : Int32)) dX12_isWell_43 (by decide) ?_
      refine g_goto (t := 48) dX12_isWell_44 (by decide) ?_
      cases h
      exact g_iret dX12_isWell_48 rfl rfl hq
    · replace h := z_iff c2 h
      refine g_aload_n dX12_isWell_34 rfl rfl ?_
      refine g_bipush (v := (10 : Int32)) dX12_isWell_35 (by decide) ?_
      obtain ⟨q3, e4, h⟩ := z_bd h
      refine g_callV (a := 137) (as := [.int (10 : Int32)]) (rest := []) (c := mX12_no) (k1 := 0) dX12_isWell_37 rfl rfl rfl sh_137 rfl rfl (Nat.le_of_ble_eq_true rfl) (Nat.le_of_ble_eq_true rfl) (by decide) ?_
      refine A_X12_no e4 ?_
      show z_G none 1 mX12_isWell 40 [some (.ref 139)] [.int (z_tb q3.1)] q3.2 Q
      refine g_if_eq (t := 47) dX12_isWell_40 (by decide) (fun c5 => ?_) (fun c5 => ?_)
      · replace h := z_iff (z_tb0.mp c5) h
        refine g_iconst (v := (0 : Int32)) dX12_isWell_47 (by decide) ?_
        cases h
        exact g_iret dX12_isWell_48 rfl rfl hq
      · replace h := z_ift (z_tbn.mp c5) h
        refine g_iconst (v := (1 : Int32)) dX12_isWell_43 (by decide) ?_
        refine g_goto (t := 48) dX12_isWell_44 (by decide) ?_
        cases h
        exact g_iret dX12_isWell_48 rfl rfl hq
  · replace h := z_ift c1 h
    refine g_iconst (v := (-1 : Int32)) dX12_isWell_16 (by decide) ?_
    refine g_goto (t := 24) dX12_isWell_17 (by decide) ?_
    refine g_putI (a := 137) dX12_isWell_24 f_12_32 sh_137 rfl rfl rfl ?_
    refine g_aload_n dX12_isWell_27 rfl rfl ?_
    refine g_get (a := 137) (v := .int (M.1 137 12)) dX12_isWell_28 f_12_212 sh_137 rfl (by simp [z_fv, z_wI, z_wL, z_wLs, upd, vp_updL]) ?_
    refine g_if_eq (t := 43) dX12_isWell_31 (by decide) (fun c6 => ?_) (fun c6 => ?_)
    · replace h := z_ift c6 h
      refine g_iconst (v := (1 : Int32)) dX12_isWell_43 (by decide) ?_
      refine g_goto (t := 48) dX12_isWell_44 (by decide) ?_
      cases h
      exact g_iret dX12_isWell_48 rfl rfl hq
    · replace h := z_iff c6 h
      refine g_aload_n dX12_isWell_34 rfl rfl ?_
      refine g_bipush (v := (10 : Int32)) dX12_isWell_35 (by decide) ?_
      obtain ⟨q7, e8, h⟩ := z_bd h
      refine g_callV (a := 137) (as := [.int (10 : Int32)]) (rest := []) (c := mX12_no) (k1 := 0) dX12_isWell_37 rfl rfl rfl sh_137 rfl rfl (Nat.le_of_ble_eq_true rfl) (Nat.le_of_ble_eq_true rfl) (by decide) ?_
      refine A_X12_no e8 ?_
      show z_G none 1 mX12_isWell 40 [some (.ref 139)] [.int (z_tb q7.1)] q7.2 Q
      refine g_if_eq (t := 47) dX12_isWell_40 (by decide) (fun c9 => ?_) (fun c9 => ?_)
      · replace h := z_iff (z_tb0.mp c9) h
        refine g_iconst (v := (0 : Int32)) dX12_isWell_47 (by decide) ?_
        cases h
        exact g_iret dX12_isWell_48 rfl rfl hq
      · replace h := z_ift (z_tbn.mp c9) h
        refine g_iconst (v := (1 : Int32)) dX12_isWell_43 (by decide) ?_
        refine g_goto (t := 48) dX12_isWell_44 (by decide) ?_
        cases h
        exact g_iret dX12_isWell_48 rfl rfl hq
theorem dX12_fault_0 : decode cX12_fault 0 = .ok (.aload_n 0, 1) := by decide +kernel
theorem dX12_fault_1 : decode cX12_fault 1 = .ok (.iconst 0, 1) := by decide +kernel
theorem dX12_fault_2 : decode cX12_fault 2 = .ok (.putfield 57, 3) := by decide +kernel
theorem dX12_fault_5 : decode cX12_fault 5 = .ok (.iload_n 1, 1) := by decide +kernel
theorem dX12_fault_6 : decode cX12_fault 6 = .ok (.ifCond .ne 10, 3) := by decide +kernel
theorem dX12_fault_9 : decode cX12_fault 9 = .ok (.aload_n 0, 1) := by decide +kernel
theorem dX12_fault_10 : decode cX12_fault 10 = .ok (.getfield 28, 3) := by decide +kernel
theorem dX12_fault_13 : decode cX12_fault 13 = .ok (.goto 16, 3) := by decide +kernel
theorem dX12_fault_16 : decode cX12_fault 16 = .ok (.iload_n 1, 1) := by decide +kernel
theorem dX12_fault_17 : decode cX12_fault 17 = .ok (.iconst 1, 1) := by decide +kernel
theorem dX12_fault_18 : decode cX12_fault 18 = .ok (.if_icmp .ne 10, 3) := by decide +kernel
theorem dX12_fault_21 : decode cX12_fault 21 = .ok (.aload_n 0, 1) := by decide +kernel
theorem dX12_fault_22 : decode cX12_fault 22 = .ok (.getfield 32, 3) := by decide +kernel
theorem dX12_fault_25 : decode cX12_fault 25 = .ok (.goto 4, 3) := by decide +kernel
theorem dX12_fault_28 : decode cX12_fault 28 = .ok (.iconst (-1), 1) := by decide +kernel
theorem dX12_fault_29 : decode cX12_fault 29 = .ok (.ireturn, 1) := by decide +kernel
def F_X12_fault (w : Nat) (M : z_Mem) (a1 : Int32) : Option (Int32 × z_Mem) :=
  if a1 = (0 : Int32) then
  some (M.1 137 10, (z_wI M 137 1 (0 : Int32)))
  else
  if a1 = (1 : Int32) then
  some (M.1 137 11, (z_wI M 137 1 (0 : Int32)))
  else
  some ((-1 : Int32), (z_wI M 137 1 (0 : Int32)))
set_option maxHeartbeats 4000000 in
theorem A_X12_fault {w : Nat} {M : z_Mem} {a1 : Int32} {r : Int32} {M' : z_Mem} {Q : Option Value → z_Mem → Prop} (h : F_X12_fault w M a1 = some (r, M')) (hq : Q (some (.int r)) M') : z_Cl 0 mX12_fault [.ref 139, .int a1] M Q := by
  refine g_in (ls := [some (.ref 139), some (.int a1)]) rfl ?_
  unfold F_X12_fault at h
  refine g_aload_n dX12_fault_0 rfl rfl ?_
  refine g_iconst (v := (0 : Int32)) dX12_fault_1 (by decide) ?_
  refine g_putI (a := 137) dX12_fault_2 f_12_57 sh_137 rfl rfl rfl ?_
  refine g_iload_n dX12_fault_5 rfl rfl ?_
  refine g_if_ne (t := 16) dX12_fault_6 (by decide) (fun c1 => ?_) (fun c1 => ?_)
  · replace h := z_iff c1 h
    refine g_iload_n dX12_fault_16 rfl rfl ?_
    refine g_iconst (v := (1 : Int32)) dX12_fault_17 (by decide) ?_
    refine g_ic_ne (t := 28) dX12_fault_18 (by decide) (fun c2 => ?_) (fun c2 => ?_)
    · replace h := z_iff c2 h
      refine g_iconst (v := (-1 : Int32)) dX12_fault_28 (by decide) ?_
      cases h
      exact g_iret dX12_fault_29 rfl rfl hq
    · replace h := z_ift c2 h
      refine g_aload_n dX12_fault_21 rfl rfl ?_
      refine g_get (a := 137) (v := .int (M.1 137 11)) dX12_fault_22 f_12_32 sh_137 rfl (by simp [z_fv, z_wI, z_wL, z_wLs, upd, vp_updL]) ?_
      refine g_goto (t := 29) dX12_fault_25 (by decide) ?_
      cases h
      exact g_iret dX12_fault_29 rfl rfl hq
  · replace h := z_ift c1 h
    refine g_aload_n dX12_fault_9 rfl rfl ?_
    refine g_get (a := 137) (v := .int (M.1 137 10)) dX12_fault_10 f_12_28 sh_137 rfl (by simp [z_fv, z_wI, z_wL, z_wLs, upd, vp_updL]) ?_
    refine g_goto (t := 29) dX12_fault_13 (by decide) ?_
    cases h
    exact g_iret dX12_fault_29 rfl rfl hq
theorem dX12_empties_0 : decode cX12_empties 0 = .ok (.sipush 375, 3) := by decide +kernel
theorem dX12_empties_3 : decode cX12_empties 3 = .ok (.iload_n 1, 1) := by decide +kernel
theorem dX12_empties_4 : decode cX12_empties 4 = .ok (.imul, 1) := by decide +kernel
theorem dX12_empties_5 : decode cX12_empties 5 = .ok (.istore_n 2, 1) := by decide +kernel
theorem dX12_empties_6 : decode cX12_empties 6 = .ok (.iconst 0, 1) := by decide +kernel
theorem dX12_empties_7 : decode cX12_empties 7 = .ok (.istore_n 3, 1) := by decide +kernel
theorem dX12_empties_8 : decode cX12_empties 8 = .ok (.iload_n 3, 1) := by decide +kernel
theorem dX12_empties_9 : decode cX12_empties 9 = .ok (.sipush 375, 3) := by decide +kernel
theorem dX12_empties_12 : decode cX12_empties 12 = .ok (.if_icmp .ge 18, 3) := by decide +kernel
theorem dX12_empties_15 : decode cX12_empties 15 = .ok (.aload_n 0, 1) := by decide +kernel
theorem dX12_empties_16 : decode cX12_empties 16 = .ok (.getfield 35, 3) := by decide +kernel
theorem dX12_empties_19 : decode cX12_empties 19 = .ok (.iload_n 2, 1) := by decide +kernel
theorem dX12_empties_20 : decode cX12_empties 20 = .ok (.iload_n 3, 1) := by decide +kernel
theorem dX12_empties_21 : decode cX12_empties 21 = .ok (.iadd, 1) := by decide +kernel
theorem dX12_empties_22 : decode cX12_empties 22 = .ok (.iconst 0, 1) := by decide +kernel
theorem dX12_empties_23 : decode cX12_empties 23 = .ok (.iastore, 1) := by decide +kernel
theorem dX12_empties_24 : decode cX12_empties 24 = .ok (.iinc 3 1, 3) := by decide +kernel
theorem dX12_empties_27 : decode cX12_empties 27 = .ok (.goto (-19), 3) := by decide +kernel
theorem dX12_empties_30 : decode cX12_empties 30 = .ok (.aload_n 0, 1) := by decide +kernel
theorem dX12_empties_31 : decode cX12_empties 31 = .ok (.getfield 35, 3) := by decide +kernel
theorem dX12_empties_34 : decode cX12_empties 34 = .ok (.iload_n 2, 1) := by decide +kernel
theorem dX12_empties_35 : decode cX12_empties 35 = .ok (.iconst 5, 1) := by decide +kernel
theorem dX12_empties_36 : decode cX12_empties 36 = .ok (.iadd, 1) := by decide +kernel
theorem dX12_empties_37 : decode cX12_empties 37 = .ok (.bipush 8, 2) := by decide +kernel
theorem dX12_empties_39 : decode cX12_empties 39 = .ok (.iastore, 1) := by decide +kernel
theorem dX12_empties_40 : decode cX12_empties 40 = .ok (.aload_n 0, 1) := by decide +kernel
theorem dX12_empties_41 : decode cX12_empties 41 = .ok (.getfield 35, 3) := by decide +kernel
theorem dX12_empties_44 : decode cX12_empties 44 = .ok (.iload_n 2, 1) := by decide +kernel
theorem dX12_empties_45 : decode cX12_empties 45 = .ok (.bipush 6, 2) := by decide +kernel
theorem dX12_empties_47 : decode cX12_empties 47 = .ok (.iadd, 1) := by decide +kernel
theorem dX12_empties_48 : decode cX12_empties 48 = .ok (.iconst 2, 1) := by decide +kernel
theorem dX12_empties_49 : decode cX12_empties 49 = .ok (.iastore, 1) := by decide +kernel
theorem dX12_empties_50 : decode cX12_empties 50 = .ok (.aload_n 0, 1) := by decide +kernel
theorem dX12_empties_51 : decode cX12_empties 51 = .ok (.getfield 35, 3) := by decide +kernel
theorem dX12_empties_54 : decode cX12_empties 54 = .ok (.iload_n 2, 1) := by decide +kernel
theorem dX12_empties_55 : decode cX12_empties 55 = .ok (.bipush 7, 2) := by decide +kernel
theorem dX12_empties_57 : decode cX12_empties 57 = .ok (.iadd, 1) := by decide +kernel
theorem dX12_empties_58 : decode cX12_empties 58 = .ok (.iconst 5, 1) := by decide +kernel
theorem dX12_empties_59 : decode cX12_empties 59 = .ok (.iastore, 1) := by decide +kernel
theorem dX12_empties_60 : decode cX12_empties 60 = .ok (.return_, 1) := by decide +kernel
def L_X12_empties (w : Nat) : Nat → z_Mem → Int32 → Int32 → Option (Unit × z_Mem)
  | 0, _, _, _ => none
  | c + 1, M, x2, x3 =>
    if (375 : Int32) ≤ x3 then
    if (x2 + (5 : Int32)) < 0 ∨ 1875 ≤ (x2 + (5 : Int32)).toNatClampNeg then none else
    if (x2 + (6 : Int32)) < 0 ∨ 1875 ≤ (x2 + (6 : Int32)).toNatClampNeg then none else
    if (x2 + (7 : Int32)) < 0 ∨ 1875 ≤ (x2 + (7 : Int32)).toNatClampNeg then none else
    some ((), (z_wI (z_wI (z_wI M 142 ((x2 + (5 : Int32)).toNatClampNeg) (8 : Int32)) 142 ((x2 + (6 : Int32)).toNatClampNeg) (2 : Int32)) 142 ((x2 + (7 : Int32)).toNatClampNeg) (5 : Int32)))
    else
    if (x2 + x3) < 0 ∨ 1875 ≤ (x2 + x3).toNatClampNeg then none else
    L_X12_empties w c (z_wI M 142 ((x2 + x3).toNatClampNeg) (0 : Int32)) x2 (x3 + (1 : Int32))
set_option maxHeartbeats 4000000 in
theorem AL_X12_empties {w : Nat} : ∀ (c : Nat), (∀ (M : z_Mem) (x2 : Int32) (x3 : Int32) (r : Unit) (M' : z_Mem) (Q : Option Value → z_Mem → Prop), L_X12_empties w c M x2 x3 = some (r, M') → Q none M' → z_G none 0 mX12_empties 8 [some (.ref 139), none, some (.int x2), some (.int x3)] [] M Q) := by
  intro c
  induction c with
  | zero => exact (fun M x2 x3 r M' Q h hq => by rw [L_X12_empties] at h; cases h)
  | succ c ih =>
    intro M x2 x3 r M' Q h hq
    rw [L_X12_empties] at h
    refine g_iload_n dX12_empties_8 rfl rfl ?_
    refine g_sipush (v := (375 : Int32)) dX12_empties_9 (by decide) ?_
    refine g_ic_ge (t := 30) dX12_empties_12 (by decide) (fun c1 => ?_) (fun c1 => ?_)
    · replace h := z_ift c1 h
      refine g_aload_n dX12_empties_30 rfl rfl ?_
      refine g_get (a := 137) (v := .ref 144) dX12_empties_31 f_12_35 sh_137 rfl rfl ?_
      refine g_iload_n dX12_empties_34 rfl rfl ?_
      refine g_iconst (v := (5 : Int32)) dX12_empties_35 (by decide) ?_
      refine g_iadd dX12_empties_36 ?_
      refine g_bipush (v := (8 : Int32)) dX12_empties_37 (by decide) ?_
      by_cases g2 : (x2 + (5 : Int32)) < 0 ∨ 1875 ≤ (x2 + (5 : Int32)).toNatClampNeg
      · rw [if_pos g2] at h; cases h
      replace h := z_iff g2 h
      refine g_iast (a := 142) dX12_empties_39 sh_142 g2 ?_
      refine g_aload_n dX12_empties_40 rfl rfl ?_
      refine g_get (a := 137) (v := .ref 144) dX12_empties_41 f_12_35 sh_137 rfl rfl ?_
      refine g_iload_n dX12_empties_44 rfl rfl ?_
      refine g_bipush (v := (6 : Int32)) dX12_empties_45 (by decide) ?_
      refine g_iadd dX12_empties_47 ?_
      refine g_iconst (v := (2 : Int32)) dX12_empties_48 (by decide) ?_
      by_cases g3 : (x2 + (6 : Int32)) < 0 ∨ 1875 ≤ (x2 + (6 : Int32)).toNatClampNeg
      · rw [if_pos g3] at h; cases h
      replace h := z_iff g3 h
      refine g_iast (a := 142) dX12_empties_49 sh_142 g3 ?_
      refine g_aload_n dX12_empties_50 rfl rfl ?_
      refine g_get (a := 137) (v := .ref 144) dX12_empties_51 f_12_35 sh_137 rfl rfl ?_
      refine g_iload_n dX12_empties_54 rfl rfl ?_
      refine g_bipush (v := (7 : Int32)) dX12_empties_55 (by decide) ?_
      refine g_iadd dX12_empties_57 ?_
      refine g_iconst (v := (5 : Int32)) dX12_empties_58 (by decide) ?_
      by_cases g4 : (x2 + (7 : Int32)) < 0 ∨ 1875 ≤ (x2 + (7 : Int32)).toNatClampNeg
      · rw [if_pos g4] at h; cases h
      replace h := z_iff g4 h
      refine g_iast (a := 142) dX12_empties_59 sh_142 g4 ?_
      cases h
      exact g_vret dX12_empties_60 rfl hq
    · replace h := z_iff c1 h
      refine g_aload_n dX12_empties_15 rfl rfl ?_
      refine g_get (a := 137) (v := .ref 144) dX12_empties_16 f_12_35 sh_137 rfl rfl ?_
      refine g_iload_n dX12_empties_19 rfl rfl ?_
      refine g_iload_n dX12_empties_20 rfl rfl ?_
      refine g_iadd dX12_empties_21 ?_
      refine g_iconst (v := (0 : Int32)) dX12_empties_22 (by decide) ?_
      by_cases g5 : (x2 + x3) < 0 ∨ 1875 ≤ (x2 + x3).toNatClampNeg
      · rw [if_pos g5] at h; cases h
      replace h := z_iff g5 h
      refine g_iast (a := 142) dX12_empties_23 sh_142 g5 ?_
      refine g_iinc (v := x3 + (1 : Int32)) (ls' := [some (.ref 139), none, some (.int x2), some (.int (x3 + (1 : Int32)))]) dX12_empties_24 rfl rfl rfl ?_
      refine g_goto (t := 8) dX12_empties_27 (by decide) ?_
      exact g_sub (z_sub_s (z_sub_n (z_sub_s (z_sub_s z_sub_nil)))) (ih _ _ _ _ _ _ h hq)
def F_X12_empties (w : Nat) (M : z_Mem) (a1 : Int32) : Option (Unit × z_Mem) :=
  L_X12_empties w w M ((375 : Int32) * a1) (0 : Int32)
set_option maxHeartbeats 4000000 in
theorem A_X12_empties {w : Nat} {M : z_Mem} {a1 : Int32} {r : Unit} {M' : z_Mem} {Q : Option Value → z_Mem → Prop} (h : F_X12_empties w M a1 = some (r, M')) (hq : Q none M') : z_Cl 0 mX12_empties [.ref 139, .int a1] M Q := by
  refine g_in (ls := [some (.ref 139), some (.int a1), none, none]) rfl ?_
  unfold F_X12_empties at h
  refine g_sipush (v := (375 : Int32)) dX12_empties_0 (by decide) ?_
  refine g_iload_n dX12_empties_3 rfl rfl ?_
  refine g_imul dX12_empties_4 ?_
  refine g_istore_n (ls' := [some (.ref 139), some (.int a1), some (.int ((375 : Int32) * a1)), none]) dX12_empties_5 rfl (Nat.le_of_ble_eq_true rfl) rfl ?_
  refine g_iconst (v := (0 : Int32)) dX12_empties_6 (by decide) ?_
  refine g_istore_n (ls' := [some (.ref 139), some (.int a1), some (.int ((375 : Int32) * a1)), some (.int (0 : Int32))]) dX12_empties_7 rfl (Nat.le_of_ble_eq_true rfl) rfl ?_
  exact g_sub (z_sub_s (z_sub_n (z_sub_s (z_sub_s z_sub_nil)))) ((AL_X12_empties (w := w) w) _ _ _ _ _ _ h hq)
theorem dX12_named_0 : decode cX12_named 0 = .ok (.iconst 0, 1) := by decide +kernel
theorem dX12_named_1 : decode cX12_named 1 = .ok (.istore_n 1, 1) := by decide +kernel
theorem dX12_named_2 : decode cX12_named 2 = .ok (.iload_n 1, 1) := by decide +kernel
theorem dX12_named_3 : decode cX12_named 3 = .ok (.aload_n 0, 1) := by decide +kernel
theorem dX12_named_4 : decode cX12_named 4 = .ok (.getfield 35, 3) := by decide +kernel
theorem dX12_named_7 : decode cX12_named 7 = .ok (.sipush 1502, 3) := by decide +kernel
theorem dX12_named_10 : decode cX12_named 10 = .ok (.iaload, 1) := by decide +kernel
theorem dX12_named_11 : decode cX12_named 11 = .ok (.if_icmp .ge 25, 3) := by decide +kernel
theorem dX12_named_14 : decode cX12_named 14 = .ok (.aload_n 0, 1) := by decide +kernel
theorem dX12_named_15 : decode cX12_named 15 = .ok (.getfield 41, 3) := by decide +kernel
theorem dX12_named_18 : decode cX12_named 18 = .ok (.iload_n 1, 1) := by decide +kernel
theorem dX12_named_19 : decode cX12_named 19 = .ok (.laload, 1) := by decide +kernel
theorem dX12_named_20 : decode cX12_named 20 = .ok (.aload_n 0, 1) := by decide +kernel
theorem dX12_named_21 : decode cX12_named 21 = .ok (.getfield 118, 3) := by decide +kernel
theorem dX12_named_24 : decode cX12_named 24 = .ok (.lcmp, 1) := by decide +kernel
theorem dX12_named_25 : decode cX12_named 25 = .ok (.ifCond .ne 5, 3) := by decide +kernel
theorem dX12_named_28 : decode cX12_named 28 = .ok (.iload_n 1, 1) := by decide +kernel
theorem dX12_named_29 : decode cX12_named 29 = .ok (.ireturn, 1) := by decide +kernel
theorem dX12_named_30 : decode cX12_named 30 = .ok (.iinc 1 1, 3) := by decide +kernel
theorem dX12_named_33 : decode cX12_named 33 = .ok (.goto (-31), 3) := by decide +kernel
theorem dX12_named_36 : decode cX12_named 36 = .ok (.iconst (-1), 1) := by decide +kernel
theorem dX12_named_37 : decode cX12_named 37 = .ok (.ireturn, 1) := by decide +kernel
def L_X12_named (w : Nat) : Nat → z_Mem → Int32 → Option (Int32 × z_Mem)
  | 0, _, _ => none
  | c + 1, M, x1 =>
    if (M.1 142 1502) ≤ x1 then
    some ((-1 : Int32), M)
    else
    if x1 < 0 ∨ 6 ≤ x1.toNatClampNeg then none else
    if (lg_cmp (M.2 144 x1.toNatClampNeg) (M.2 137 19)) = (0 : Int32) then
    some (x1, M)
    else
    L_X12_named w c M (x1 + (1 : Int32))
set_option maxHeartbeats 4000000 in
theorem AL_X12_named {w : Nat} : ∀ (c : Nat), (∀ (M : z_Mem) (x1 : Int32) (r : Int32) (M' : z_Mem) (Q : Option Value → z_Mem → Prop), L_X12_named w c M x1 = some (r, M') → Q (some (.int r)) M' → z_G none 0 mX12_named 2 [some (.ref 139), some (.int x1)] [] M Q) := by
  intro c
  induction c with
  | zero => exact (fun M x1 r M' Q h hq => by rw [L_X12_named] at h; cases h)
  | succ c ih =>
    intro M x1 r M' Q h hq
    rw [L_X12_named] at h
    refine g_iload_n dX12_named_2 rfl rfl ?_
    refine g_aload_n dX12_named_3 rfl rfl ?_
    refine g_get (a := 137) (v := .ref 144) dX12_named_4 f_12_35 sh_137 rfl rfl ?_
    refine g_sipush (v := (1502 : Int32)) dX12_named_7 (by decide) ?_
    refine g_ialN (a := 142) (j := 1502) (v := M.1 142 1502) dX12_named_10 sh_142 rfl (by decide) rfl ?_
    refine g_ic_ge (t := 36) dX12_named_11 (by decide) (fun c1 => ?_) (fun c1 => ?_)
    · replace h := z_ift c1 h
      refine g_iconst (v := (-1 : Int32)) dX12_named_36 (by decide) ?_
      cases h
      exact g_iret dX12_named_37 rfl rfl hq
    · replace h := z_iff c1 h
      refine g_aload_n dX12_named_14 rfl rfl ?_
      refine g_get (a := 137) (v := .ref 146) dX12_named_15 f_12_41 sh_137 rfl rfl ?_
      refine g_iload_n dX12_named_18 rfl rfl ?_
      by_cases g2 : x1 < 0 ∨ 6 ≤ x1.toNatClampNeg
      · rw [if_pos g2] at h; cases h
      replace h := z_iff g2 h
      refine g_lald (a := 144) dX12_named_19 sh_144 g2 ?_
      refine g_aload_n dX12_named_20 rfl rfl ?_
      refine g_get (a := 137) (v := .long (M.2 137 19)) dX12_named_21 f_12_118 sh_137 rfl rfl ?_
      refine g_lcmp dX12_named_24 ?_
      refine g_if_ne (t := 30) dX12_named_25 (by decide) (fun c3 => ?_) (fun c3 => ?_)
      · replace h := z_iff c3 h
        refine g_iinc (v := x1 + (1 : Int32)) (ls' := [some (.ref 139), some (.int (x1 + (1 : Int32)))]) dX12_named_30 rfl rfl rfl ?_
        refine g_goto (t := 2) dX12_named_33 (by decide) ?_
        exact g_sub (z_sub_s (z_sub_s z_sub_nil)) (ih _ _ _ _ _ h hq)
      · replace h := z_ift c3 h
        refine g_iload_n dX12_named_28 rfl rfl ?_
        cases h
        exact g_iret dX12_named_29 rfl rfl hq
def F_X12_named (w : Nat) (M : z_Mem) : Option (Int32 × z_Mem) :=
  L_X12_named w w M (0 : Int32)
set_option maxHeartbeats 4000000 in
theorem A_X12_named {w : Nat} {M : z_Mem} {r : Int32} {M' : z_Mem} {Q : Option Value → z_Mem → Prop} (h : F_X12_named w M = some (r, M')) (hq : Q (some (.int r)) M') : z_Cl 0 mX12_named [.ref 139] M Q := by
  refine g_in (ls := [some (.ref 139), none]) rfl ?_
  unfold F_X12_named at h
  refine g_iconst (v := (0 : Int32)) dX12_named_0 (by decide) ?_
  refine g_istore_n (ls' := [some (.ref 139), some (.int (0 : Int32))]) dX12_named_1 rfl (Nat.le_of_ble_eq_true rfl) rfl ?_
  exact g_sub (z_sub_s (z_sub_s z_sub_nil)) ((AL_X12_named (w := w) w) _ _ _ _ _ h hq)
theorem dX12_once_0 : decode cX12_once 0 = .ok (.aload_n 0, 1) := by decide +kernel
theorem dX12_once_1 : decode cX12_once 1 = .ok (.getfield 244, 3) := by decide +kernel
theorem dX12_once_4 : decode cX12_once 4 = .ok (.iload_n 1, 1) := by decide +kernel
theorem dX12_once_5 : decode cX12_once 5 = .ok (.invokestatic 96, 3) := by decide +kernel
theorem dX12_once_8 : decode cX12_once 8 = .ok (.ifCond .eq 12, 3) := by decide +kernel
theorem dX12_once_11 : decode cX12_once 11 = .ok (.aload_n 0, 1) := by decide +kernel
theorem dX12_once_12 : decode cX12_once 12 = .ok (.iconst 5, 1) := by decide +kernel
theorem dX12_once_13 : decode cX12_once 13 = .ok (.aload_n 0, 1) := by decide +kernel
theorem dX12_once_14 : decode cX12_once 14 = .ok (.getfield 106, 3) := by decide +kernel
theorem dX12_once_17 : decode cX12_once 17 = .ok (.invokevirtual 218, 3) := by decide +kernel
theorem dX12_once_20 : decode cX12_once 20 = .ok (.aload_n 0, 1) := by decide +kernel
theorem dX12_once_21 : decode cX12_once 21 = .ok (.dup, 1) := by decide +kernel
theorem dX12_once_22 : decode cX12_once 22 = .ok (.getfield 244, 3) := by decide +kernel
theorem dX12_once_25 : decode cX12_once 25 = .ok (.iconst 1, 1) := by decide +kernel
theorem dX12_once_26 : decode cX12_once 26 = .ok (.iload_n 1, 1) := by decide +kernel
theorem dX12_once_27 : decode cX12_once 27 = .ok (.ishl, 1) := by decide +kernel
theorem dX12_once_28 : decode cX12_once 28 = .ok (.ior, 1) := by decide +kernel
theorem dX12_once_29 : decode cX12_once 29 = .ok (.putfield 244, 3) := by decide +kernel
theorem dX12_once_32 : decode cX12_once 32 = .ok (.aload_n 0, 1) := by decide +kernel
theorem dX12_once_33 : decode cX12_once 33 = .ok (.iconst 1, 1) := by decide +kernel
theorem dX12_once_34 : decode cX12_once 34 = .ok (.invokevirtual 228, 3) := by decide +kernel
theorem dX12_once_37 : decode cX12_once 37 = .ok (.return_, 1) := by decide +kernel
def F_X12_once (w : Nat) (M : z_Mem) (a1 : Int32) : Option (Unit × z_Mem) :=
  (F_X12_has w M (M.1 137 24) a1).bind fun q1 =>
  if q1.1 = true then
  (F_X12_fail w q1.2 (5 : Int32) (q1.2.1 137 15)).bind fun q6 =>
  (F_X12_must w (z_wI q6.2 137 24 ((q6.2.1 137 24) ||| ((1 : Int32) <<< (a1 &&& 31)))) (1 : Int32)).bind fun q8 =>
  some ((), q8.2)
  else
  (F_X12_must w (z_wI q1.2 137 24 ((q1.2.1 137 24) ||| ((1 : Int32) <<< (a1 &&& 31)))) (1 : Int32)).bind fun q4 =>
  some ((), q4.2)
set_option maxHeartbeats 4000000 in
theorem A_X12_once {w : Nat} {M : z_Mem} {a1 : Int32} {r : Unit} {M' : z_Mem} {Q : Option Value → z_Mem → Prop} (h : F_X12_once w M a1 = some (r, M')) (hq : Q none M') : z_Cl 3 mX12_once [.ref 139, .int a1] M Q := by
  refine g_in (ls := [some (.ref 139), some (.int a1)]) rfl ?_
  unfold F_X12_once at h
  refine g_aload_n dX12_once_0 rfl rfl ?_
  refine g_get (a := 137) (v := .int (M.1 137 24)) dX12_once_1 f_12_244 sh_137 rfl rfl ?_
  refine g_iload_n dX12_once_4 rfl rfl ?_
  obtain ⟨q1, e2, h⟩ := z_bd h
  refine g_callS (as := [.int (M.1 137 24), .int a1]) (rest := []) (c := mX12_has) (k1 := 0) dX12_once_5 rfl rfl rfl rfl rfl (Nat.le_of_ble_eq_true rfl) (Nat.le_of_ble_eq_true rfl) (by decide) ?_
  refine A_X12_has e2 ?_
  show z_G none 3 mX12_once 8 [some (.ref 139), some (.int a1)] [.int (z_tb q1.1)] q1.2 Q
  refine g_if_eq (t := 20) dX12_once_8 (by decide) (fun c3 => ?_) (fun c3 => ?_)
  · replace h := z_iff (z_tb0.mp c3) h
    refine g_aload_n dX12_once_20 rfl rfl ?_
    refine g_dup dX12_once_21 rfl ?_
    refine g_get (a := 137) (v := .int (q1.2.1 137 24)) dX12_once_22 f_12_244 sh_137 rfl rfl ?_
    refine g_iconst (v := (1 : Int32)) dX12_once_25 (by decide) ?_
    refine g_iload_n dX12_once_26 rfl rfl ?_
    refine g_ishl dX12_once_27 ?_
    refine g_ior dX12_once_28 ?_
    refine g_putI (a := 137) dX12_once_29 f_12_244 sh_137 rfl rfl rfl ?_
    refine g_aload_n dX12_once_32 rfl rfl ?_
    refine g_iconst (v := (1 : Int32)) dX12_once_33 (by decide) ?_
    obtain ⟨q4, e5, h⟩ := z_bd h
    refine g_callV (a := 137) (as := [.int (1 : Int32)]) (rest := []) (c := mX12_must) (k1 := 2) dX12_once_34 rfl rfl rfl sh_137 rfl rfl (Nat.le_of_ble_eq_true rfl) (Nat.le_of_ble_eq_true rfl) (by decide) ?_
    refine A_X12_must e5 ?_
    show z_G none 3 mX12_once 37 [some (.ref 139), some (.int a1)] [] q4.2 Q
    cases h
    exact g_vret dX12_once_37 rfl hq
  · replace h := z_ift (z_tbn.mp c3) h
    refine g_aload_n dX12_once_11 rfl rfl ?_
    refine g_iconst (v := (5 : Int32)) dX12_once_12 (by decide) ?_
    refine g_aload_n dX12_once_13 rfl rfl ?_
    refine g_get (a := 137) (v := .int (q1.2.1 137 15)) dX12_once_14 f_12_106 sh_137 rfl rfl ?_
    obtain ⟨q6, e7, h⟩ := z_bd h
    refine g_callV (a := 137) (as := [.int (5 : Int32), .int (q1.2.1 137 15)]) (rest := []) (c := mX12_fail) (k1 := 0) dX12_once_17 rfl rfl rfl sh_137 rfl rfl (Nat.le_of_ble_eq_true rfl) (Nat.le_of_ble_eq_true rfl) (by decide) ?_
    refine A_X12_fail e7 ?_
    show z_G none 3 mX12_once 20 [some (.ref 139), some (.int a1)] [] q6.2 Q
    refine g_aload_n dX12_once_20 rfl rfl ?_
    refine g_dup dX12_once_21 rfl ?_
    refine g_get (a := 137) (v := .int (q6.2.1 137 24)) dX12_once_22 f_12_244 sh_137 rfl rfl ?_
    refine g_iconst (v := (1 : Int32)) dX12_once_25 (by decide) ?_
    refine g_iload_n dX12_once_26 rfl rfl ?_
    refine g_ishl dX12_once_27 ?_
    refine g_ior dX12_once_28 ?_
    refine g_putI (a := 137) dX12_once_29 f_12_244 sh_137 rfl rfl rfl ?_
    refine g_aload_n dX12_once_32 rfl rfl ?_
    refine g_iconst (v := (1 : Int32)) dX12_once_33 (by decide) ?_
    obtain ⟨q8, e9, h⟩ := z_bd h
    refine g_callV (a := 137) (as := [.int (1 : Int32)]) (rest := []) (c := mX12_must) (k1 := 2) dX12_once_34 rfl rfl rfl sh_137 rfl rfl (Nat.le_of_ble_eq_true rfl) (Nat.le_of_ble_eq_true rfl) (by decide) ?_
    refine A_X12_must e9 ?_
    show z_G none 3 mX12_once 37 [some (.ref 139), some (.int a1)] [] q8.2 Q
    cases h
    exact g_vret dX12_once_37 rfl hq
theorem dX12_readOnce_0 : decode cX12_readOnce 0 = .ok (.aload_n 0, 1) := by decide +kernel
theorem dX12_readOnce_1 : decode cX12_readOnce 1 = .ok (.iload_n 1, 1) := by decide +kernel
theorem dX12_readOnce_2 : decode cX12_readOnce 2 = .ok (.invokevirtual 247, 3) := by decide +kernel
theorem dX12_readOnce_5 : decode cX12_readOnce 5 = .ok (.aload_n 0, 1) := by decide +kernel
theorem dX12_readOnce_6 : decode cX12_readOnce 6 = .ok (.iconst 0, 1) := by decide +kernel
theorem dX12_readOnce_7 : decode cX12_readOnce 7 = .ok (.iload_n 2, 1) := by decide +kernel
theorem dX12_readOnce_8 : decode cX12_readOnce 8 = .ok (.invokevirtual 232, 3) := by decide +kernel
theorem dX12_readOnce_11 : decode cX12_readOnce 11 = .ok (.istore_n 3, 1) := by decide +kernel
theorem dX12_readOnce_12 : decode cX12_readOnce 12 = .ok (.aload_n 0, 1) := by decide +kernel
theorem dX12_readOnce_13 : decode cX12_readOnce 13 = .ok (.getfield 212, 3) := by decide +kernel
theorem dX12_readOnce_16 : decode cX12_readOnce 16 = .ok (.ifCond .ne 14, 3) := by decide +kernel
theorem dX12_readOnce_19 : decode cX12_readOnce 19 = .ok (.aload_n 0, 1) := by decide +kernel
theorem dX12_readOnce_20 : decode cX12_readOnce 20 = .ok (.getfield 35, 3) := by decide +kernel
theorem dX12_readOnce_23 : decode cX12_readOnce 23 = .ok (.sipush 1500, 3) := by decide +kernel
theorem dX12_readOnce_26 : decode cX12_readOnce 26 = .ok (.iload_n 1, 1) := by decide +kernel
theorem dX12_readOnce_27 : decode cX12_readOnce 27 = .ok (.iadd, 1) := by decide +kernel
theorem dX12_readOnce_28 : decode cX12_readOnce 28 = .ok (.iload_n 3, 1) := by decide +kernel
theorem dX12_readOnce_29 : decode cX12_readOnce 29 = .ok (.iastore, 1) := by decide +kernel
theorem dX12_readOnce_30 : decode cX12_readOnce 30 = .ok (.return_, 1) := by decide +kernel
def F_X12_readOnce (w : Nat) (M : z_Mem) (a1 : Int32) (a2 : Int32) : Option (Unit × z_Mem) :=
  (F_X12_once w M a1).bind fun q1 =>
  (F_X12_count w q1.2 (0 : Int32) a2).bind fun q3 =>
  if (q3.2.1 137 12) = (0 : Int32) then
  if ((1500 : Int32) + a1) < 0 ∨ 1875 ≤ ((1500 : Int32) + a1).toNatClampNeg then none else
  some ((), (z_wI q3.2 142 (((1500 : Int32) + a1).toNatClampNeg) q3.1))
  else
  some ((), q3.2)
set_option maxHeartbeats 4000000 in
theorem A_X12_readOnce {w : Nat} {M : z_Mem} {a1 : Int32} {a2 : Int32} {r : Unit} {M' : z_Mem} {Q : Option Value → z_Mem → Prop} (h : F_X12_readOnce w M a1 a2 = some (r, M')) (hq : Q none M') : z_Cl 4 mX12_readOnce [.ref 139, .int a1, .int a2] M Q := by
  refine g_in (ls := [some (.ref 139), some (.int a1), some (.int a2), none]) rfl ?_
  unfold F_X12_readOnce at h
  refine g_aload_n dX12_readOnce_0 rfl rfl ?_
  refine g_iload_n dX12_readOnce_1 rfl rfl ?_
  obtain ⟨q1, e2, h⟩ := z_bd h
  refine g_callV (a := 137) (as := [.int a1]) (rest := []) (c := mX12_once) (k1 := 3) dX12_readOnce_2 rfl rfl rfl sh_137 rfl rfl (Nat.le_of_ble_eq_true rfl) (Nat.le_of_ble_eq_true rfl) (by decide) ?_
  refine A_X12_once e2 ?_
  show z_G none 4 mX12_readOnce 5 [some (.ref 139), some (.int a1), some (.int a2), none] [] q1.2 Q
  refine g_aload_n dX12_readOnce_5 rfl rfl ?_
  refine g_iconst (v := (0 : Int32)) dX12_readOnce_6 (by decide) ?_
  refine g_iload_n dX12_readOnce_7 rfl rfl ?_
  obtain ⟨q3, e4, h⟩ := z_bd h
  refine g_callV (a := 137) (as := [.int (0 : Int32), .int a2]) (rest := []) (c := mX12_count) (k1 := 2) dX12_readOnce_8 rfl rfl rfl sh_137 rfl rfl (Nat.le_of_ble_eq_true rfl) (Nat.le_of_ble_eq_true rfl) (by decide) ?_
  refine A_X12_count e4 ?_
  show z_G none 4 mX12_readOnce 11 [some (.ref 139), some (.int a1), some (.int a2), none] [.int q3.1] q3.2 Q
  refine g_istore_n (ls' := [some (.ref 139), some (.int a1), some (.int a2), some (.int q3.1)]) dX12_readOnce_11 rfl (Nat.le_of_ble_eq_true rfl) rfl ?_
  refine g_aload_n dX12_readOnce_12 rfl rfl ?_
  refine g_get (a := 137) (v := .int (q3.2.1 137 12)) dX12_readOnce_13 f_12_212 sh_137 rfl rfl ?_
  refine g_if_ne (t := 30) dX12_readOnce_16 (by decide) (fun c5 => ?_) (fun c5 => ?_)
  · replace h := z_iff c5 h
    cases h
    exact g_vret dX12_readOnce_30 rfl hq
  · replace h := z_ift c5 h
    refine g_aload_n dX12_readOnce_19 rfl rfl ?_
    refine g_get (a := 137) (v := .ref 144) dX12_readOnce_20 f_12_35 sh_137 rfl rfl ?_
    refine g_sipush (v := (1500 : Int32)) dX12_readOnce_23 (by decide) ?_
    refine g_iload_n dX12_readOnce_26 rfl rfl ?_
    refine g_iadd dX12_readOnce_27 ?_
    refine g_iload_n dX12_readOnce_28 rfl rfl ?_
    by_cases g6 : ((1500 : Int32) + a1) < 0 ∨ 1875 ≤ ((1500 : Int32) + a1).toNatClampNeg
    · rw [if_pos g6] at h; cases h
    replace h := z_iff g6 h
    refine g_iast (a := 142) dX12_readOnce_29 sh_142 g6 ?_
    cases h
    exact g_vret dX12_readOnce_30 rfl hq
theorem dX12_readLies_0 : decode cX12_readLies 0 = .ok (.aload_n 0, 1) := by decide +kernel
theorem dX12_readLies_1 : decode cX12_readLies 1 = .ok (.bipush 8, 2) := by decide +kernel
theorem dX12_readLies_3 : decode cX12_readLies 3 = .ok (.invokevirtual 247, 3) := by decide +kernel
theorem dX12_readLies_6 : decode cX12_readLies 6 = .ok (.aload_n 0, 1) := by decide +kernel
theorem dX12_readLies_7 : decode cX12_readLies 7 = .ok (.invokevirtual 250, 3) := by decide +kernel
theorem dX12_readLies_10 : decode cX12_readLies 10 = .ok (.istore_n 1, 1) := by decide +kernel
theorem dX12_readLies_11 : decode cX12_readLies 11 = .ok (.aload_n 0, 1) := by decide +kernel
theorem dX12_readLies_12 : decode cX12_readLies 12 = .ok (.getfield 212, 3) := by decide +kernel
theorem dX12_readLies_15 : decode cX12_readLies 15 = .ok (.ifCond .le 4, 3) := by decide +kernel
theorem dX12_readLies_18 : decode cX12_readLies 18 = .ok (.return_, 1) := by decide +kernel
theorem dX12_readLies_19 : decode cX12_readLies 19 = .ok (.aload_n 0, 1) := by decide +kernel
theorem dX12_readLies_20 : decode cX12_readLies 20 = .ok (.getfield 35, 3) := by decide +kernel
theorem dX12_readLies_23 : decode cX12_readLies 23 = .ok (.sipush 1508, 3) := by decide +kernel
theorem dX12_readLies_26 : decode cX12_readLies 26 = .ok (.iload_n 1, 1) := by decide +kernel
theorem dX12_readLies_27 : decode cX12_readLies 27 = .ok (.iastore, 1) := by decide +kernel
theorem dX12_readLies_28 : decode cX12_readLies 28 = .ok (.iconst 1, 1) := by decide +kernel
theorem dX12_readLies_29 : decode cX12_readLies 29 = .ok (.istore_n 2, 1) := by decide +kernel
theorem dX12_readLies_30 : decode cX12_readLies 30 = .ok (.iload_n 2, 1) := by decide +kernel
theorem dX12_readLies_31 : decode cX12_readLies 31 = .ok (.bipush 6, 2) := by decide +kernel
theorem dX12_readLies_33 : decode cX12_readLies 33 = .ok (.if_icmp .gt 20, 3) := by decide +kernel
theorem dX12_readLies_36 : decode cX12_readLies 36 = .ok (.aload_n 0, 1) := by decide +kernel
theorem dX12_readLies_37 : decode cX12_readLies 37 = .ok (.getfield 35, 3) := by decide +kernel
theorem dX12_readLies_40 : decode cX12_readLies 40 = .ok (.sipush 1513, 3) := by decide +kernel
theorem dX12_readLies_43 : decode cX12_readLies 43 = .ok (.iload_n 2, 1) := by decide +kernel
theorem dX12_readLies_44 : decode cX12_readLies 44 = .ok (.iadd, 1) := by decide +kernel
theorem dX12_readLies_45 : decode cX12_readLies 45 = .ok (.iload_n 1, 1) := by decide +kernel
theorem dX12_readLies_46 : decode cX12_readLies 46 = .ok (.iastore, 1) := by decide +kernel
theorem dX12_readLies_47 : decode cX12_readLies 47 = .ok (.iinc 2 1, 3) := by decide +kernel
theorem dX12_readLies_50 : decode cX12_readLies 50 = .ok (.goto (-20), 3) := by decide +kernel
theorem dX12_readLies_53 : decode cX12_readLies 53 = .ok (.return_, 1) := by decide +kernel
def L_X12_readLies (w : Nat) : Nat → z_Mem → Int32 → Int32 → Option (Unit × z_Mem)
  | 0, _, _, _ => none
  | c + 1, M, x1, x2 =>
    if (6 : Int32) < x2 then
    some ((), M)
    else
    if ((1513 : Int32) + x2) < 0 ∨ 1875 ≤ ((1513 : Int32) + x2).toNatClampNeg then none else
    L_X12_readLies w c (z_wI M 142 (((1513 : Int32) + x2).toNatClampNeg) x1) x1 (x2 + (1 : Int32))
set_option maxHeartbeats 4000000 in
theorem AL_X12_readLies {w : Nat} : ∀ (c : Nat), (∀ (M : z_Mem) (x1 : Int32) (x2 : Int32) (r : Unit) (M' : z_Mem) (Q : Option Value → z_Mem → Prop), L_X12_readLies w c M x1 x2 = some (r, M') → Q none M' → z_G none 4 mX12_readLies 30 [some (.ref 139), some (.int x1), some (.int x2)] [] M Q) := by
  intro c
  induction c with
  | zero => exact (fun M x1 x2 r M' Q h hq => by rw [L_X12_readLies] at h; cases h)
  | succ c ih =>
    intro M x1 x2 r M' Q h hq
    rw [L_X12_readLies] at h
    refine g_iload_n dX12_readLies_30 rfl rfl ?_
    refine g_bipush (v := (6 : Int32)) dX12_readLies_31 (by decide) ?_
    refine g_ic_gt (t := 53) dX12_readLies_33 (by decide) (fun c1 => ?_) (fun c1 => ?_)
    · replace h := z_ift c1 h
      cases h
      exact g_vret dX12_readLies_53 rfl hq
    · replace h := z_iff c1 h
      refine g_aload_n dX12_readLies_36 rfl rfl ?_
      refine g_get (a := 137) (v := .ref 144) dX12_readLies_37 f_12_35 sh_137 rfl rfl ?_
      refine g_sipush (v := (1513 : Int32)) dX12_readLies_40 (by decide) ?_
      refine g_iload_n dX12_readLies_43 rfl rfl ?_
      refine g_iadd dX12_readLies_44 ?_
      refine g_iload_n dX12_readLies_45 rfl rfl ?_
      by_cases g2 : ((1513 : Int32) + x2) < 0 ∨ 1875 ≤ ((1513 : Int32) + x2).toNatClampNeg
      · rw [if_pos g2] at h; cases h
      replace h := z_iff g2 h
      refine g_iast (a := 142) dX12_readLies_46 sh_142 g2 ?_
      refine g_iinc (v := x2 + (1 : Int32)) (ls' := [some (.ref 139), some (.int x1), some (.int (x2 + (1 : Int32)))]) dX12_readLies_47 rfl rfl rfl ?_
      refine g_goto (t := 30) dX12_readLies_50 (by decide) ?_
      exact g_sub (z_sub_s (z_sub_s (z_sub_s z_sub_nil))) (ih _ _ _ _ _ _ h hq)
def F_X12_readLies (w : Nat) (M : z_Mem) : Option (Unit × z_Mem) :=
  (F_X12_once w M (8 : Int32)).bind fun q3 =>
  (F_X12_readSide w q3.2).bind fun q5 =>
  if (q5.2.1 137 12) ≤ (0 : Int32) then
  L_X12_readLies w w (z_wI q5.2 142 1508 q5.1) q5.1 (1 : Int32)
  else
  some ((), q5.2)
set_option maxHeartbeats 4000000 in
theorem A_X12_readLies {w : Nat} {M : z_Mem} {r : Unit} {M' : z_Mem} {Q : Option Value → z_Mem → Prop} (h : F_X12_readLies w M = some (r, M')) (hq : Q none M') : z_Cl 4 mX12_readLies [.ref 139] M Q := by
  refine g_in (ls := [some (.ref 139), none, none]) rfl ?_
  unfold F_X12_readLies at h
  refine g_aload_n dX12_readLies_0 rfl rfl ?_
  refine g_bipush (v := (8 : Int32)) dX12_readLies_1 (by decide) ?_
  obtain ⟨q3, e4, h⟩ := z_bd h
  refine g_callV (a := 137) (as := [.int (8 : Int32)]) (rest := []) (c := mX12_once) (k1 := 3) dX12_readLies_3 rfl rfl rfl sh_137 rfl rfl (Nat.le_of_ble_eq_true rfl) (Nat.le_of_ble_eq_true rfl) (by decide) ?_
  refine A_X12_once e4 ?_
  show z_G none 4 mX12_readLies 6 [some (.ref 139), none, none] [] q3.2 Q
  refine g_aload_n dX12_readLies_6 rfl rfl ?_
  obtain ⟨q5, e6, h⟩ := z_bd h
  refine g_callV (a := 137) (as := []) (rest := []) (c := mX12_readSide) (k1 := 3) dX12_readLies_7 rfl rfl rfl sh_137 rfl rfl (Nat.le_of_ble_eq_true rfl) (Nat.le_of_ble_eq_true rfl) (by decide) ?_
  refine A_X12_readSide e6 ?_
  show z_G none 4 mX12_readLies 10 [some (.ref 139), none, none] [.int q5.1] q5.2 Q
  refine g_istore_n (ls' := [some (.ref 139), some (.int q5.1), none]) dX12_readLies_10 rfl (Nat.le_of_ble_eq_true rfl) rfl ?_
  refine g_aload_n dX12_readLies_11 rfl rfl ?_
  refine g_get (a := 137) (v := .int (q5.2.1 137 12)) dX12_readLies_12 f_12_212 sh_137 rfl rfl ?_
  refine g_if_le (t := 19) dX12_readLies_15 (by decide) (fun c7 => ?_) (fun c7 => ?_)
  · replace h := z_ift c7 h
    refine g_aload_n dX12_readLies_19 rfl rfl ?_
    refine g_get (a := 137) (v := .ref 144) dX12_readLies_20 f_12_35 sh_137 rfl rfl ?_
    refine g_sipush (v := (1508 : Int32)) dX12_readLies_23 (by decide) ?_
    refine g_iload_n dX12_readLies_26 rfl rfl ?_
    refine g_iasN (a := 142) (j := 1508) dX12_readLies_27 sh_142 rfl (by decide) ?_
    refine g_iconst (v := (1 : Int32)) dX12_readLies_28 (by decide) ?_
    refine g_istore_n (ls' := [some (.ref 139), some (.int q5.1), some (.int (1 : Int32))]) dX12_readLies_29 rfl (Nat.le_of_ble_eq_true rfl) rfl ?_
    exact g_sub (z_sub_s (z_sub_s (z_sub_s z_sub_nil))) ((AL_X12_readLies (w := w) w) _ _ _ _ _ _ h hq)
  · replace h := z_iff c7 h
    cases h
    exact g_vret dX12_readLies_18 rfl hq
theorem dX12_readChest_0 : decode cX12_readChest 0 = .ok (.aload_n 0, 1) := by decide +kernel
theorem dX12_readChest_1 : decode cX12_readChest 1 = .ok (.iconst 1, 1) := by decide +kernel
theorem dX12_readChest_2 : decode cX12_readChest 2 = .ok (.invokevirtual 228, 3) := by decide +kernel
theorem dX12_readChest_5 : decode cX12_readChest 5 = .ok (.aload_n 0, 1) := by decide +kernel
theorem dX12_readChest_6 : decode cX12_readChest 6 = .ok (.invokevirtual 196, 3) := by decide +kernel
theorem dX12_readChest_9 : decode cX12_readChest 9 = .ok (.istore_n 1, 1) := by decide +kernel
theorem dX12_readChest_10 : decode cX12_readChest 10 = .ok (.iload_n 1, 1) := by decide +kernel
theorem dX12_readChest_11 : decode cX12_readChest 11 = .ok (.ifCond .lt 26, 3) := by decide +kernel
theorem dX12_readChest_14 : decode cX12_readChest 14 = .ok (.aload_n 0, 1) := by decide +kernel
theorem dX12_readChest_15 : decode cX12_readChest 15 = .ok (.getfield 244, 3) := by decide +kernel
theorem dX12_readChest_18 : decode cX12_readChest 18 = .ok (.bipush 12, 2) := by decide +kernel
theorem dX12_readChest_20 : decode cX12_readChest 20 = .ok (.iload_n 1, 1) := by decide +kernel
theorem dX12_readChest_21 : decode cX12_readChest 21 = .ok (.iadd, 1) := by decide +kernel
theorem dX12_readChest_22 : decode cX12_readChest 22 = .ok (.invokestatic 96, 3) := by decide +kernel
theorem dX12_readChest_25 : decode cX12_readChest 25 = .ok (.ifCond .eq 12, 3) := by decide +kernel
theorem dX12_readChest_28 : decode cX12_readChest 28 = .ok (.aload_n 0, 1) := by decide +kernel
theorem dX12_readChest_29 : decode cX12_readChest 29 = .ok (.iconst 5, 1) := by decide +kernel
theorem dX12_readChest_30 : decode cX12_readChest 30 = .ok (.aload_n 0, 1) := by decide +kernel
theorem dX12_readChest_31 : decode cX12_readChest 31 = .ok (.getfield 106, 3) := by decide +kernel
theorem dX12_readChest_34 : decode cX12_readChest 34 = .ok (.invokevirtual 218, 3) := by decide +kernel
theorem dX12_readChest_37 : decode cX12_readChest 37 = .ok (.iload_n 1, 1) := by decide +kernel
theorem dX12_readChest_38 : decode cX12_readChest 38 = .ok (.ifCond .lt 18, 3) := by decide +kernel
theorem dX12_readChest_41 : decode cX12_readChest 41 = .ok (.aload_n 0, 1) := by decide +kernel
theorem dX12_readChest_42 : decode cX12_readChest 42 = .ok (.dup, 1) := by decide +kernel
theorem dX12_readChest_43 : decode cX12_readChest 43 = .ok (.getfield 244, 3) := by decide +kernel
theorem dX12_readChest_46 : decode cX12_readChest 46 = .ok (.iconst 1, 1) := by decide +kernel
theorem dX12_readChest_47 : decode cX12_readChest 47 = .ok (.bipush 12, 2) := by decide +kernel
theorem dX12_readChest_49 : decode cX12_readChest 49 = .ok (.iload_n 1, 1) := by decide +kernel
theorem dX12_readChest_50 : decode cX12_readChest 50 = .ok (.iadd, 1) := by decide +kernel
theorem dX12_readChest_51 : decode cX12_readChest 51 = .ok (.ishl, 1) := by decide +kernel
theorem dX12_readChest_52 : decode cX12_readChest 52 = .ok (.ior, 1) := by decide +kernel
theorem dX12_readChest_53 : decode cX12_readChest 53 = .ok (.putfield 244, 3) := by decide +kernel
theorem dX12_readChest_56 : decode cX12_readChest 56 = .ok (.aload_n 0, 1) := by decide +kernel
theorem dX12_readChest_57 : decode cX12_readChest 57 = .ok (.iload_n 1, 1) := by decide +kernel
theorem dX12_readChest_58 : decode cX12_readChest 58 = .ok (.ifCond .lt 7, 3) := by decide +kernel
theorem dX12_readChest_61 : decode cX12_readChest 61 = .ok (.iconst 1, 1) := by decide +kernel
theorem dX12_readChest_62 : decode cX12_readChest 62 = .ok (.goto 4, 3) := by decide +kernel
theorem dX12_readChest_65 : decode cX12_readChest 65 = .ok (.iconst 0, 1) := by decide +kernel
theorem dX12_readChest_66 : decode cX12_readChest 66 = .ok (.invokevirtual 228, 3) := by decide +kernel
theorem dX12_readChest_69 : decode cX12_readChest 69 = .ok (.aload_n 0, 1) := by decide +kernel
theorem dX12_readChest_70 : decode cX12_readChest 70 = .ok (.iconst 0, 1) := by decide +kernel
theorem dX12_readChest_71 : decode cX12_readChest 71 = .ok (.sipush 999, 3) := by decide +kernel
theorem dX12_readChest_74 : decode cX12_readChest 74 = .ok (.invokevirtual 232, 3) := by decide +kernel
theorem dX12_readChest_77 : decode cX12_readChest 77 = .ok (.istore_n 2, 1) := by decide +kernel
theorem dX12_readChest_78 : decode cX12_readChest 78 = .ok (.aload_n 0, 1) := by decide +kernel
theorem dX12_readChest_79 : decode cX12_readChest 79 = .ok (.getfield 212, 3) := by decide +kernel
theorem dX12_readChest_82 : decode cX12_readChest 82 = .ok (.ifCond .ne 14, 3) := by decide +kernel
theorem dX12_readChest_85 : decode cX12_readChest 85 = .ok (.aload_n 0, 1) := by decide +kernel
theorem dX12_readChest_86 : decode cX12_readChest 86 = .ok (.getfield 35, 3) := by decide +kernel
theorem dX12_readChest_89 : decode cX12_readChest 89 = .ok (.sipush 1512, 3) := by decide +kernel
theorem dX12_readChest_92 : decode cX12_readChest 92 = .ok (.iload_n 1, 1) := by decide +kernel
theorem dX12_readChest_93 : decode cX12_readChest 93 = .ok (.iadd, 1) := by decide +kernel
theorem dX12_readChest_94 : decode cX12_readChest 94 = .ok (.iload_n 2, 1) := by decide +kernel
theorem dX12_readChest_95 : decode cX12_readChest 95 = .ok (.iastore, 1) := by decide +kernel
theorem dX12_readChest_96 : decode cX12_readChest 96 = .ok (.return_, 1) := by decide +kernel
def F_X12_readChest (w : Nat) (M : z_Mem) : Option (Unit × z_Mem) :=
  (F_X12_must w M (1 : Int32)).bind fun q1 =>
  (F_X12_sideWord w q1.2).bind fun q3 =>
  if q3.1 < (0 : Int32) then
  if q3.1 < (0 : Int32) then
  if q3.1 < (0 : Int32) then
  (F_X12_must w q3.2 (0 : Int32)).bind fun q8 =>
  (F_X12_count w q8.2 (0 : Int32) (999 : Int32)).bind fun q10 =>
  if (q10.2.1 137 12) = (0 : Int32) then
  if ((1512 : Int32) + q3.1) < 0 ∨ 1875 ≤ ((1512 : Int32) + q3.1).toNatClampNeg then none else
  some ((), (z_wI q10.2 142 (((1512 : Int32) + q3.1).toNatClampNeg) q10.1))
  else
  some ((), q10.2)
  else
  (F_X12_must w q3.2 (1 : Int32)).bind fun q14 =>
  (F_X12_count w q14.2 (0 : Int32) (999 : Int32)).bind fun q16 =>
  if (q16.2.1 137 12) = (0 : Int32) then
  if ((1512 : Int32) + q3.1) < 0 ∨ 1875 ≤ ((1512 : Int32) + q3.1).toNatClampNeg then none else
  some ((), (z_wI q16.2 142 (((1512 : Int32) + q3.1).toNatClampNeg) q16.1))
  else
  some ((), q16.2)
  else
  if q3.1 < (0 : Int32) then
  (F_X12_must w (z_wI q3.2 137 24 ((q3.2.1 137 24) ||| ((1 : Int32) <<< (((12 : Int32) + q3.1) &&& 31)))) (0 : Int32)).bind fun q21 =>
  (F_X12_count w q21.2 (0 : Int32) (999 : Int32)).bind fun q23 =>
  if (q23.2.1 137 12) = (0 : Int32) then
  if ((1512 : Int32) + q3.1) < 0 ∨ 1875 ≤ ((1512 : Int32) + q3.1).toNatClampNeg then none else
  some ((), (z_wI q23.2 142 (((1512 : Int32) + q3.1).toNatClampNeg) q23.1))
  else
  some ((), q23.2)
  else
  (F_X12_must w (z_wI q3.2 137 24 ((q3.2.1 137 24) ||| ((1 : Int32) <<< (((12 : Int32) + q3.1) &&& 31)))) (1 : Int32)).bind fun q27 =>
  (F_X12_count w q27.2 (0 : Int32) (999 : Int32)).bind fun q29 =>
  if (q29.2.1 137 12) = (0 : Int32) then
  if ((1512 : Int32) + q3.1) < 0 ∨ 1875 ≤ ((1512 : Int32) + q3.1).toNatClampNeg then none else
  some ((), (z_wI q29.2 142 (((1512 : Int32) + q3.1).toNatClampNeg) q29.1))
  else
  some ((), q29.2)
  else
  (F_X12_has w q3.2 (q3.2.1 137 24) ((12 : Int32) + q3.1)).bind fun q33 =>
  if q33.1 = true then
  (F_X12_fail w q33.2 (5 : Int32) (q33.2.1 137 15)).bind fun q63 =>
  if q3.1 < (0 : Int32) then
  if q3.1 < (0 : Int32) then
  (F_X12_must w q63.2 (0 : Int32)).bind fun q67 =>
  (F_X12_count w q67.2 (0 : Int32) (999 : Int32)).bind fun q69 =>
  if (q69.2.1 137 12) = (0 : Int32) then
  if ((1512 : Int32) + q3.1) < 0 ∨ 1875 ≤ ((1512 : Int32) + q3.1).toNatClampNeg then none else
  some ((), (z_wI q69.2 142 (((1512 : Int32) + q3.1).toNatClampNeg) q69.1))
  else
  some ((), q69.2)
  else
  (F_X12_must w q63.2 (1 : Int32)).bind fun q73 =>
  (F_X12_count w q73.2 (0 : Int32) (999 : Int32)).bind fun q75 =>
  if (q75.2.1 137 12) = (0 : Int32) then
  if ((1512 : Int32) + q3.1) < 0 ∨ 1875 ≤ ((1512 : Int32) + q3.1).toNatClampNeg then none else
  some ((), (z_wI q75.2 142 (((1512 : Int32) + q3.1).toNatClampNeg) q75.1))
  else
  some ((), q75.2)
  else
  if q3.1 < (0 : Int32) then
  (F_X12_must w (z_wI q63.2 137 24 ((q63.2.1 137 24) ||| ((1 : Int32) <<< (((12 : Int32) + q3.1) &&& 31)))) (0 : Int32)).bind fun q80 =>
  (F_X12_count w q80.2 (0 : Int32) (999 : Int32)).bind fun q82 =>
  if (q82.2.1 137 12) = (0 : Int32) then
  if ((1512 : Int32) + q3.1) < 0 ∨ 1875 ≤ ((1512 : Int32) + q3.1).toNatClampNeg then none else
  some ((), (z_wI q82.2 142 (((1512 : Int32) + q3.1).toNatClampNeg) q82.1))
  else
  some ((), q82.2)
  else
  (F_X12_must w (z_wI q63.2 137 24 ((q63.2.1 137 24) ||| ((1 : Int32) <<< (((12 : Int32) + q3.1) &&& 31)))) (1 : Int32)).bind fun q86 =>
  (F_X12_count w q86.2 (0 : Int32) (999 : Int32)).bind fun q88 =>
  if (q88.2.1 137 12) = (0 : Int32) then
  if ((1512 : Int32) + q3.1) < 0 ∨ 1875 ≤ ((1512 : Int32) + q3.1).toNatClampNeg then none else
  some ((), (z_wI q88.2 142 (((1512 : Int32) + q3.1).toNatClampNeg) q88.1))
  else
  some ((), q88.2)
  else
  if q3.1 < (0 : Int32) then
  if q3.1 < (0 : Int32) then
  (F_X12_must w q33.2 (0 : Int32)).bind fun q38 =>
  (F_X12_count w q38.2 (0 : Int32) (999 : Int32)).bind fun q40 =>
  if (q40.2.1 137 12) = (0 : Int32) then
  if ((1512 : Int32) + q3.1) < 0 ∨ 1875 ≤ ((1512 : Int32) + q3.1).toNatClampNeg then none else
  some ((), (z_wI q40.2 142 (((1512 : Int32) + q3.1).toNatClampNeg) q40.1))
  else
  some ((), q40.2)
  else
  (F_X12_must w q33.2 (1 : Int32)).bind fun q44 =>
  (F_X12_count w q44.2 (0 : Int32) (999 : Int32)).bind fun q46 =>
  if (q46.2.1 137 12) = (0 : Int32) then
  if ((1512 : Int32) + q3.1) < 0 ∨ 1875 ≤ ((1512 : Int32) + q3.1).toNatClampNeg then none else
  some ((), (z_wI q46.2 142 (((1512 : Int32) + q3.1).toNatClampNeg) q46.1))
  else
  some ((), q46.2)
  else
  if q3.1 < (0 : Int32) then
  (F_X12_must w (z_wI q33.2 137 24 ((q33.2.1 137 24) ||| ((1 : Int32) <<< (((12 : Int32) + q3.1) &&& 31)))) (0 : Int32)).bind fun q51 =>
  (F_X12_count w q51.2 (0 : Int32) (999 : Int32)).bind fun q53 =>
  if (q53.2.1 137 12) = (0 : Int32) then
  if ((1512 : Int32) + q3.1) < 0 ∨ 1875 ≤ ((1512 : Int32) + q3.1).toNatClampNeg then none else
  some ((), (z_wI q53.2 142 (((1512 : Int32) + q3.1).toNatClampNeg) q53.1))
  else
  some ((), q53.2)
  else
  (F_X12_must w (z_wI q33.2 137 24 ((q33.2.1 137 24) ||| ((1 : Int32) <<< (((12 : Int32) + q3.1) &&& 31)))) (1 : Int32)).bind fun q57 =>
  (F_X12_count w q57.2 (0 : Int32) (999 : Int32)).bind fun q59 =>
  if (q59.2.1 137 12) = (0 : Int32) then
  if ((1512 : Int32) + q3.1) < 0 ∨ 1875 ≤ ((1512 : Int32) + q3.1).toNatClampNeg then none else
  some ((), (z_wI q59.2 142 (((1512 : Int32) + q3.1).toNatClampNeg) q59.1))
  else
  some ((), q59.2)
set_option maxHeartbeats 4000000 in
theorem A_X12_readChest {w : Nat} {M : z_Mem} {r : Unit} {M' : z_Mem} {Q : Option Value → z_Mem → Prop} (h : F_X12_readChest w M = some (r, M')) (hq : Q none M') : z_Cl 3 mX12_readChest [.ref 139] M Q := by
  refine g_in (ls := [some (.ref 139), none, none]) rfl ?_
  unfold F_X12_readChest at h
  refine g_aload_n dX12_readChest_0 rfl rfl ?_
  refine g_iconst (v := (1 : Int32)) dX12_readChest_1 (by decide) ?_
  obtain ⟨q1, e2, h⟩ := z_bd h
  refine g_callV (a := 137) (as := [.int (1 : Int32)]) (rest := []) (c := mX12_must) (k1 := 2) dX12_readChest_2 rfl rfl rfl sh_137 rfl rfl (Nat.le_of_ble_eq_true rfl) (Nat.le_of_ble_eq_true rfl) (by decide) ?_
  refine A_X12_must e2 ?_
  show z_G none 3 mX12_readChest 5 [some (.ref 139), none, none] [] q1.2 Q
  refine g_aload_n dX12_readChest_5 rfl rfl ?_
  obtain ⟨q3, e4, h⟩ := z_bd h
  refine g_callV (a := 137) (as := []) (rest := []) (c := mX12_sideWord) (k1 := 1) dX12_readChest_6 rfl rfl rfl sh_137 rfl rfl (Nat.le_of_ble_eq_true rfl) (Nat.le_of_ble_eq_true rfl) (by decide) ?_
  refine A_X12_sideWord e4 ?_
  show z_G none 3 mX12_readChest 9 [some (.ref 139), none, none] [.int q3.1] q3.2 Q
  refine g_istore_n (ls' := [some (.ref 139), some (.int q3.1), none]) dX12_readChest_9 rfl (Nat.le_of_ble_eq_true rfl) rfl ?_
  refine g_iload_n dX12_readChest_10 rfl rfl ?_
  refine g_if_lt (t := 37) dX12_readChest_11 (by decide) (fun c5 => ?_) (fun c5 => ?_)
  · replace h := z_ift c5 h
    refine g_iload_n dX12_readChest_37 rfl rfl ?_
    refine g_if_lt (t := 56) dX12_readChest_38 (by decide) (fun c6 => ?_) (fun c6 => ?_)
    · replace h := z_ift c6 h
      refine g_aload_n dX12_readChest_56 rfl rfl ?_
      refine g_iload_n dX12_readChest_57 rfl rfl ?_
      refine g_if_lt (t := 65) dX12_readChest_58 (by decide) (fun c7 => ?_) (fun c7 => ?_)
      · replace h := z_ift c7 h
        refine g_iconst (v := (0 : Int32)) dX12_readChest_65 (by decide) ?_
        obtain ⟨q8, e9, h⟩ := z_bd h
        refine g_callV (a := 137) (as := [.int (0 : Int32)]) (rest := []) (c := mX12_must) (k1 := 2) dX12_readChest_66 rfl rfl rfl sh_137 rfl rfl (Nat.le_of_ble_eq_true rfl) (Nat.le_of_ble_eq_true rfl) (by decide) ?_
        refine A_X12_must e9 ?_
        show z_G none 3 mX12_readChest 69 [some (.ref 139), some (.int q3.1), none] [] q8.2 Q
        refine g_aload_n dX12_readChest_69 rfl rfl ?_
        refine g_iconst (v := (0 : Int32)) dX12_readChest_70 (by decide) ?_
        refine g_sipush (v := (999 : Int32)) dX12_readChest_71 (by decide) ?_
        obtain ⟨q10, e11, h⟩ := z_bd h
        refine g_callV (a := 137) (as := [.int (0 : Int32), .int (999 : Int32)]) (rest := []) (c := mX12_count) (k1 := 2) dX12_readChest_74 rfl rfl rfl sh_137 rfl rfl (Nat.le_of_ble_eq_true rfl) (Nat.le_of_ble_eq_true rfl) (by decide) ?_
        refine A_X12_count e11 ?_
        show z_G none 3 mX12_readChest 77 [some (.ref 139), some (.int q3.1), none] [.int q10.1] q10.2 Q
        refine g_istore_n (ls' := [some (.ref 139), some (.int q3.1), some (.int q10.1)]) dX12_readChest_77 rfl (Nat.le_of_ble_eq_true rfl) rfl ?_
        refine g_aload_n dX12_readChest_78 rfl rfl ?_
        refine g_get (a := 137) (v := .int (q10.2.1 137 12)) dX12_readChest_79 f_12_212 sh_137 rfl rfl ?_
        refine g_if_ne (t := 96) dX12_readChest_82 (by decide) (fun c12 => ?_) (fun c12 => ?_)
        · replace h := z_iff c12 h
          cases h
          exact g_vret dX12_readChest_96 rfl hq
        · replace h := z_ift c12 h
          refine g_aload_n dX12_readChest_85 rfl rfl ?_
          refine g_get (a := 137) (v := .ref 144) dX12_readChest_86 f_12_35 sh_137 rfl rfl ?_
          refine g_sipush (v := (1512 : Int32)) dX12_readChest_89 (by decide) ?_
          refine g_iload_n dX12_readChest_92 rfl rfl ?_
          refine g_iadd dX12_readChest_93 ?_
          refine g_iload_n dX12_readChest_94 rfl rfl ?_
          by_cases g13 : ((1512 : Int32) + q3.1) < 0 ∨ 1875 ≤ ((1512 : Int32) + q3.1).toNatClampNeg
          · rw [if_pos g13] at h; cases h
          replace h := z_iff g13 h
          refine g_iast (a := 142) dX12_readChest_95 sh_142 g13 ?_
          cases h
          exact g_vret dX12_readChest_96 rfl hq
      · replace h := z_iff c7 h
        refine g_iconst (v := (1 : Int32)) dX12_readChest_61 (by decide) ?_
        refine g_goto (t := 66) dX12_readChest_62 (by decide) ?_
        obtain ⟨q14, e15, h⟩ := z_bd h
        refine g_callV (a := 137) (as := [.int (1 : Int32)]) (rest := []) (c := mX12_must) (k1 := 2) dX12_readChest_66 rfl rfl rfl sh_137 rfl rfl (Nat.le_of_ble_eq_true rfl) (Nat.le_of_ble_eq_true rfl) (by decide) ?_
        refine A_X12_must e15 ?_
        show z_G none 3 mX12_readChest 69 [some (.ref 139), some (.int q3.1), none] [] q14.2 Q
        refine g_aload_n dX12_readChest_69 rfl rfl ?_
        refine g_iconst (v := (0 : Int32)) dX12_readChest_70 (by decide) ?_
        refine g_sipush (v := (999 : Int32)) dX12_readChest_71 (by decide) ?_
        obtain ⟨q16, e17, h⟩ := z_bd h
        refine g_callV (a := 137) (as := [.int (0 : Int32), .int (999 : Int32)]) (rest := []) (c := mX12_count) (k1 := 2) dX12_readChest_74 rfl rfl rfl sh_137 rfl rfl (Nat.le_of_ble_eq_true rfl) (Nat.le_of_ble_eq_true rfl) (by decide) ?_
        refine A_X12_count e17 ?_
        show z_G none 3 mX12_readChest 77 [some (.ref 139), some (.int q3.1), none] [.int q16.1] q16.2 Q
        refine g_istore_n (ls' := [some (.ref 139), some (.int q3.1), some (.int q16.1)]) dX12_readChest_77 rfl (Nat.le_of_ble_eq_true rfl) rfl ?_
        refine g_aload_n dX12_readChest_78 rfl rfl ?_
        refine g_get (a := 137) (v := .int (q16.2.1 137 12)) dX12_readChest_79 f_12_212 sh_137 rfl rfl ?_
        refine g_if_ne (t := 96) dX12_readChest_82 (by decide) (fun c18 => ?_) (fun c18 => ?_)
        · replace h := z_iff c18 h
          cases h
          exact g_vret dX12_readChest_96 rfl hq
        · replace h := z_ift c18 h
          refine g_aload_n dX12_readChest_85 rfl rfl ?_
          refine g_get (a := 137) (v := .ref 144) dX12_readChest_86 f_12_35 sh_137 rfl rfl ?_
          refine g_sipush (v := (1512 : Int32)) dX12_readChest_89 (by decide) ?_
          refine g_iload_n dX12_readChest_92 rfl rfl ?_
          refine g_iadd dX12_readChest_93 ?_
          refine g_iload_n dX12_readChest_94 rfl rfl ?_
          by_cases g19 : ((1512 : Int32) + q3.1) < 0 ∨ 1875 ≤ ((1512 : Int32) + q3.1).toNatClampNeg
          · rw [if_pos g19] at h; cases h
          replace h := z_iff g19 h
          refine g_iast (a := 142) dX12_readChest_95 sh_142 g19 ?_
          cases h
          exact g_vret dX12_readChest_96 rfl hq
    · replace h := z_iff c6 h
      refine g_aload_n dX12_readChest_41 rfl rfl ?_
      refine g_dup dX12_readChest_42 rfl ?_
      refine g_get (a := 137) (v := .int (q3.2.1 137 24)) dX12_readChest_43 f_12_244 sh_137 rfl rfl ?_
      refine g_iconst (v := (1 : Int32)) dX12_readChest_46 (by decide) ?_
      refine g_bipush (v := (12 : Int32)) dX12_readChest_47 (by decide) ?_
      refine g_iload_n dX12_readChest_49 rfl rfl ?_
      refine g_iadd dX12_readChest_50 ?_
      refine g_ishl dX12_readChest_51 ?_
      refine g_ior dX12_readChest_52 ?_
      refine g_putI (a := 137) dX12_readChest_53 f_12_244 sh_137 rfl rfl rfl ?_
      refine g_aload_n dX12_readChest_56 rfl rfl ?_
      refine g_iload_n dX12_readChest_57 rfl rfl ?_
      refine g_if_lt (t := 65) dX12_readChest_58 (by decide) (fun c20 => ?_) (fun c20 => ?_)
      · replace h := z_ift c20 h
        refine g_iconst (v := (0 : Int32)) dX12_readChest_65 (by decide) ?_
        obtain ⟨q21, e22, h⟩ := z_bd h
        refine g_callV (a := 137) (as := [.int (0 : Int32)]) (rest := []) (c := mX12_must) (k1 := 2) dX12_readChest_66 rfl rfl rfl sh_137 rfl rfl (Nat.le_of_ble_eq_true rfl) (Nat.le_of_ble_eq_true rfl) (by decide) ?_
        refine A_X12_must e22 ?_
        show z_G none 3 mX12_readChest 69 [some (.ref 139), some (.int q3.1), none] [] q21.2 Q
        refine g_aload_n dX12_readChest_69 rfl rfl ?_
        refine g_iconst (v := (0 : Int32)) dX12_readChest_70 (by decide) ?_
        refine g_sipush (v := (999 : Int32)) dX12_readChest_71 (by decide) ?_
        obtain ⟨q23, e24, h⟩ := z_bd h
        refine g_callV (a := 137) (as := [.int (0 : Int32), .int (999 : Int32)]) (rest := []) (c := mX12_count) (k1 := 2) dX12_readChest_74 rfl rfl rfl sh_137 rfl rfl (Nat.le_of_ble_eq_true rfl) (Nat.le_of_ble_eq_true rfl) (by decide) ?_
        refine A_X12_count e24 ?_
        show z_G none 3 mX12_readChest 77 [some (.ref 139), some (.int q3.1), none] [.int q23.1] q23.2 Q
        refine g_istore_n (ls' := [some (.ref 139), some (.int q3.1), some (.int q23.1)]) dX12_readChest_77 rfl (Nat.le_of_ble_eq_true rfl) rfl ?_
        refine g_aload_n dX12_readChest_78 rfl rfl ?_
        refine g_get (a := 137) (v := .int (q23.2.1 137 12)) dX12_readChest_79 f_12_212 sh_137 rfl rfl ?_
        refine g_if_ne (t := 96) dX12_readChest_82 (by decide) (fun c25 => ?_) (fun c25 => ?_)
        · replace h := z_iff c25 h
          cases h
          exact g_vret dX12_readChest_96 rfl hq
        · replace h := z_ift c25 h
          refine g_aload_n dX12_readChest_85 rfl rfl ?_
          refine g_get (a := 137) (v := .ref 144) dX12_readChest_86 f_12_35 sh_137 rfl rfl ?_
          refine g_sipush (v := (1512 : Int32)) dX12_readChest_89 (by decide) ?_
          refine g_iload_n dX12_readChest_92 rfl rfl ?_
          refine g_iadd dX12_readChest_93 ?_
          refine g_iload_n dX12_readChest_94 rfl rfl ?_
          by_cases g26 : ((1512 : Int32) + q3.1) < 0 ∨ 1875 ≤ ((1512 : Int32) + q3.1).toNatClampNeg
          · rw [if_pos g26] at h; cases h
          replace h := z_iff g26 h
          refine g_iast (a := 142) dX12_readChest_95 sh_142 g26 ?_
          cases h
          exact g_vret dX12_readChest_96 rfl hq
      · replace h := z_iff c20 h
        refine g_iconst (v := (1 : Int32)) dX12_readChest_61 (by decide) ?_
        refine g_goto (t := 66) dX12_readChest_62 (by decide) ?_
        obtain ⟨q27, e28, h⟩ := z_bd h
        refine g_callV (a := 137) (as := [.int (1 : Int32)]) (rest := []) (c := mX12_must) (k1 := 2) dX12_readChest_66 rfl rfl rfl sh_137 rfl rfl (Nat.le_of_ble_eq_true rfl) (Nat.le_of_ble_eq_true rfl) (by decide) ?_
        refine A_X12_must e28 ?_
        show z_G none 3 mX12_readChest 69 [some (.ref 139), some (.int q3.1), none] [] q27.2 Q
        refine g_aload_n dX12_readChest_69 rfl rfl ?_
        refine g_iconst (v := (0 : Int32)) dX12_readChest_70 (by decide) ?_
        refine g_sipush (v := (999 : Int32)) dX12_readChest_71 (by decide) ?_
        obtain ⟨q29, e30, h⟩ := z_bd h
        refine g_callV (a := 137) (as := [.int (0 : Int32), .int (999 : Int32)]) (rest := []) (c := mX12_count) (k1 := 2) dX12_readChest_74 rfl rfl rfl sh_137 rfl rfl (Nat.le_of_ble_eq_true rfl) (Nat.le_of_ble_eq_true rfl) (by decide) ?_
        refine A_X12_count e30 ?_
        show z_G none 3 mX12_readChest 77 [some (.ref 139), some (.int q3.1), none] [.int q29.1] q29.2 Q
        refine g_istore_n (ls' := [some (.ref 139), some (.int q3.1), some (.int q29.1)]) dX12_readChest_77 rfl (Nat.le_of_ble_eq_true rfl) rfl ?_
        refine g_aload_n dX12_readChest_78 rfl rfl ?_
        refine g_get (a := 137) (v := .int (q29.2.1 137 12)) dX12_readChest_79 f_12_212 sh_137 rfl rfl ?_
        refine g_if_ne (t := 96) dX12_readChest_82 (by decide) (fun c31 => ?_) (fun c31 => ?_)
        · replace h := z_iff c31 h
          cases h
          exact g_vret dX12_readChest_96 rfl hq
        · replace h := z_ift c31 h
          refine g_aload_n dX12_readChest_85 rfl rfl ?_
          refine g_get (a := 137) (v := .ref 144) dX12_readChest_86 f_12_35 sh_137 rfl rfl ?_
          refine g_sipush (v := (1512 : Int32)) dX12_readChest_89 (by decide) ?_
          refine g_iload_n dX12_readChest_92 rfl rfl ?_
          refine g_iadd dX12_readChest_93 ?_
          refine g_iload_n dX12_readChest_94 rfl rfl ?_
          by_cases g32 : ((1512 : Int32) + q3.1) < 0 ∨ 1875 ≤ ((1512 : Int32) + q3.1).toNatClampNeg
          · rw [if_pos g32] at h; cases h
          replace h := z_iff g32 h
          refine g_iast (a := 142) dX12_readChest_95 sh_142 g32 ?_
          cases h
          exact g_vret dX12_readChest_96 rfl hq
  · replace h := z_iff c5 h
    refine g_aload_n dX12_readChest_14 rfl rfl ?_
    refine g_get (a := 137) (v := .int (q3.2.1 137 24)) dX12_readChest_15 f_12_244 sh_137 rfl rfl ?_
    refine g_bipush (v := (12 : Int32)) dX12_readChest_18 (by decide) ?_
    refine g_iload_n dX12_readChest_20 rfl rfl ?_
    refine g_iadd dX12_readChest_21 ?_
    obtain ⟨q33, e34, h⟩ := z_bd h
    refine g_callS (as := [.int (q3.2.1 137 24), .int ((12 : Int32) + q3.1)]) (rest := []) (c := mX12_has) (k1 := 0) dX12_readChest_22 rfl rfl rfl rfl rfl (Nat.le_of_ble_eq_true rfl) (Nat.le_of_ble_eq_true rfl) (by decide) ?_
    refine A_X12_has e34 ?_
    show z_G none 3 mX12_readChest 25 [some (.ref 139), some (.int q3.1), none] [.int (z_tb q33.1)] q33.2 Q
    refine g_if_eq (t := 37) dX12_readChest_25 (by decide) (fun c35 => ?_) (fun c35 => ?_)
    · replace h := z_iff (z_tb0.mp c35) h
      refine g_iload_n dX12_readChest_37 rfl rfl ?_
      refine g_if_lt (t := 56) dX12_readChest_38 (by decide) (fun c36 => ?_) (fun c36 => ?_)
      · replace h := z_ift c36 h
        refine g_aload_n dX12_readChest_56 rfl rfl ?_
        refine g_iload_n dX12_readChest_57 rfl rfl ?_
        refine g_if_lt (t := 65) dX12_readChest_58 (by decide) (fun c37 => ?_) (fun c37 => ?_)
        · replace h := z_ift c37 h
          refine g_iconst (v := (0 : Int32)) dX12_readChest_65 (by decide) ?_
          obtain ⟨q38, e39, h⟩ := z_bd h
          refine g_callV (a := 137) (as := [.int (0 : Int32)]) (rest := []) (c := mX12_must) (k1 := 2) dX12_readChest_66 rfl rfl rfl sh_137 rfl rfl (Nat.le_of_ble_eq_true rfl) (Nat.le_of_ble_eq_true rfl) (by decide) ?_
          refine A_X12_must e39 ?_
          show z_G none 3 mX12_readChest 69 [some (.ref 139), some (.int q3.1), none] [] q38.2 Q
          refine g_aload_n dX12_readChest_69 rfl rfl ?_
          refine g_iconst (v := (0 : Int32)) dX12_readChest_70 (by decide) ?_
          refine g_sipush (v := (999 : Int32)) dX12_readChest_71 (by decide) ?_
          obtain ⟨q40, e41, h⟩ := z_bd h
          refine g_callV (a := 137) (as := [.int (0 : Int32), .int (999 : Int32)]) (rest := []) (c := mX12_count) (k1 := 2) dX12_readChest_74 rfl rfl rfl sh_137 rfl rfl (Nat.le_of_ble_eq_true rfl) (Nat.le_of_ble_eq_true rfl) (by decide) ?_
          refine A_X12_count e41 ?_
          show z_G none 3 mX12_readChest 77 [some (.ref 139), some (.int q3.1), none] [.int q40.1] q40.2 Q
          refine g_istore_n (ls' := [some (.ref 139), some (.int q3.1), some (.int q40.1)]) dX12_readChest_77 rfl (Nat.le_of_ble_eq_true rfl) rfl ?_
          refine g_aload_n dX12_readChest_78 rfl rfl ?_
          refine g_get (a := 137) (v := .int (q40.2.1 137 12)) dX12_readChest_79 f_12_212 sh_137 rfl rfl ?_
          refine g_if_ne (t := 96) dX12_readChest_82 (by decide) (fun c42 => ?_) (fun c42 => ?_)
          · replace h := z_iff c42 h
            cases h
            exact g_vret dX12_readChest_96 rfl hq
          · replace h := z_ift c42 h
            refine g_aload_n dX12_readChest_85 rfl rfl ?_
            refine g_get (a := 137) (v := .ref 144) dX12_readChest_86 f_12_35 sh_137 rfl rfl ?_
            refine g_sipush (v := (1512 : Int32)) dX12_readChest_89 (by decide) ?_
            refine g_iload_n dX12_readChest_92 rfl rfl ?_
            refine g_iadd dX12_readChest_93 ?_
            refine g_iload_n dX12_readChest_94 rfl rfl ?_
            by_cases g43 : ((1512 : Int32) + q3.1) < 0 ∨ 1875 ≤ ((1512 : Int32) + q3.1).toNatClampNeg
            · rw [if_pos g43] at h; cases h
            replace h := z_iff g43 h
            refine g_iast (a := 142) dX12_readChest_95 sh_142 g43 ?_
            cases h
            exact g_vret dX12_readChest_96 rfl hq
        · replace h := z_iff c37 h
          refine g_iconst (v := (1 : Int32)) dX12_readChest_61 (by decide) ?_
          refine g_goto (t := 66) dX12_readChest_62 (by decide) ?_
          obtain ⟨q44, e45, h⟩ := z_bd h
          refine g_callV (a := 137) (as := [.int (1 : Int32)]) (rest := []) (c := mX12_must) (k1 := 2) dX12_readChest_66 rfl rfl rfl sh_137 rfl rfl (Nat.le_of_ble_eq_true rfl) (Nat.le_of_ble_eq_true rfl) (by decide) ?_
          refine A_X12_must e45 ?_
          show z_G none 3 mX12_readChest 69 [some (.ref 139), some (.int q3.1), none] [] q44.2 Q
          refine g_aload_n dX12_readChest_69 rfl rfl ?_
          refine g_iconst (v := (0 : Int32)) dX12_readChest_70 (by decide) ?_
          refine g_sipush (v := (999 : Int32)) dX12_readChest_71 (by decide) ?_
          obtain ⟨q46, e47, h⟩ := z_bd h
          refine g_callV (a := 137) (as := [.int (0 : Int32), .int (999 : Int32)]) (rest := []) (c := mX12_count) (k1 := 2) dX12_readChest_74 rfl rfl rfl sh_137 rfl rfl (Nat.le_of_ble_eq_true rfl) (Nat.le_of_ble_eq_true rfl) (by decide) ?_
          refine A_X12_count e47 ?_
          show z_G none 3 mX12_readChest 77 [some (.ref 139), some (.int q3.1), none] [.int q46.1] q46.2 Q
          refine g_istore_n (ls' := [some (.ref 139), some (.int q3.1), some (.int q46.1)]) dX12_readChest_77 rfl (Nat.le_of_ble_eq_true rfl) rfl ?_
          refine g_aload_n dX12_readChest_78 rfl rfl ?_
          refine g_get (a := 137) (v := .int (q46.2.1 137 12)) dX12_readChest_79 f_12_212 sh_137 rfl rfl ?_
          refine g_if_ne (t := 96) dX12_readChest_82 (by decide) (fun c48 => ?_) (fun c48 => ?_)
          · replace h := z_iff c48 h
            cases h
            exact g_vret dX12_readChest_96 rfl hq
          · replace h := z_ift c48 h
            refine g_aload_n dX12_readChest_85 rfl rfl ?_
            refine g_get (a := 137) (v := .ref 144) dX12_readChest_86 f_12_35 sh_137 rfl rfl ?_
            refine g_sipush (v := (1512 : Int32)) dX12_readChest_89 (by decide) ?_
            refine g_iload_n dX12_readChest_92 rfl rfl ?_
            refine g_iadd dX12_readChest_93 ?_
            refine g_iload_n dX12_readChest_94 rfl rfl ?_
            by_cases g49 : ((1512 : Int32) + q3.1) < 0 ∨ 1875 ≤ ((1512 : Int32) + q3.1).toNatClampNeg
            · rw [if_pos g49] at h; cases h
            replace h := z_iff g49 h
            refine g_iast (a := 142) dX12_readChest_95 sh_142 g49 ?_
            cases h
            exact g_vret dX12_readChest_96 rfl hq
      · replace h := z_iff c36 h
        refine g_aload_n dX12_readChest_41 rfl rfl ?_
        refine g_dup dX12_readChest_42 rfl ?_
        refine g_get (a := 137) (v := .int (q33.2.1 137 24)) dX12_readChest_43 f_12_244 sh_137 rfl rfl ?_
        refine g_iconst (v := (1 : Int32)) dX12_readChest_46 (by decide) ?_
        refine g_bipush (v := (12 : Int32)) dX12_readChest_47 (by decide) ?_
        refine g_iload_n dX12_readChest_49 rfl rfl ?_
        refine g_iadd dX12_readChest_50 ?_
        refine g_ishl dX12_readChest_51 ?_
        refine g_ior dX12_readChest_52 ?_
        refine g_putI (a := 137) dX12_readChest_53 f_12_244 sh_137 rfl rfl rfl ?_
        refine g_aload_n dX12_readChest_56 rfl rfl ?_
        refine g_iload_n dX12_readChest_57 rfl rfl ?_
        refine g_if_lt (t := 65) dX12_readChest_58 (by decide) (fun c50 => ?_) (fun c50 => ?_)
        · replace h := z_ift c50 h
          refine g_iconst (v := (0 : Int32)) dX12_readChest_65 (by decide) ?_
          obtain ⟨q51, e52, h⟩ := z_bd h
          refine g_callV (a := 137) (as := [.int (0 : Int32)]) (rest := []) (c := mX12_must) (k1 := 2) dX12_readChest_66 rfl rfl rfl sh_137 rfl rfl (Nat.le_of_ble_eq_true rfl) (Nat.le_of_ble_eq_true rfl) (by decide) ?_
          refine A_X12_must e52 ?_
          show z_G none 3 mX12_readChest 69 [some (.ref 139), some (.int q3.1), none] [] q51.2 Q
          refine g_aload_n dX12_readChest_69 rfl rfl ?_
          refine g_iconst (v := (0 : Int32)) dX12_readChest_70 (by decide) ?_
          refine g_sipush (v := (999 : Int32)) dX12_readChest_71 (by decide) ?_
          obtain ⟨q53, e54, h⟩ := z_bd h
          refine g_callV (a := 137) (as := [.int (0 : Int32), .int (999 : Int32)]) (rest := []) (c := mX12_count) (k1 := 2) dX12_readChest_74 rfl rfl rfl sh_137 rfl rfl (Nat.le_of_ble_eq_true rfl) (Nat.le_of_ble_eq_true rfl) (by decide) ?_
          refine A_X12_count e54 ?_
          show z_G none 3 mX12_readChest 77 [some (.ref 139), some (.int q3.1), none] [.int q53.1] q53.2 Q
          refine g_istore_n (ls' := [some (.ref 139), some (.int q3.1), some (.int q53.1)]) dX12_readChest_77 rfl (Nat.le_of_ble_eq_true rfl) rfl ?_
          refine g_aload_n dX12_readChest_78 rfl rfl ?_
          refine g_get (a := 137) (v := .int (q53.2.1 137 12)) dX12_readChest_79 f_12_212 sh_137 rfl rfl ?_
          refine g_if_ne (t := 96) dX12_readChest_82 (by decide) (fun c55 => ?_) (fun c55 => ?_)
          · replace h := z_iff c55 h
            cases h
            exact g_vret dX12_readChest_96 rfl hq
          · replace h := z_ift c55 h
            refine g_aload_n dX12_readChest_85 rfl rfl ?_
            refine g_get (a := 137) (v := .ref 144) dX12_readChest_86 f_12_35 sh_137 rfl rfl ?_
            refine g_sipush (v := (1512 : Int32)) dX12_readChest_89 (by decide) ?_
            refine g_iload_n dX12_readChest_92 rfl rfl ?_
            refine g_iadd dX12_readChest_93 ?_
            refine g_iload_n dX12_readChest_94 rfl rfl ?_
            by_cases g56 : ((1512 : Int32) + q3.1) < 0 ∨ 1875 ≤ ((1512 : Int32) + q3.1).toNatClampNeg
            · rw [if_pos g56] at h; cases h
            replace h := z_iff g56 h
            refine g_iast (a := 142) dX12_readChest_95 sh_142 g56 ?_
            cases h
            exact g_vret dX12_readChest_96 rfl hq
        · replace h := z_iff c50 h
          refine g_iconst (v := (1 : Int32)) dX12_readChest_61 (by decide) ?_
          refine g_goto (t := 66) dX12_readChest_62 (by decide) ?_
          obtain ⟨q57, e58, h⟩ := z_bd h
          refine g_callV (a := 137) (as := [.int (1 : Int32)]) (rest := []) (c := mX12_must) (k1 := 2) dX12_readChest_66 rfl rfl rfl sh_137 rfl rfl (Nat.le_of_ble_eq_true rfl) (Nat.le_of_ble_eq_true rfl) (by decide) ?_
          refine A_X12_must e58 ?_
          show z_G none 3 mX12_readChest 69 [some (.ref 139), some (.int q3.1), none] [] q57.2 Q
          refine g_aload_n dX12_readChest_69 rfl rfl ?_
          refine g_iconst (v := (0 : Int32)) dX12_readChest_70 (by decide) ?_
          refine g_sipush (v := (999 : Int32)) dX12_readChest_71 (by decide) ?_
          obtain ⟨q59, e60, h⟩ := z_bd h
          refine g_callV (a := 137) (as := [.int (0 : Int32), .int (999 : Int32)]) (rest := []) (c := mX12_count) (k1 := 2) dX12_readChest_74 rfl rfl rfl sh_137 rfl rfl (Nat.le_of_ble_eq_true rfl) (Nat.le_of_ble_eq_true rfl) (by decide) ?_
          refine A_X12_count e60 ?_
          show z_G none 3 mX12_readChest 77 [some (.ref 139), some (.int q3.1), none] [.int q59.1] q59.2 Q
          refine g_istore_n (ls' := [some (.ref 139), some (.int q3.1), some (.int q59.1)]) dX12_readChest_77 rfl (Nat.le_of_ble_eq_true rfl) rfl ?_
          refine g_aload_n dX12_readChest_78 rfl rfl ?_
          refine g_get (a := 137) (v := .int (q59.2.1 137 12)) dX12_readChest_79 f_12_212 sh_137 rfl rfl ?_
          refine g_if_ne (t := 96) dX12_readChest_82 (by decide) (fun c61 => ?_) (fun c61 => ?_)
          · replace h := z_iff c61 h
            cases h
            exact g_vret dX12_readChest_96 rfl hq
          · replace h := z_ift c61 h
            refine g_aload_n dX12_readChest_85 rfl rfl ?_
            refine g_get (a := 137) (v := .ref 144) dX12_readChest_86 f_12_35 sh_137 rfl rfl ?_
            refine g_sipush (v := (1512 : Int32)) dX12_readChest_89 (by decide) ?_
            refine g_iload_n dX12_readChest_92 rfl rfl ?_
            refine g_iadd dX12_readChest_93 ?_
            refine g_iload_n dX12_readChest_94 rfl rfl ?_
            by_cases g62 : ((1512 : Int32) + q3.1) < 0 ∨ 1875 ≤ ((1512 : Int32) + q3.1).toNatClampNeg
            · rw [if_pos g62] at h; cases h
            replace h := z_iff g62 h
            refine g_iast (a := 142) dX12_readChest_95 sh_142 g62 ?_
            cases h
            exact g_vret dX12_readChest_96 rfl hq
    · replace h := z_ift (z_tbn.mp c35) h
      refine g_aload_n dX12_readChest_28 rfl rfl ?_
      refine g_iconst (v := (5 : Int32)) dX12_readChest_29 (by decide) ?_
      refine g_aload_n dX12_readChest_30 rfl rfl ?_
      refine g_get (a := 137) (v := .int (q33.2.1 137 15)) dX12_readChest_31 f_12_106 sh_137 rfl rfl ?_
      obtain ⟨q63, e64, h⟩ := z_bd h
      refine g_callV (a := 137) (as := [.int (5 : Int32), .int (q33.2.1 137 15)]) (rest := []) (c := mX12_fail) (k1 := 0) dX12_readChest_34 rfl rfl rfl sh_137 rfl rfl (Nat.le_of_ble_eq_true rfl) (Nat.le_of_ble_eq_true rfl) (by decide) ?_
      refine A_X12_fail e64 ?_
      show z_G none 3 mX12_readChest 37 [some (.ref 139), some (.int q3.1), none] [] q63.2 Q
      refine g_iload_n dX12_readChest_37 rfl rfl ?_
      refine g_if_lt (t := 56) dX12_readChest_38 (by decide) (fun c65 => ?_) (fun c65 => ?_)
      · replace h := z_ift c65 h
        refine g_aload_n dX12_readChest_56 rfl rfl ?_
        refine g_iload_n dX12_readChest_57 rfl rfl ?_
        refine g_if_lt (t := 65) dX12_readChest_58 (by decide) (fun c66 => ?_) (fun c66 => ?_)
        · replace h := z_ift c66 h
          refine g_iconst (v := (0 : Int32)) dX12_readChest_65 (by decide) ?_
          obtain ⟨q67, e68, h⟩ := z_bd h
          refine g_callV (a := 137) (as := [.int (0 : Int32)]) (rest := []) (c := mX12_must) (k1 := 2) dX12_readChest_66 rfl rfl rfl sh_137 rfl rfl (Nat.le_of_ble_eq_true rfl) (Nat.le_of_ble_eq_true rfl) (by decide) ?_
          refine A_X12_must e68 ?_
          show z_G none 3 mX12_readChest 69 [some (.ref 139), some (.int q3.1), none] [] q67.2 Q
          refine g_aload_n dX12_readChest_69 rfl rfl ?_
          refine g_iconst (v := (0 : Int32)) dX12_readChest_70 (by decide) ?_
          refine g_sipush (v := (999 : Int32)) dX12_readChest_71 (by decide) ?_
          obtain ⟨q69, e70, h⟩ := z_bd h
          refine g_callV (a := 137) (as := [.int (0 : Int32), .int (999 : Int32)]) (rest := []) (c := mX12_count) (k1 := 2) dX12_readChest_74 rfl rfl rfl sh_137 rfl rfl (Nat.le_of_ble_eq_true rfl) (Nat.le_of_ble_eq_true rfl) (by decide) ?_
          refine A_X12_count e70 ?_
          show z_G none 3 mX12_readChest 77 [some (.ref 139), some (.int q3.1), none] [.int q69.1] q69.2 Q
          refine g_istore_n (ls' := [some (.ref 139), some (.int q3.1), some (.int q69.1)]) dX12_readChest_77 rfl (Nat.le_of_ble_eq_true rfl) rfl ?_
          refine g_aload_n dX12_readChest_78 rfl rfl ?_
          refine g_get (a := 137) (v := .int (q69.2.1 137 12)) dX12_readChest_79 f_12_212 sh_137 rfl rfl ?_
          refine g_if_ne (t := 96) dX12_readChest_82 (by decide) (fun c71 => ?_) (fun c71 => ?_)
          · replace h := z_iff c71 h
            cases h
            exact g_vret dX12_readChest_96 rfl hq
          · replace h := z_ift c71 h
            refine g_aload_n dX12_readChest_85 rfl rfl ?_
            refine g_get (a := 137) (v := .ref 144) dX12_readChest_86 f_12_35 sh_137 rfl rfl ?_
            refine g_sipush (v := (1512 : Int32)) dX12_readChest_89 (by decide) ?_
            refine g_iload_n dX12_readChest_92 rfl rfl ?_
            refine g_iadd dX12_readChest_93 ?_
            refine g_iload_n dX12_readChest_94 rfl rfl ?_
            by_cases g72 : ((1512 : Int32) + q3.1) < 0 ∨ 1875 ≤ ((1512 : Int32) + q3.1).toNatClampNeg
            · rw [if_pos g72] at h; cases h
            replace h := z_iff g72 h
            refine g_iast (a := 142) dX12_readChest_95 sh_142 g72 ?_
            cases h
            exact g_vret dX12_readChest_96 rfl hq
        · replace h := z_iff c66 h
          refine g_iconst (v := (1 : Int32)) dX12_readChest_61 (by decide) ?_
          refine g_goto (t := 66) dX12_readChest_62 (by decide) ?_
          obtain ⟨q73, e74, h⟩ := z_bd h
          refine g_callV (a := 137) (as := [.int (1 : Int32)]) (rest := []) (c := mX12_must) (k1 := 2) dX12_readChest_66 rfl rfl rfl sh_137 rfl rfl (Nat.le_of_ble_eq_true rfl) (Nat.le_of_ble_eq_true rfl) (by decide) ?_
          refine A_X12_must e74 ?_
          show z_G none 3 mX12_readChest 69 [some (.ref 139), some (.int q3.1), none] [] q73.2 Q
          refine g_aload_n dX12_readChest_69 rfl rfl ?_
          refine g_iconst (v := (0 : Int32)) dX12_readChest_70 (by decide) ?_
          refine g_sipush (v := (999 : Int32)) dX12_readChest_71 (by decide) ?_
          obtain ⟨q75, e76, h⟩ := z_bd h
          refine g_callV (a := 137) (as := [.int (0 : Int32), .int (999 : Int32)]) (rest := []) (c := mX12_count) (k1 := 2) dX12_readChest_74 rfl rfl rfl sh_137 rfl rfl (Nat.le_of_ble_eq_true rfl) (Nat.le_of_ble_eq_true rfl) (by decide) ?_
          refine A_X12_count e76 ?_
          show z_G none 3 mX12_readChest 77 [some (.ref 139), some (.int q3.1), none] [.int q75.1] q75.2 Q
          refine g_istore_n (ls' := [some (.ref 139), some (.int q3.1), some (.int q75.1)]) dX12_readChest_77 rfl (Nat.le_of_ble_eq_true rfl) rfl ?_
          refine g_aload_n dX12_readChest_78 rfl rfl ?_
          refine g_get (a := 137) (v := .int (q75.2.1 137 12)) dX12_readChest_79 f_12_212 sh_137 rfl rfl ?_
          refine g_if_ne (t := 96) dX12_readChest_82 (by decide) (fun c77 => ?_) (fun c77 => ?_)
          · replace h := z_iff c77 h
            cases h
            exact g_vret dX12_readChest_96 rfl hq
          · replace h := z_ift c77 h
            refine g_aload_n dX12_readChest_85 rfl rfl ?_
            refine g_get (a := 137) (v := .ref 144) dX12_readChest_86 f_12_35 sh_137 rfl rfl ?_
            refine g_sipush (v := (1512 : Int32)) dX12_readChest_89 (by decide) ?_
            refine g_iload_n dX12_readChest_92 rfl rfl ?_
            refine g_iadd dX12_readChest_93 ?_
            refine g_iload_n dX12_readChest_94 rfl rfl ?_
            by_cases g78 : ((1512 : Int32) + q3.1) < 0 ∨ 1875 ≤ ((1512 : Int32) + q3.1).toNatClampNeg
            · rw [if_pos g78] at h; cases h
            replace h := z_iff g78 h
            refine g_iast (a := 142) dX12_readChest_95 sh_142 g78 ?_
            cases h
            exact g_vret dX12_readChest_96 rfl hq
      · replace h := z_iff c65 h
        refine g_aload_n dX12_readChest_41 rfl rfl ?_
        refine g_dup dX12_readChest_42 rfl ?_
        refine g_get (a := 137) (v := .int (q63.2.1 137 24)) dX12_readChest_43 f_12_244 sh_137 rfl rfl ?_
        refine g_iconst (v := (1 : Int32)) dX12_readChest_46 (by decide) ?_
        refine g_bipush (v := (12 : Int32)) dX12_readChest_47 (by decide) ?_
        refine g_iload_n dX12_readChest_49 rfl rfl ?_
        refine g_iadd dX12_readChest_50 ?_
        refine g_ishl dX12_readChest_51 ?_
        refine g_ior dX12_readChest_52 ?_
        refine g_putI (a := 137) dX12_readChest_53 f_12_244 sh_137 rfl rfl rfl ?_
        refine g_aload_n dX12_readChest_56 rfl rfl ?_
        refine g_iload_n dX12_readChest_57 rfl rfl ?_
        refine g_if_lt (t := 65) dX12_readChest_58 (by decide) (fun c79 => ?_) (fun c79 => ?_)
        · replace h := z_ift c79 h
          refine g_iconst (v := (0 : Int32)) dX12_readChest_65 (by decide) ?_
          obtain ⟨q80, e81, h⟩ := z_bd h
          refine g_callV (a := 137) (as := [.int (0 : Int32)]) (rest := []) (c := mX12_must) (k1 := 2) dX12_readChest_66 rfl rfl rfl sh_137 rfl rfl (Nat.le_of_ble_eq_true rfl) (Nat.le_of_ble_eq_true rfl) (by decide) ?_
          refine A_X12_must e81 ?_
          show z_G none 3 mX12_readChest 69 [some (.ref 139), some (.int q3.1), none] [] q80.2 Q
          refine g_aload_n dX12_readChest_69 rfl rfl ?_
          refine g_iconst (v := (0 : Int32)) dX12_readChest_70 (by decide) ?_
          refine g_sipush (v := (999 : Int32)) dX12_readChest_71 (by decide) ?_
          obtain ⟨q82, e83, h⟩ := z_bd h
          refine g_callV (a := 137) (as := [.int (0 : Int32), .int (999 : Int32)]) (rest := []) (c := mX12_count) (k1 := 2) dX12_readChest_74 rfl rfl rfl sh_137 rfl rfl (Nat.le_of_ble_eq_true rfl) (Nat.le_of_ble_eq_true rfl) (by decide) ?_
          refine A_X12_count e83 ?_
          show z_G none 3 mX12_readChest 77 [some (.ref 139), some (.int q3.1), none] [.int q82.1] q82.2 Q
          refine g_istore_n (ls' := [some (.ref 139), some (.int q3.1), some (.int q82.1)]) dX12_readChest_77 rfl (Nat.le_of_ble_eq_true rfl) rfl ?_
          refine g_aload_n dX12_readChest_78 rfl rfl ?_
          refine g_get (a := 137) (v := .int (q82.2.1 137 12)) dX12_readChest_79 f_12_212 sh_137 rfl rfl ?_
          refine g_if_ne (t := 96) dX12_readChest_82 (by decide) (fun c84 => ?_) (fun c84 => ?_)
          · replace h := z_iff c84 h
            cases h
            exact g_vret dX12_readChest_96 rfl hq
          · replace h := z_ift c84 h
            refine g_aload_n dX12_readChest_85 rfl rfl ?_
            refine g_get (a := 137) (v := .ref 144) dX12_readChest_86 f_12_35 sh_137 rfl rfl ?_
            refine g_sipush (v := (1512 : Int32)) dX12_readChest_89 (by decide) ?_
            refine g_iload_n dX12_readChest_92 rfl rfl ?_
            refine g_iadd dX12_readChest_93 ?_
            refine g_iload_n dX12_readChest_94 rfl rfl ?_
            by_cases g85 : ((1512 : Int32) + q3.1) < 0 ∨ 1875 ≤ ((1512 : Int32) + q3.1).toNatClampNeg
            · rw [if_pos g85] at h; cases h
            replace h := z_iff g85 h
            refine g_iast (a := 142) dX12_readChest_95 sh_142 g85 ?_
            cases h
            exact g_vret dX12_readChest_96 rfl hq
        · replace h := z_iff c79 h
          refine g_iconst (v := (1 : Int32)) dX12_readChest_61 (by decide) ?_
          refine g_goto (t := 66) dX12_readChest_62 (by decide) ?_
          obtain ⟨q86, e87, h⟩ := z_bd h
          refine g_callV (a := 137) (as := [.int (1 : Int32)]) (rest := []) (c := mX12_must) (k1 := 2) dX12_readChest_66 rfl rfl rfl sh_137 rfl rfl (Nat.le_of_ble_eq_true rfl) (Nat.le_of_ble_eq_true rfl) (by decide) ?_
          refine A_X12_must e87 ?_
          show z_G none 3 mX12_readChest 69 [some (.ref 139), some (.int q3.1), none] [] q86.2 Q
          refine g_aload_n dX12_readChest_69 rfl rfl ?_
          refine g_iconst (v := (0 : Int32)) dX12_readChest_70 (by decide) ?_
          refine g_sipush (v := (999 : Int32)) dX12_readChest_71 (by decide) ?_
          obtain ⟨q88, e89, h⟩ := z_bd h
          refine g_callV (a := 137) (as := [.int (0 : Int32), .int (999 : Int32)]) (rest := []) (c := mX12_count) (k1 := 2) dX12_readChest_74 rfl rfl rfl sh_137 rfl rfl (Nat.le_of_ble_eq_true rfl) (Nat.le_of_ble_eq_true rfl) (by decide) ?_
          refine A_X12_count e89 ?_
          show z_G none 3 mX12_readChest 77 [some (.ref 139), some (.int q3.1), none] [.int q88.1] q88.2 Q
          refine g_istore_n (ls' := [some (.ref 139), some (.int q3.1), some (.int q88.1)]) dX12_readChest_77 rfl (Nat.le_of_ble_eq_true rfl) rfl ?_
          refine g_aload_n dX12_readChest_78 rfl rfl ?_
          refine g_get (a := 137) (v := .int (q88.2.1 137 12)) dX12_readChest_79 f_12_212 sh_137 rfl rfl ?_
          refine g_if_ne (t := 96) dX12_readChest_82 (by decide) (fun c90 => ?_) (fun c90 => ?_)
          · replace h := z_iff c90 h
            cases h
            exact g_vret dX12_readChest_96 rfl hq
          · replace h := z_ift c90 h
            refine g_aload_n dX12_readChest_85 rfl rfl ?_
            refine g_get (a := 137) (v := .ref 144) dX12_readChest_86 f_12_35 sh_137 rfl rfl ?_
            refine g_sipush (v := (1512 : Int32)) dX12_readChest_89 (by decide) ?_
            refine g_iload_n dX12_readChest_92 rfl rfl ?_
            refine g_iadd dX12_readChest_93 ?_
            refine g_iload_n dX12_readChest_94 rfl rfl ?_
            by_cases g91 : ((1512 : Int32) + q3.1) < 0 ∨ 1875 ≤ ((1512 : Int32) + q3.1).toNatClampNeg
            · rw [if_pos g91] at h; cases h
            replace h := z_iff g91 h
            refine g_iast (a := 142) dX12_readChest_95 sh_142 g91 ?_
            cases h
            exact g_vret dX12_readChest_96 rfl hq
theorem dX12_another_0 : decode cX12_another 0 = .ok (.aload_n 0, 1) := by decide +kernel
theorem dX12_another_1 : decode cX12_another 1 = .ok (.getfield 35, 3) := by decide +kernel
theorem dX12_another_4 : decode cX12_another 4 = .ok (.sipush 1500, 3) := by decide +kernel
theorem dX12_another_7 : decode cX12_another 7 = .ok (.iload_n 1, 1) := by decide +kernel
theorem dX12_another_8 : decode cX12_another 8 = .ok (.iadd, 1) := by decide +kernel
theorem dX12_another_9 : decode cX12_another 9 = .ok (.iaload, 1) := by decide +kernel
theorem dX12_another_10 : decode cX12_another 10 = .ok (.istore_n 3, 1) := by decide +kernel
theorem dX12_another_11 : decode cX12_another 11 = .ok (.iload_n 3, 1) := by decide +kernel
theorem dX12_another_12 : decode cX12_another 12 = .ok (.iload_n 2, 1) := by decide +kernel
theorem dX12_another_13 : decode cX12_another 13 = .ok (.if_icmp .ne 13, 3) := by decide +kernel
theorem dX12_another_16 : decode cX12_another 16 = .ok (.aload_n 0, 1) := by decide +kernel
theorem dX12_another_17 : decode cX12_another 17 = .ok (.bipush 6, 2) := by decide +kernel
theorem dX12_another_19 : decode cX12_another 19 = .ok (.aload_n 0, 1) := by decide +kernel
theorem dX12_another_20 : decode cX12_another 20 = .ok (.getfield 106, 3) := by decide +kernel
theorem dX12_another_23 : decode cX12_another 23 = .ok (.invokevirtual 218, 3) := by decide +kernel
theorem dX12_another_26 : decode cX12_another 26 = .ok (.aload_n 0, 1) := by decide +kernel
theorem dX12_another_27 : decode cX12_another 27 = .ok (.iconst 1, 1) := by decide +kernel
theorem dX12_another_28 : decode cX12_another 28 = .ok (.invokevirtual 228, 3) := by decide +kernel
theorem dX12_another_31 : decode cX12_another 31 = .ok (.iload_n 3, 1) := by decide +kernel
theorem dX12_another_32 : decode cX12_another 32 = .ok (.ireturn, 1) := by decide +kernel
def F_X12_another (w : Nat) (M : z_Mem) (a1 : Int32) (a2 : Int32) : Option (Int32 × z_Mem) :=
  if ((1500 : Int32) + a1) < 0 ∨ 1875 ≤ ((1500 : Int32) + a1).toNatClampNeg then none else
  if (M.1 142 ((1500 : Int32) + a1).toNatClampNeg) = a2 then
  (F_X12_fail w M (6 : Int32) (M.1 137 15)).bind fun q5 =>
  (F_X12_must w q5.2 (1 : Int32)).bind fun q7 =>
  some (M.1 142 ((1500 : Int32) + a1).toNatClampNeg, q7.2)
  else
  (F_X12_must w M (1 : Int32)).bind fun q3 =>
  some (M.1 142 ((1500 : Int32) + a1).toNatClampNeg, q3.2)
set_option maxHeartbeats 4000000 in
theorem A_X12_another {w : Nat} {M : z_Mem} {a1 : Int32} {a2 : Int32} {r : Int32} {M' : z_Mem} {Q : Option Value → z_Mem → Prop} (h : F_X12_another w M a1 a2 = some (r, M')) (hq : Q (some (.int r)) M') : z_Cl 3 mX12_another [.ref 139, .int a1, .int a2] M Q := by
  refine g_in (ls := [some (.ref 139), some (.int a1), some (.int a2), none]) rfl ?_
  unfold F_X12_another at h
  refine g_aload_n dX12_another_0 rfl rfl ?_
  refine g_get (a := 137) (v := .ref 144) dX12_another_1 f_12_35 sh_137 rfl rfl ?_
  refine g_sipush (v := (1500 : Int32)) dX12_another_4 (by decide) ?_
  refine g_iload_n dX12_another_7 rfl rfl ?_
  refine g_iadd dX12_another_8 ?_
  by_cases g1 : ((1500 : Int32) + a1) < 0 ∨ 1875 ≤ ((1500 : Int32) + a1).toNatClampNeg
  · rw [if_pos g1] at h; cases h
  replace h := z_iff g1 h
  refine g_iald (a := 142) dX12_another_9 sh_142 g1 ?_
  refine g_istore_n (ls' := [some (.ref 139), some (.int a1), some (.int a2), some (.int (M.1 142 ((1500 : Int32) + a1).toNatClampNeg))]) dX12_another_10 rfl (Nat.le_of_ble_eq_true rfl) rfl ?_
  refine g_iload_n dX12_another_11 rfl rfl ?_
  refine g_iload_n dX12_another_12 rfl rfl ?_
  refine g_ic_ne (t := 26) dX12_another_13 (by decide) (fun c2 => ?_) (fun c2 => ?_)
  · replace h := z_iff c2 h
    refine g_aload_n dX12_another_26 rfl rfl ?_
    refine g_iconst (v := (1 : Int32)) dX12_another_27 (by decide) ?_
    obtain ⟨q3, e4, h⟩ := z_bd h
    refine g_callV (a := 137) (as := [.int (1 : Int32)]) (rest := []) (c := mX12_must) (k1 := 2) dX12_another_28 rfl rfl rfl sh_137 rfl rfl (Nat.le_of_ble_eq_true rfl) (Nat.le_of_ble_eq_true rfl) (by decide) ?_
    refine A_X12_must e4 ?_
    show z_G none 3 mX12_another 31 [some (.ref 139), some (.int a1), some (.int a2), some (.int (M.1 142 ((1500 : Int32) + a1).toNatClampNeg))] [] q3.2 Q
    refine g_iload_n dX12_another_31 rfl rfl ?_
    cases h
    exact g_iret dX12_another_32 rfl rfl hq
  · replace h := z_ift c2 h
    refine g_aload_n dX12_another_16 rfl rfl ?_
    refine g_bipush (v := (6 : Int32)) dX12_another_17 (by decide) ?_
    refine g_aload_n dX12_another_19 rfl rfl ?_
    refine g_get (a := 137) (v := .int (M.1 137 15)) dX12_another_20 f_12_106 sh_137 rfl rfl ?_
    obtain ⟨q5, e6, h⟩ := z_bd h
    refine g_callV (a := 137) (as := [.int (6 : Int32), .int (M.1 137 15)]) (rest := []) (c := mX12_fail) (k1 := 0) dX12_another_23 rfl rfl rfl sh_137 rfl rfl (Nat.le_of_ble_eq_true rfl) (Nat.le_of_ble_eq_true rfl) (by decide) ?_
    refine A_X12_fail e6 ?_
    show z_G none 3 mX12_another 26 [some (.ref 139), some (.int a1), some (.int a2), some (.int (M.1 142 ((1500 : Int32) + a1).toNatClampNeg))] [] q5.2 Q
    refine g_aload_n dX12_another_26 rfl rfl ?_
    refine g_iconst (v := (1 : Int32)) dX12_another_27 (by decide) ?_
    obtain ⟨q7, e8, h⟩ := z_bd h
    refine g_callV (a := 137) (as := [.int (1 : Int32)]) (rest := []) (c := mX12_must) (k1 := 2) dX12_another_28 rfl rfl rfl sh_137 rfl rfl (Nat.le_of_ble_eq_true rfl) (Nat.le_of_ble_eq_true rfl) (by decide) ?_
    refine A_X12_must e8 ?_
    show z_G none 3 mX12_another 31 [some (.ref 139), some (.int a1), some (.int a2), some (.int (M.1 142 ((1500 : Int32) + a1).toNatClampNeg))] [] q7.2 Q
    refine g_iload_n dX12_another_31 rfl rfl ?_
    cases h
    exact g_iret dX12_another_32 rfl rfl hq
theorem dX12_grants_0 : decode cX12_grants 0 = .ok (.sipush 375, 3) := by decide +kernel
theorem dX12_grants_3 : decode cX12_grants 3 = .ok (.iload_n 1, 1) := by decide +kernel
theorem dX12_grants_4 : decode cX12_grants 4 = .ok (.imul, 1) := by decide +kernel
theorem dX12_grants_5 : decode cX12_grants 5 = .ok (.iload_n 2, 1) := by decide +kernel
theorem dX12_grants_6 : decode cX12_grants 6 = .ok (.iadd, 1) := by decide +kernel
theorem dX12_grants_7 : decode cX12_grants 7 = .ok (.istore 8, 2) := by decide +kernel
theorem dX12_grants_9 : decode cX12_grants 9 = .ok (.aload_n 0, 1) := by decide +kernel
theorem dX12_grants_10 : decode cX12_grants 10 = .ok (.getfield 35, 3) := by decide +kernel
theorem dX12_grants_13 : decode cX12_grants 13 = .ok (.iload 8, 2) := by decide +kernel
theorem dX12_grants_15 : decode cX12_grants 15 = .ok (.bipush 20, 2) := by decide +kernel
theorem dX12_grants_17 : decode cX12_grants 17 = .ok (.iadd, 1) := by decide +kernel
theorem dX12_grants_18 : decode cX12_grants 18 = .ok (.iload_n 3, 1) := by decide +kernel
theorem dX12_grants_19 : decode cX12_grants 19 = .ok (.iastore, 1) := by decide +kernel
theorem dX12_grants_20 : decode cX12_grants 20 = .ok (.aload_n 0, 1) := by decide +kernel
theorem dX12_grants_21 : decode cX12_grants 21 = .ok (.getfield 35, 3) := by decide +kernel
theorem dX12_grants_24 : decode cX12_grants 24 = .ok (.iload 8, 2) := by decide +kernel
theorem dX12_grants_26 : decode cX12_grants 26 = .ok (.bipush 28, 2) := by decide +kernel
theorem dX12_grants_28 : decode cX12_grants 28 = .ok (.iadd, 1) := by decide +kernel
theorem dX12_grants_29 : decode cX12_grants 29 = .ok (.iload 4, 2) := by decide +kernel
theorem dX12_grants_31 : decode cX12_grants 31 = .ok (.iastore, 1) := by decide +kernel
theorem dX12_grants_32 : decode cX12_grants 32 = .ok (.aload_n 0, 1) := by decide +kernel
theorem dX12_grants_33 : decode cX12_grants 33 = .ok (.getfield 35, 3) := by decide +kernel
theorem dX12_grants_36 : decode cX12_grants 36 = .ok (.iload 8, 2) := by decide +kernel
theorem dX12_grants_38 : decode cX12_grants 38 = .ok (.bipush 36, 2) := by decide +kernel
theorem dX12_grants_40 : decode cX12_grants 40 = .ok (.iadd, 1) := by decide +kernel
theorem dX12_grants_41 : decode cX12_grants 41 = .ok (.iload 5, 2) := by decide +kernel
theorem dX12_grants_43 : decode cX12_grants 43 = .ok (.iastore, 1) := by decide +kernel
theorem dX12_grants_44 : decode cX12_grants 44 = .ok (.aload_n 0, 1) := by decide +kernel
theorem dX12_grants_45 : decode cX12_grants 45 = .ok (.getfield 35, 3) := by decide +kernel
theorem dX12_grants_48 : decode cX12_grants 48 = .ok (.iload 8, 2) := by decide +kernel
theorem dX12_grants_50 : decode cX12_grants 50 = .ok (.bipush 44, 2) := by decide +kernel
theorem dX12_grants_52 : decode cX12_grants 52 = .ok (.iadd, 1) := by decide +kernel
theorem dX12_grants_53 : decode cX12_grants 53 = .ok (.iload 6, 2) := by decide +kernel
theorem dX12_grants_55 : decode cX12_grants 55 = .ok (.iastore, 1) := by decide +kernel
theorem dX12_grants_56 : decode cX12_grants 56 = .ok (.aload_n 0, 1) := by decide +kernel
theorem dX12_grants_57 : decode cX12_grants 57 = .ok (.getfield 35, 3) := by decide +kernel
theorem dX12_grants_60 : decode cX12_grants 60 = .ok (.iload 8, 2) := by decide +kernel
theorem dX12_grants_62 : decode cX12_grants 62 = .ok (.bipush 52, 2) := by decide +kernel
theorem dX12_grants_64 : decode cX12_grants 64 = .ok (.iadd, 1) := by decide +kernel
theorem dX12_grants_65 : decode cX12_grants 65 = .ok (.iload 7, 2) := by decide +kernel
theorem dX12_grants_67 : decode cX12_grants 67 = .ok (.iastore, 1) := by decide +kernel
theorem dX12_grants_68 : decode cX12_grants 68 = .ok (.aload_n 0, 1) := by decide +kernel
theorem dX12_grants_69 : decode cX12_grants 69 = .ok (.getfield 35, 3) := by decide +kernel
theorem dX12_grants_72 : decode cX12_grants 72 = .ok (.sipush 375, 3) := by decide +kernel
theorem dX12_grants_75 : decode cX12_grants 75 = .ok (.iload_n 1, 1) := by decide +kernel
theorem dX12_grants_76 : decode cX12_grants 76 = .ok (.imul, 1) := by decide +kernel
theorem dX12_grants_77 : decode cX12_grants 77 = .ok (.iload_n 2, 1) := by decide +kernel
theorem dX12_grants_78 : decode cX12_grants 78 = .ok (.iconst 1, 1) := by decide +kernel
theorem dX12_grants_79 : decode cX12_grants 79 = .ok (.iadd, 1) := by decide +kernel
theorem dX12_grants_80 : decode cX12_grants 80 = .ok (.iastore, 1) := by decide +kernel
theorem dX12_grants_81 : decode cX12_grants 81 = .ok (.return_, 1) := by decide +kernel
def F_X12_grants (w : Nat) (M : z_Mem) (a1 : Int32) (a2 : Int32) (a3 : Int32) (a4 : Int32) (a5 : Int32) (a6 : Int32) (a7 : Int32) : Option (Unit × z_Mem) :=
  if ((((375 : Int32) * a1) + a2) + (20 : Int32)) < 0 ∨ 1875 ≤ ((((375 : Int32) * a1) + a2) + (20 : Int32)).toNatClampNeg then none else
  if ((((375 : Int32) * a1) + a2) + (28 : Int32)) < 0 ∨ 1875 ≤ ((((375 : Int32) * a1) + a2) + (28 : Int32)).toNatClampNeg then none else
  if ((((375 : Int32) * a1) + a2) + (36 : Int32)) < 0 ∨ 1875 ≤ ((((375 : Int32) * a1) + a2) + (36 : Int32)).toNatClampNeg then none else
  if ((((375 : Int32) * a1) + a2) + (44 : Int32)) < 0 ∨ 1875 ≤ ((((375 : Int32) * a1) + a2) + (44 : Int32)).toNatClampNeg then none else
  if ((((375 : Int32) * a1) + a2) + (52 : Int32)) < 0 ∨ 1875 ≤ ((((375 : Int32) * a1) + a2) + (52 : Int32)).toNatClampNeg then none else
  if ((375 : Int32) * a1) < 0 ∨ 1875 ≤ ((375 : Int32) * a1).toNatClampNeg then none else
  some ((), (z_wI (z_wI (z_wI (z_wI (z_wI (z_wI M 142 (((((375 : Int32) * a1) + a2) + (20 : Int32)).toNatClampNeg) a3) 142 (((((375 : Int32) * a1) + a2) + (28 : Int32)).toNatClampNeg) a4) 142 (((((375 : Int32) * a1) + a2) + (36 : Int32)).toNatClampNeg) a5) 142 (((((375 : Int32) * a1) + a2) + (44 : Int32)).toNatClampNeg) a6) 142 (((((375 : Int32) * a1) + a2) + (52 : Int32)).toNatClampNeg) a7) 142 (((375 : Int32) * a1).toNatClampNeg) (a2 + (1 : Int32))))
set_option maxHeartbeats 4000000 in
theorem A_X12_grants {w : Nat} {M : z_Mem} {a1 : Int32} {a2 : Int32} {a3 : Int32} {a4 : Int32} {a5 : Int32} {a6 : Int32} {a7 : Int32} {r : Unit} {M' : z_Mem} {Q : Option Value → z_Mem → Prop} (h : F_X12_grants w M a1 a2 a3 a4 a5 a6 a7 = some (r, M')) (hq : Q none M') : z_Cl 0 mX12_grants [.ref 139, .int a1, .int a2, .int a3, .int a4, .int a5, .int a6, .int a7] M Q := by
  refine g_in (ls := [some (.ref 139), some (.int a1), some (.int a2), some (.int a3), some (.int a4), some (.int a5), some (.int a6), some (.int a7), none]) rfl ?_
  unfold F_X12_grants at h
  refine g_sipush (v := (375 : Int32)) dX12_grants_0 (by decide) ?_
  refine g_iload_n dX12_grants_3 rfl rfl ?_
  refine g_imul dX12_grants_4 ?_
  refine g_iload_n dX12_grants_5 rfl rfl ?_
  refine g_iadd dX12_grants_6 ?_
  refine g_istore (ls' := [some (.ref 139), some (.int a1), some (.int a2), some (.int a3), some (.int a4), some (.int a5), some (.int a6), some (.int a7), some (.int (((375 : Int32) * a1) + a2))]) dX12_grants_7 (Nat.le_of_ble_eq_true rfl) rfl ?_
  refine g_aload_n dX12_grants_9 rfl rfl ?_
  refine g_get (a := 137) (v := .ref 144) dX12_grants_10 f_12_35 sh_137 rfl rfl ?_
  refine g_iload dX12_grants_13 rfl ?_
  refine g_bipush (v := (20 : Int32)) dX12_grants_15 (by decide) ?_
  refine g_iadd dX12_grants_17 ?_
  refine g_iload_n dX12_grants_18 rfl rfl ?_
  by_cases g1 : ((((375 : Int32) * a1) + a2) + (20 : Int32)) < 0 ∨ 1875 ≤ ((((375 : Int32) * a1) + a2) + (20 : Int32)).toNatClampNeg
  · rw [if_pos g1] at h; cases h
  replace h := z_iff g1 h
  refine g_iast (a := 142) dX12_grants_19 sh_142 g1 ?_
  refine g_aload_n dX12_grants_20 rfl rfl ?_
  refine g_get (a := 137) (v := .ref 144) dX12_grants_21 f_12_35 sh_137 rfl rfl ?_
  refine g_iload dX12_grants_24 rfl ?_
  refine g_bipush (v := (28 : Int32)) dX12_grants_26 (by decide) ?_
  refine g_iadd dX12_grants_28 ?_
  refine g_iload dX12_grants_29 rfl ?_
  by_cases g2 : ((((375 : Int32) * a1) + a2) + (28 : Int32)) < 0 ∨ 1875 ≤ ((((375 : Int32) * a1) + a2) + (28 : Int32)).toNatClampNeg
  · rw [if_pos g2] at h; cases h
  replace h := z_iff g2 h
  refine g_iast (a := 142) dX12_grants_31 sh_142 g2 ?_
  refine g_aload_n dX12_grants_32 rfl rfl ?_
  refine g_get (a := 137) (v := .ref 144) dX12_grants_33 f_12_35 sh_137 rfl rfl ?_
  refine g_iload dX12_grants_36 rfl ?_
  refine g_bipush (v := (36 : Int32)) dX12_grants_38 (by decide) ?_
  refine g_iadd dX12_grants_40 ?_
  refine g_iload dX12_grants_41 rfl ?_
  by_cases g3 : ((((375 : Int32) * a1) + a2) + (36 : Int32)) < 0 ∨ 1875 ≤ ((((375 : Int32) * a1) + a2) + (36 : Int32)).toNatClampNeg
  · rw [if_pos g3] at h; cases h
  replace h := z_iff g3 h
  refine g_iast (a := 142) dX12_grants_43 sh_142 g3 ?_
  refine g_aload_n dX12_grants_44 rfl rfl ?_
  refine g_get (a := 137) (v := .ref 144) dX12_grants_45 f_12_35 sh_137 rfl rfl ?_
  refine g_iload dX12_grants_48 rfl ?_
  refine g_bipush (v := (44 : Int32)) dX12_grants_50 (by decide) ?_
  refine g_iadd dX12_grants_52 ?_
  refine g_iload dX12_grants_53 rfl ?_
  by_cases g4 : ((((375 : Int32) * a1) + a2) + (44 : Int32)) < 0 ∨ 1875 ≤ ((((375 : Int32) * a1) + a2) + (44 : Int32)).toNatClampNeg
  · rw [if_pos g4] at h; cases h
  replace h := z_iff g4 h
  refine g_iast (a := 142) dX12_grants_55 sh_142 g4 ?_
  refine g_aload_n dX12_grants_56 rfl rfl ?_
  refine g_get (a := 137) (v := .ref 144) dX12_grants_57 f_12_35 sh_137 rfl rfl ?_
  refine g_iload dX12_grants_60 rfl ?_
  refine g_bipush (v := (52 : Int32)) dX12_grants_62 (by decide) ?_
  refine g_iadd dX12_grants_64 ?_
  refine g_iload dX12_grants_65 rfl ?_
  by_cases g5 : ((((375 : Int32) * a1) + a2) + (52 : Int32)) < 0 ∨ 1875 ≤ ((((375 : Int32) * a1) + a2) + (52 : Int32)).toNatClampNeg
  · rw [if_pos g5] at h; cases h
  replace h := z_iff g5 h
  refine g_iast (a := 142) dX12_grants_67 sh_142 g5 ?_
  refine g_aload_n dX12_grants_68 rfl rfl ?_
  refine g_get (a := 137) (v := .ref 144) dX12_grants_69 f_12_35 sh_137 rfl rfl ?_
  refine g_sipush (v := (375 : Int32)) dX12_grants_72 (by decide) ?_
  refine g_iload_n dX12_grants_75 rfl rfl ?_
  refine g_imul dX12_grants_76 ?_
  refine g_iload_n dX12_grants_77 rfl rfl ?_
  refine g_iconst (v := (1 : Int32)) dX12_grants_78 (by decide) ?_
  refine g_iadd dX12_grants_79 ?_
  by_cases g6 : ((375 : Int32) * a1) < 0 ∨ 1875 ≤ ((375 : Int32) * a1).toNatClampNeg
  · rw [if_pos g6] at h; cases h
  replace h := z_iff g6 h
  refine g_iast (a := 142) dX12_grants_80 sh_142 g6 ?_
  cases h
  exact g_vret dX12_grants_81 rfl hq
theorem dX12_readRight_0 : decode cX12_readRight 0 = .ok (.aload_n 0, 1) := by decide +kernel
theorem dX12_readRight_1 : decode cX12_readRight 1 = .ok (.iconst 0, 1) := by decide +kernel
theorem dX12_readRight_2 : decode cX12_readRight 2 = .ok (.bipush 8, 2) := by decide +kernel
theorem dX12_readRight_4 : decode cX12_readRight 4 = .ok (.invokevirtual 253, 3) := by decide +kernel
theorem dX12_readRight_7 : decode cX12_readRight 7 = .ok (.istore_n 1, 1) := by decide +kernel
theorem dX12_readRight_8 : decode cX12_readRight 8 = .ok (.aload_n 0, 1) := by decide +kernel
theorem dX12_readRight_9 : decode cX12_readRight 9 = .ok (.invokevirtual 250, 3) := by decide +kernel
theorem dX12_readRight_12 : decode cX12_readRight 12 = .ok (.istore_n 2, 1) := by decide +kernel
theorem dX12_readRight_13 : decode cX12_readRight 13 = .ok (.aload_n 0, 1) := by decide +kernel
theorem dX12_readRight_14 : decode cX12_readRight 14 = .ok (.getfield 212, 3) := by decide +kernel
theorem dX12_readRight_17 : decode cX12_readRight 17 = .ok (.ifCond .le 7, 3) := by decide +kernel
theorem dX12_readRight_20 : decode cX12_readRight 20 = .ok (.iconst 0, 1) := by decide +kernel
theorem dX12_readRight_21 : decode cX12_readRight 21 = .ok (.goto 7, 3) := by decide +kernel
theorem dX12_readRight_24 : decode cX12_readRight 24 = .ok (.aload_n 0, 1) := by decide +kernel
theorem dX12_readRight_25 : decode cX12_readRight 25 = .ok (.invokevirtual 200, 3) := by decide +kernel
theorem dX12_readRight_28 : decode cX12_readRight 28 = .ok (.istore_n 3, 1) := by decide +kernel
theorem dX12_readRight_29 : decode cX12_readRight 29 = .ok (.aload_n 0, 1) := by decide +kernel
theorem dX12_readRight_30 : decode cX12_readRight 30 = .ok (.iload_n 3, 1) := by decide +kernel
theorem dX12_readRight_31 : decode cX12_readRight 31 = .ok (.ifCond .lt 7, 3) := by decide +kernel
theorem dX12_readRight_34 : decode cX12_readRight 34 = .ok (.iconst 1, 1) := by decide +kernel
theorem dX12_readRight_35 : decode cX12_readRight 35 = .ok (.goto 4, 3) := by decide +kernel
theorem dX12_readRight_38 : decode cX12_readRight 38 = .ok (.iconst 0, 1) := by decide +kernel
theorem dX12_readRight_39 : decode cX12_readRight 39 = .ok (.invokevirtual 228, 3) := by decide +kernel
theorem dX12_readRight_42 : decode cX12_readRight 42 = .ok (.iload_n 3, 1) := by decide +kernel
theorem dX12_readRight_43 : decode cX12_readRight 43 = .ok (.iconst 2, 1) := by decide +kernel
theorem dX12_readRight_44 : decode cX12_readRight 44 = .ok (.if_icmp .ne 13, 3) := by decide +kernel
theorem dX12_readRight_47 : decode cX12_readRight 47 = .ok (.aload_n 0, 1) := by decide +kernel
theorem dX12_readRight_48 : decode cX12_readRight 48 = .ok (.iconst 1, 1) := by decide +kernel
theorem dX12_readRight_49 : decode cX12_readRight 49 = .ok (.bipush 6, 2) := by decide +kernel
theorem dX12_readRight_51 : decode cX12_readRight 51 = .ok (.invokevirtual 232, 3) := by decide +kernel
theorem dX12_readRight_54 : decode cX12_readRight 54 = .ok (.goto 4, 3) := by decide +kernel
theorem dX12_readRight_57 : decode cX12_readRight 57 = .ok (.iconst 0, 1) := by decide +kernel
theorem dX12_readRight_58 : decode cX12_readRight 58 = .ok (.istore 4, 2) := by decide +kernel
theorem dX12_readRight_60 : decode cX12_readRight 60 = .ok (.aload_n 0, 1) := by decide +kernel
theorem dX12_readRight_61 : decode cX12_readRight 61 = .ok (.aload_n 0, 1) := by decide +kernel
theorem dX12_readRight_62 : decode cX12_readRight 62 = .ok (.invokevirtual 166, 3) := by decide +kernel
theorem dX12_readRight_65 : decode cX12_readRight 65 = .ok (.iconst 1, 1) := by decide +kernel
theorem dX12_readRight_66 : decode cX12_readRight 66 = .ok (.bipush 50, 2) := by decide +kernel
theorem dX12_readRight_68 : decode cX12_readRight 68 = .ok (.invokevirtual 256, 3) := by decide +kernel
theorem dX12_readRight_71 : decode cX12_readRight 71 = .ok (.istore 5, 2) := by decide +kernel
theorem dX12_readRight_73 : decode cX12_readRight 73 = .ok (.iconst 0, 1) := by decide +kernel
theorem dX12_readRight_74 : decode cX12_readRight 74 = .ok (.istore 6, 2) := by decide +kernel
theorem dX12_readRight_76 : decode cX12_readRight 76 = .ok (.aload_n 0, 1) := by decide +kernel
theorem dX12_readRight_77 : decode cX12_readRight 77 = .ok (.aload_n 0, 1) := by decide +kernel
theorem dX12_readRight_78 : decode cX12_readRight 78 = .ok (.invokevirtual 169, 3) := by decide +kernel
theorem dX12_readRight_81 : decode cX12_readRight 81 = .ok (.invokevirtual 228, 3) := by decide +kernel
theorem dX12_readRight_84 : decode cX12_readRight 84 = .ok (.aload_n 0, 1) := by decide +kernel
theorem dX12_readRight_85 : decode cX12_readRight 85 = .ok (.getfield 212, 3) := by decide +kernel
theorem dX12_readRight_88 : decode cX12_readRight 88 = .ok (.ifCond .ne 79, 3) := by decide +kernel
theorem dX12_readRight_91 : decode cX12_readRight 91 = .ok (.aload_n 0, 1) := by decide +kernel
theorem dX12_readRight_92 : decode cX12_readRight 92 = .ok (.getfield 112, 3) := by decide +kernel
theorem dX12_readRight_95 : decode cX12_readRight 95 = .ok (.iconst 2, 1) := by decide +kernel
theorem dX12_readRight_96 : decode cX12_readRight 96 = .ok (.if_icmp .ne 71, 3) := by decide +kernel
theorem dX12_readRight_99 : decode cX12_readRight 99 = .ok (.aload_n 0, 1) := by decide +kernel
theorem dX12_readRight_100 : decode cX12_readRight 100 = .ok (.getfield 131, 3) := by decide +kernel
theorem dX12_readRight_103 : decode cX12_readRight 103 = .ok (.i2l, 1) := by decide +kernel
theorem dX12_readRight_104 : decode cX12_readRight 104 = .ok (.lconst 0, 1) := by decide +kernel
theorem dX12_readRight_105 : decode cX12_readRight 105 = .ok (.ldc2_w 260, 3) := by decide +kernel
theorem dX12_readRight_108 : decode cX12_readRight 108 = .ok (.invokestatic 92, 3) := by decide +kernel
theorem dX12_readRight_111 : decode cX12_readRight 111 = .ok (.ifCond .eq 24, 3) := by decide +kernel
theorem dX12_readRight_114 : decode cX12_readRight 114 = .ok (.iload 6, 2) := by decide +kernel
theorem dX12_readRight_116 : decode cX12_readRight 116 = .ok (.aload_n 0, 1) := by decide +kernel
theorem dX12_readRight_117 : decode cX12_readRight 117 = .ok (.getfield 131, 3) := by decide +kernel
theorem dX12_readRight_120 : decode cX12_readRight 120 = .ok (.invokestatic 96, 3) := by decide +kernel
theorem dX12_readRight_123 : decode cX12_readRight 123 = .ok (.ifCond .eq 12, 3) := by decide +kernel
theorem dX12_readRight_126 : decode cX12_readRight 126 = .ok (.aload_n 0, 1) := by decide +kernel
theorem dX12_readRight_127 : decode cX12_readRight 127 = .ok (.iconst 5, 1) := by decide +kernel
theorem dX12_readRight_128 : decode cX12_readRight 128 = .ok (.aload_n 0, 1) := by decide +kernel
theorem dX12_readRight_129 : decode cX12_readRight 129 = .ok (.getfield 106, 3) := by decide +kernel
theorem dX12_readRight_132 : decode cX12_readRight 132 = .ok (.invokevirtual 218, 3) := by decide +kernel
theorem dX12_readRight_135 : decode cX12_readRight 135 = .ok (.aload_n 0, 1) := by decide +kernel
theorem dX12_readRight_136 : decode cX12_readRight 136 = .ok (.iconst 0, 1) := by decide +kernel
theorem dX12_readRight_137 : decode cX12_readRight 137 = .ok (.bipush 11, 2) := by decide +kernel
theorem dX12_readRight_139 : decode cX12_readRight 139 = .ok (.invokevirtual 232, 3) := by decide +kernel
theorem dX12_readRight_142 : decode cX12_readRight 142 = .ok (.istore 7, 2) := by decide +kernel
theorem dX12_readRight_144 : decode cX12_readRight 144 = .ok (.iload 6, 2) := by decide +kernel
theorem dX12_readRight_146 : decode cX12_readRight 146 = .ok (.aload_n 0, 1) := by decide +kernel
theorem dX12_readRight_147 : decode cX12_readRight 147 = .ok (.getfield 212, 3) := by decide +kernel
theorem dX12_readRight_150 : decode cX12_readRight 150 = .ok (.ifCond .ne 10, 3) := by decide +kernel
theorem dX12_readRight_153 : decode cX12_readRight 153 = .ok (.iconst 1, 1) := by decide +kernel
theorem dX12_readRight_154 : decode cX12_readRight 154 = .ok (.iload 7, 2) := by decide +kernel
theorem dX12_readRight_156 : decode cX12_readRight 156 = .ok (.ishl, 1) := by decide +kernel
theorem dX12_readRight_157 : decode cX12_readRight 157 = .ok (.goto 4, 3) := by decide +kernel
theorem dX12_readRight_160 : decode cX12_readRight 160 = .ok (.iconst 0, 1) := by decide +kernel
theorem dX12_readRight_161 : decode cX12_readRight 161 = .ok (.ior, 1) := by decide +kernel
theorem dX12_readRight_162 : decode cX12_readRight 162 = .ok (.istore 6, 2) := by decide +kernel
theorem dX12_readRight_164 : decode cX12_readRight 164 = .ok (.goto (-80), 3) := by decide +kernel
theorem dX12_readRight_167 : decode cX12_readRight 167 = .ok (.aload_n 0, 1) := by decide +kernel
theorem dX12_readRight_168 : decode cX12_readRight 168 = .ok (.getfield 212, 3) := by decide +kernel
theorem dX12_readRight_171 : decode cX12_readRight 171 = .ok (.ifCond .ne 17, 3) := by decide +kernel
theorem dX12_readRight_174 : decode cX12_readRight 174 = .ok (.aload_n 0, 1) := by decide +kernel
theorem dX12_readRight_175 : decode cX12_readRight 175 = .ok (.iconst 4, 1) := by decide +kernel
theorem dX12_readRight_176 : decode cX12_readRight 176 = .ok (.iload_n 1, 1) := by decide +kernel
theorem dX12_readRight_177 : decode cX12_readRight 177 = .ok (.iload_n 2, 1) := by decide +kernel
theorem dX12_readRight_178 : decode cX12_readRight 178 = .ok (.iload_n 3, 1) := by decide +kernel
theorem dX12_readRight_179 : decode cX12_readRight 179 = .ok (.iload 4, 2) := by decide +kernel
theorem dX12_readRight_181 : decode cX12_readRight 181 = .ok (.iload 5, 2) := by decide +kernel
theorem dX12_readRight_183 : decode cX12_readRight 183 = .ok (.iload 6, 2) := by decide +kernel
theorem dX12_readRight_185 : decode cX12_readRight 185 = .ok (.invokevirtual 262, 3) := by decide +kernel
theorem dX12_readRight_188 : decode cX12_readRight 188 = .ok (.return_, 1) := by decide +kernel
def L_X12_readRight (w : Nat) : Nat → z_Mem → Int32 → Int32 → Int32 → Int32 → Int32 → Int32 → Option (Unit × z_Mem)
  | 0, _, _, _, _, _, _, _ => none
  | c + 1, M, x1, x2, x3, x4, x5, x6 =>
    if (M.1 137 12) = (0 : Int32) then
    if (M.1 137 14) = (2 : Int32) then
    (F_X12_isIn w M ((M.1 137 17).toInt64) (0 : Int64) (11 : Int64)).bind fun q9 =>
    if q9.1 = true then
    (F_X12_has w q9.2 x6 (q9.2.1 137 17)).bind fun q15 =>
    if q15.1 = true then
    (F_X12_fail w q15.2 (5 : Int32) (q15.2.1 137 15)).bind fun q21 =>
    (F_X12_count w q21.2 (0 : Int32) (11 : Int32)).bind fun q23 =>
    if (q23.2.1 137 12) = (0 : Int32) then
    L_X12_readRight w c q23.2 x1 x2 x3 x4 x5 (x6 ||| ((1 : Int32) <<< (q23.1 &&& 31)))
    else
    L_X12_readRight w c q23.2 x1 x2 x3 x4 x5 (x6 ||| (0 : Int32))
    else
    (F_X12_count w q15.2 (0 : Int32) (11 : Int32)).bind fun q18 =>
    if (q18.2.1 137 12) = (0 : Int32) then
    L_X12_readRight w c q18.2 x1 x2 x3 x4 x5 (x6 ||| ((1 : Int32) <<< (q18.1 &&& 31)))
    else
    L_X12_readRight w c q18.2 x1 x2 x3 x4 x5 (x6 ||| (0 : Int32))
    else
    (F_X12_count w q9.2 (0 : Int32) (11 : Int32)).bind fun q12 =>
    if (q12.2.1 137 12) = (0 : Int32) then
    L_X12_readRight w c q12.2 x1 x2 x3 x4 x5 (x6 ||| ((1 : Int32) <<< (q12.1 &&& 31)))
    else
    L_X12_readRight w c q12.2 x1 x2 x3 x4 x5 (x6 ||| (0 : Int32))
    else
    if (M.1 137 12) = (0 : Int32) then
    (F_X12_grants w M (4 : Int32) x1 x2 x3 x4 x5 x6).bind fun q7 =>
    some ((), q7.2)
    else
    some ((), M)
    else
    if (M.1 137 12) = (0 : Int32) then
    (F_X12_grants w M (4 : Int32) x1 x2 x3 x4 x5 x6).bind fun q3 =>
    some ((), q3.2)
    else
    some ((), M)
set_option maxHeartbeats 4000000 in
theorem AL_X12_readRight {w : Nat} : ∀ (c : Nat), (∀ (M : z_Mem) (x1 : Int32) (x2 : Int32) (x3 : Int32) (x4 : Int32) (x5 : Int32) (x6 : Int32) (r : Unit) (M' : z_Mem) (Q : Option Value → z_Mem → Prop), L_X12_readRight w c M x1 x2 x3 x4 x5 x6 = some (r, M') → Q none M' → z_G none 4 mX12_readRight 84 [some (.ref 139), some (.int x1), some (.int x2), some (.int x3), some (.int x4), some (.int x5), some (.int x6), none] [] M Q) := by
  intro c
  induction c with
  | zero => exact (fun M x1 x2 x3 x4 x5 x6 r M' Q h hq => by rw [L_X12_readRight] at h; cases h)
  | succ c ih =>
    intro M x1 x2 x3 x4 x5 x6 r M' Q h hq
    rw [L_X12_readRight] at h
    refine g_aload_n dX12_readRight_84 rfl rfl ?_
    refine g_get (a := 137) (v := .int (M.1 137 12)) dX12_readRight_85 f_12_212 sh_137 rfl rfl ?_
    refine g_if_ne (t := 167) dX12_readRight_88 (by decide) (fun c1 => ?_) (fun c1 => ?_)
    · replace h := z_iff c1 h
      refine g_aload_n dX12_readRight_167 rfl rfl ?_
      refine g_get (a := 137) (v := .int (M.1 137 12)) dX12_readRight_168 f_12_212 sh_137 rfl rfl ?_
      refine g_if_ne (t := 188) dX12_readRight_171 (by decide) (fun c2 => ?_) (fun c2 => ?_)
      · replace h := z_iff c2 h
        cases h
        exact g_vret dX12_readRight_188 rfl hq
      · replace h := z_ift c2 h
        refine g_aload_n dX12_readRight_174 rfl rfl ?_
        refine g_iconst (v := (4 : Int32)) dX12_readRight_175 (by decide) ?_
        refine g_iload_n dX12_readRight_176 rfl rfl ?_
        refine g_iload_n dX12_readRight_177 rfl rfl ?_
        refine g_iload_n dX12_readRight_178 rfl rfl ?_
        refine g_iload dX12_readRight_179 rfl ?_
        refine g_iload dX12_readRight_181 rfl ?_
        refine g_iload dX12_readRight_183 rfl ?_
        obtain ⟨q3, e4, h⟩ := z_bd h
        refine g_callV (a := 137) (as := [.int (4 : Int32), .int x1, .int x2, .int x3, .int x4, .int x5, .int x6]) (rest := []) (c := mX12_grants) (k1 := 0) dX12_readRight_185 rfl rfl rfl sh_137 rfl rfl (Nat.le_of_ble_eq_true rfl) (Nat.le_of_ble_eq_true rfl) (by decide) ?_
        refine A_X12_grants e4 ?_
        show z_G none 4 mX12_readRight 188 [some (.ref 139), some (.int x1), some (.int x2), some (.int x3), some (.int x4), some (.int x5), some (.int x6), none] [] q3.2 Q
        cases h
        exact g_vret dX12_readRight_188 rfl hq
    · replace h := z_ift c1 h
      refine g_aload_n dX12_readRight_91 rfl rfl ?_
      refine g_get (a := 137) (v := .int (M.1 137 14)) dX12_readRight_92 f_12_112 sh_137 rfl rfl ?_
      refine g_iconst (v := (2 : Int32)) dX12_readRight_95 (by decide) ?_
      refine g_ic_ne (t := 167) dX12_readRight_96 (by decide) (fun c5 => ?_) (fun c5 => ?_)
      · replace h := z_iff c5 h
        refine g_aload_n dX12_readRight_167 rfl rfl ?_
        refine g_get (a := 137) (v := .int (M.1 137 12)) dX12_readRight_168 f_12_212 sh_137 rfl rfl ?_
        refine g_if_ne (t := 188) dX12_readRight_171 (by decide) (fun c6 => ?_) (fun c6 => ?_)
        · replace h := z_iff c6 h
          cases h
          exact g_vret dX12_readRight_188 rfl hq
        · replace h := z_ift c6 h
          refine g_aload_n dX12_readRight_174 rfl rfl ?_
          refine g_iconst (v := (4 : Int32)) dX12_readRight_175 (by decide) ?_
          refine g_iload_n dX12_readRight_176 rfl rfl ?_
          refine g_iload_n dX12_readRight_177 rfl rfl ?_
          refine g_iload_n dX12_readRight_178 rfl rfl ?_
          refine g_iload dX12_readRight_179 rfl ?_
          refine g_iload dX12_readRight_181 rfl ?_
          refine g_iload dX12_readRight_183 rfl ?_
          obtain ⟨q7, e8, h⟩ := z_bd h
          refine g_callV (a := 137) (as := [.int (4 : Int32), .int x1, .int x2, .int x3, .int x4, .int x5, .int x6]) (rest := []) (c := mX12_grants) (k1 := 0) dX12_readRight_185 rfl rfl rfl sh_137 rfl rfl (Nat.le_of_ble_eq_true rfl) (Nat.le_of_ble_eq_true rfl) (by decide) ?_
          refine A_X12_grants e8 ?_
          show z_G none 4 mX12_readRight 188 [some (.ref 139), some (.int x1), some (.int x2), some (.int x3), some (.int x4), some (.int x5), some (.int x6), none] [] q7.2 Q
          cases h
          exact g_vret dX12_readRight_188 rfl hq
      · replace h := z_ift c5 h
        refine g_aload_n dX12_readRight_99 rfl rfl ?_
        refine g_get (a := 137) (v := .int (M.1 137 17)) dX12_readRight_100 f_12_131 sh_137 rfl rfl ?_
        refine g_i2l dX12_readRight_103 ?_
        refine g_lconst (v := (0 : Int64)) dX12_readRight_104 (by decide) ?_
        refine g_ldc2_w dX12_readRight_105 rfl ?_
        obtain ⟨q9, e10, h⟩ := z_bd h
        refine g_callS (as := [.long ((M.1 137 17).toInt64), .long (0 : Int64), .long (11 : Int64)]) (rest := []) (c := mX12_isIn) (k1 := 0) dX12_readRight_108 rfl rfl rfl rfl rfl (Nat.le_of_ble_eq_true rfl) (Nat.le_of_ble_eq_true rfl) (by decide) ?_
        refine A_X12_isIn e10 ?_
        show z_G none 4 mX12_readRight 111 [some (.ref 139), some (.int x1), some (.int x2), some (.int x3), some (.int x4), some (.int x5), some (.int x6), none] [.int (z_tb q9.1)] q9.2 Q
        refine g_if_eq (t := 135) dX12_readRight_111 (by decide) (fun c11 => ?_) (fun c11 => ?_)
        · replace h := z_iff (z_tb0.mp c11) h
          refine g_aload_n dX12_readRight_135 rfl rfl ?_
          refine g_iconst (v := (0 : Int32)) dX12_readRight_136 (by decide) ?_
          refine g_bipush (v := (11 : Int32)) dX12_readRight_137 (by decide) ?_
          obtain ⟨q12, e13, h⟩ := z_bd h
          refine g_callV (a := 137) (as := [.int (0 : Int32), .int (11 : Int32)]) (rest := []) (c := mX12_count) (k1 := 2) dX12_readRight_139 rfl rfl rfl sh_137 rfl rfl (Nat.le_of_ble_eq_true rfl) (Nat.le_of_ble_eq_true rfl) (by decide) ?_
          refine A_X12_count e13 ?_
          show z_G none 4 mX12_readRight 142 [some (.ref 139), some (.int x1), some (.int x2), some (.int x3), some (.int x4), some (.int x5), some (.int x6), none] [.int q12.1] q12.2 Q
          refine g_istore (ls' := [some (.ref 139), some (.int x1), some (.int x2), some (.int x3), some (.int x4), some (.int x5), some (.int x6), some (.int q12.1)]) dX12_readRight_142 (Nat.le_of_ble_eq_true rfl) rfl ?_
          refine g_iload dX12_readRight_144 rfl ?_
          refine g_aload_n dX12_readRight_146 rfl rfl ?_
          refine g_get (a := 137) (v := .int (q12.2.1 137 12)) dX12_readRight_147 f_12_212 sh_137 rfl rfl ?_
          refine g_if_ne (t := 160) dX12_readRight_150 (by decide) (fun c14 => ?_) (fun c14 => ?_)
          · replace h := z_iff c14 h
            refine g_iconst (v := (0 : Int32)) dX12_readRight_160 (by decide) ?_
            refine g_ior dX12_readRight_161 ?_
            refine g_istore (ls' := [some (.ref 139), some (.int x1), some (.int x2), some (.int x3), some (.int x4), some (.int x5), some (.int (x6 ||| (0 : Int32))), some (.int q12.1)]) dX12_readRight_162 (Nat.le_of_ble_eq_true rfl) rfl ?_
            refine g_goto (t := 84) dX12_readRight_164 (by decide) ?_
            exact g_sub (z_sub_s (z_sub_s (z_sub_s (z_sub_s (z_sub_s (z_sub_s (z_sub_s (z_sub_n z_sub_nil)))))))) (ih _ _ _ _ _ _ _ _ _ _ h hq)
          · replace h := z_ift c14 h
            refine g_iconst (v := (1 : Int32)) dX12_readRight_153 (by decide) ?_
            refine g_iload dX12_readRight_154 rfl ?_
            refine g_ishl dX12_readRight_156 ?_
            refine g_goto (t := 161) dX12_readRight_157 (by decide) ?_
            refine g_ior dX12_readRight_161 ?_
            refine g_istore (ls' := [some (.ref 139), some (.int x1), some (.int x2), some (.int x3), some (.int x4), some (.int x5), some (.int (x6 ||| ((1 : Int32) <<< (q12.1 &&& 31)))), some (.int q12.1)]) dX12_readRight_162 (Nat.le_of_ble_eq_true rfl) rfl ?_
            refine g_goto (t := 84) dX12_readRight_164 (by decide) ?_
            exact g_sub (z_sub_s (z_sub_s (z_sub_s (z_sub_s (z_sub_s (z_sub_s (z_sub_s (z_sub_n z_sub_nil)))))))) (ih _ _ _ _ _ _ _ _ _ _ h hq)
        · replace h := z_ift (z_tbn.mp c11) h
          refine g_iload dX12_readRight_114 rfl ?_
          refine g_aload_n dX12_readRight_116 rfl rfl ?_
          refine g_get (a := 137) (v := .int (q9.2.1 137 17)) dX12_readRight_117 f_12_131 sh_137 rfl rfl ?_
          obtain ⟨q15, e16, h⟩ := z_bd h
          refine g_callS (as := [.int x6, .int (q9.2.1 137 17)]) (rest := []) (c := mX12_has) (k1 := 0) dX12_readRight_120 rfl rfl rfl rfl rfl (Nat.le_of_ble_eq_true rfl) (Nat.le_of_ble_eq_true rfl) (by decide) ?_
          refine A_X12_has e16 ?_
          show z_G none 4 mX12_readRight 123 [some (.ref 139), some (.int x1), some (.int x2), some (.int x3), some (.int x4), some (.int x5), some (.int x6), none] [.int (z_tb q15.1)] q15.2 Q
          refine g_if_eq (t := 135) dX12_readRight_123 (by decide) (fun c17 => ?_) (fun c17 => ?_)
          · replace h := z_iff (z_tb0.mp c17) h
            refine g_aload_n dX12_readRight_135 rfl rfl ?_
            refine g_iconst (v := (0 : Int32)) dX12_readRight_136 (by decide) ?_
            refine g_bipush (v := (11 : Int32)) dX12_readRight_137 (by decide) ?_
            obtain ⟨q18, e19, h⟩ := z_bd h
            refine g_callV (a := 137) (as := [.int (0 : Int32), .int (11 : Int32)]) (rest := []) (c := mX12_count) (k1 := 2) dX12_readRight_139 rfl rfl rfl sh_137 rfl rfl (Nat.le_of_ble_eq_true rfl) (Nat.le_of_ble_eq_true rfl) (by decide) ?_
            refine A_X12_count e19 ?_
            show z_G none 4 mX12_readRight 142 [some (.ref 139), some (.int x1), some (.int x2), some (.int x3), some (.int x4), some (.int x5), some (.int x6), none] [.int q18.1] q18.2 Q
            refine g_istore (ls' := [some (.ref 139), some (.int x1), some (.int x2), some (.int x3), some (.int x4), some (.int x5), some (.int x6), some (.int q18.1)]) dX12_readRight_142 (Nat.le_of_ble_eq_true rfl) rfl ?_
            refine g_iload dX12_readRight_144 rfl ?_
            refine g_aload_n dX12_readRight_146 rfl rfl ?_
            refine g_get (a := 137) (v := .int (q18.2.1 137 12)) dX12_readRight_147 f_12_212 sh_137 rfl rfl ?_
            refine g_if_ne (t := 160) dX12_readRight_150 (by decide) (fun c20 => ?_) (fun c20 => ?_)
            · replace h := z_iff c20 h
              refine g_iconst (v := (0 : Int32)) dX12_readRight_160 (by decide) ?_
              refine g_ior dX12_readRight_161 ?_
              refine g_istore (ls' := [some (.ref 139), some (.int x1), some (.int x2), some (.int x3), some (.int x4), some (.int x5), some (.int (x6 ||| (0 : Int32))), some (.int q18.1)]) dX12_readRight_162 (Nat.le_of_ble_eq_true rfl) rfl ?_
              refine g_goto (t := 84) dX12_readRight_164 (by decide) ?_
              exact g_sub (z_sub_s (z_sub_s (z_sub_s (z_sub_s (z_sub_s (z_sub_s (z_sub_s (z_sub_n z_sub_nil)))))))) (ih _ _ _ _ _ _ _ _ _ _ h hq)
            · replace h := z_ift c20 h
              refine g_iconst (v := (1 : Int32)) dX12_readRight_153 (by decide) ?_
              refine g_iload dX12_readRight_154 rfl ?_
              refine g_ishl dX12_readRight_156 ?_
              refine g_goto (t := 161) dX12_readRight_157 (by decide) ?_
              refine g_ior dX12_readRight_161 ?_
              refine g_istore (ls' := [some (.ref 139), some (.int x1), some (.int x2), some (.int x3), some (.int x4), some (.int x5), some (.int (x6 ||| ((1 : Int32) <<< (q18.1 &&& 31)))), some (.int q18.1)]) dX12_readRight_162 (Nat.le_of_ble_eq_true rfl) rfl ?_
              refine g_goto (t := 84) dX12_readRight_164 (by decide) ?_
              exact g_sub (z_sub_s (z_sub_s (z_sub_s (z_sub_s (z_sub_s (z_sub_s (z_sub_s (z_sub_n z_sub_nil)))))))) (ih _ _ _ _ _ _ _ _ _ _ h hq)
          · replace h := z_ift (z_tbn.mp c17) h
            refine g_aload_n dX12_readRight_126 rfl rfl ?_
            refine g_iconst (v := (5 : Int32)) dX12_readRight_127 (by decide) ?_
            refine g_aload_n dX12_readRight_128 rfl rfl ?_
            refine g_get (a := 137) (v := .int (q15.2.1 137 15)) dX12_readRight_129 f_12_106 sh_137 rfl rfl ?_
            obtain ⟨q21, e22, h⟩ := z_bd h
            refine g_callV (a := 137) (as := [.int (5 : Int32), .int (q15.2.1 137 15)]) (rest := []) (c := mX12_fail) (k1 := 0) dX12_readRight_132 rfl rfl rfl sh_137 rfl rfl (Nat.le_of_ble_eq_true rfl) (Nat.le_of_ble_eq_true rfl) (by decide) ?_
            refine A_X12_fail e22 ?_
            show z_G none 4 mX12_readRight 135 [some (.ref 139), some (.int x1), some (.int x2), some (.int x3), some (.int x4), some (.int x5), some (.int x6), none] [] q21.2 Q
            refine g_aload_n dX12_readRight_135 rfl rfl ?_
            refine g_iconst (v := (0 : Int32)) dX12_readRight_136 (by decide) ?_
            refine g_bipush (v := (11 : Int32)) dX12_readRight_137 (by decide) ?_
            obtain ⟨q23, e24, h⟩ := z_bd h
            refine g_callV (a := 137) (as := [.int (0 : Int32), .int (11 : Int32)]) (rest := []) (c := mX12_count) (k1 := 2) dX12_readRight_139 rfl rfl rfl sh_137 rfl rfl (Nat.le_of_ble_eq_true rfl) (Nat.le_of_ble_eq_true rfl) (by decide) ?_
            refine A_X12_count e24 ?_
            show z_G none 4 mX12_readRight 142 [some (.ref 139), some (.int x1), some (.int x2), some (.int x3), some (.int x4), some (.int x5), some (.int x6), none] [.int q23.1] q23.2 Q
            refine g_istore (ls' := [some (.ref 139), some (.int x1), some (.int x2), some (.int x3), some (.int x4), some (.int x5), some (.int x6), some (.int q23.1)]) dX12_readRight_142 (Nat.le_of_ble_eq_true rfl) rfl ?_
            refine g_iload dX12_readRight_144 rfl ?_
            refine g_aload_n dX12_readRight_146 rfl rfl ?_
            refine g_get (a := 137) (v := .int (q23.2.1 137 12)) dX12_readRight_147 f_12_212 sh_137 rfl rfl ?_
            refine g_if_ne (t := 160) dX12_readRight_150 (by decide) (fun c25 => ?_) (fun c25 => ?_)
            · replace h := z_iff c25 h
              refine g_iconst (v := (0 : Int32)) dX12_readRight_160 (by decide) ?_
              refine g_ior dX12_readRight_161 ?_
              refine g_istore (ls' := [some (.ref 139), some (.int x1), some (.int x2), some (.int x3), some (.int x4), some (.int x5), some (.int (x6 ||| (0 : Int32))), some (.int q23.1)]) dX12_readRight_162 (Nat.le_of_ble_eq_true rfl) rfl ?_
              refine g_goto (t := 84) dX12_readRight_164 (by decide) ?_
              exact g_sub (z_sub_s (z_sub_s (z_sub_s (z_sub_s (z_sub_s (z_sub_s (z_sub_s (z_sub_n z_sub_nil)))))))) (ih _ _ _ _ _ _ _ _ _ _ h hq)
            · replace h := z_ift c25 h
              refine g_iconst (v := (1 : Int32)) dX12_readRight_153 (by decide) ?_
              refine g_iload dX12_readRight_154 rfl ?_
              refine g_ishl dX12_readRight_156 ?_
              refine g_goto (t := 161) dX12_readRight_157 (by decide) ?_
              refine g_ior dX12_readRight_161 ?_
              refine g_istore (ls' := [some (.ref 139), some (.int x1), some (.int x2), some (.int x3), some (.int x4), some (.int x5), some (.int (x6 ||| ((1 : Int32) <<< (q23.1 &&& 31)))), some (.int q23.1)]) dX12_readRight_162 (Nat.le_of_ble_eq_true rfl) rfl ?_
              refine g_goto (t := 84) dX12_readRight_164 (by decide) ?_
              exact g_sub (z_sub_s (z_sub_s (z_sub_s (z_sub_s (z_sub_s (z_sub_s (z_sub_s (z_sub_n z_sub_nil)))))))) (ih _ _ _ _ _ _ _ _ _ _ h hq)
def F_X12_readRight (w : Nat) (M : z_Mem) : Option (Unit × z_Mem) :=
  (F_X12_another w M (0 : Int32) (8 : Int32)).bind fun q26 =>
  (F_X12_readSide w q26.2).bind fun q28 =>
  if (q28.2.1 137 12) ≤ (0 : Int32) then
  (F_X12_kindWord w q28.2).bind fun q31 =>
  if q31.1 < (0 : Int32) then
  (F_X12_must w q31.2 (0 : Int32)).bind fun q34 =>
  if q31.1 = (2 : Int32) then
  (F_X12_count w q34.2 (1 : Int32) (6 : Int32)).bind fun q45 =>
  (F_X12_isWorth w q45.2).bind fun q47 =>
  (F_X12_behindWord w q47.2 (z_tb q47.1) (1 : Int32) (50 : Int32)).bind fun q49 =>
  (F_X12_isInWord w q49.2).bind fun q51 =>
  (F_X12_must w q51.2 (z_tb q51.1)).bind fun q53 =>
  L_X12_readRight w w q53.2 q26.1 q28.1 q31.1 q45.1 q49.1 (0 : Int32)
  else
  (F_X12_isWorth w q34.2).bind fun q37 =>
  (F_X12_behindWord w q37.2 (z_tb q37.1) (1 : Int32) (50 : Int32)).bind fun q39 =>
  (F_X12_isInWord w q39.2).bind fun q41 =>
  (F_X12_must w q41.2 (z_tb q41.1)).bind fun q43 =>
  L_X12_readRight w w q43.2 q26.1 q28.1 q31.1 (0 : Int32) q39.1 (0 : Int32)
  else
  (F_X12_must w q31.2 (1 : Int32)).bind fun q55 =>
  if q31.1 = (2 : Int32) then
  (F_X12_count w q55.2 (1 : Int32) (6 : Int32)).bind fun q66 =>
  (F_X12_isWorth w q66.2).bind fun q68 =>
  (F_X12_behindWord w q68.2 (z_tb q68.1) (1 : Int32) (50 : Int32)).bind fun q70 =>
  (F_X12_isInWord w q70.2).bind fun q72 =>
  (F_X12_must w q72.2 (z_tb q72.1)).bind fun q74 =>
  L_X12_readRight w w q74.2 q26.1 q28.1 q31.1 q66.1 q70.1 (0 : Int32)
  else
  (F_X12_isWorth w q55.2).bind fun q58 =>
  (F_X12_behindWord w q58.2 (z_tb q58.1) (1 : Int32) (50 : Int32)).bind fun q60 =>
  (F_X12_isInWord w q60.2).bind fun q62 =>
  (F_X12_must w q62.2 (z_tb q62.1)).bind fun q64 =>
  L_X12_readRight w w q64.2 q26.1 q28.1 q31.1 (0 : Int32) q60.1 (0 : Int32)
  else
  (F_X12_must w q28.2 (1 : Int32)).bind fun q77 =>
  (F_X12_isWorth w q77.2).bind fun q80 =>
  (F_X12_behindWord w q80.2 (z_tb q80.1) (1 : Int32) (50 : Int32)).bind fun q82 =>
  (F_X12_isInWord w q82.2).bind fun q84 =>
  (F_X12_must w q84.2 (z_tb q84.1)).bind fun q86 =>
  L_X12_readRight w w q86.2 q26.1 q28.1 (0 : Int32) (0 : Int32) q82.1 (0 : Int32)
set_option maxHeartbeats 4000000 in
theorem A_X12_readRight {w : Nat} {M : z_Mem} {r : Unit} {M' : z_Mem} {Q : Option Value → z_Mem → Prop} (h : F_X12_readRight w M = some (r, M')) (hq : Q none M') : z_Cl 4 mX12_readRight [.ref 139] M Q := by
  refine g_in (ls := [some (.ref 139), none, none, none, none, none, none, none]) rfl ?_
  unfold F_X12_readRight at h
  refine g_aload_n dX12_readRight_0 rfl rfl ?_
  refine g_iconst (v := (0 : Int32)) dX12_readRight_1 (by decide) ?_
  refine g_bipush (v := (8 : Int32)) dX12_readRight_2 (by decide) ?_
  obtain ⟨q26, e27, h⟩ := z_bd h
  refine g_callV (a := 137) (as := [.int (0 : Int32), .int (8 : Int32)]) (rest := []) (c := mX12_another) (k1 := 3) dX12_readRight_4 rfl rfl rfl sh_137 rfl rfl (Nat.le_of_ble_eq_true rfl) (Nat.le_of_ble_eq_true rfl) (by decide) ?_
  refine A_X12_another e27 ?_
  show z_G none 4 mX12_readRight 7 [some (.ref 139), none, none, none, none, none, none, none] [.int q26.1] q26.2 Q
  refine g_istore_n (ls' := [some (.ref 139), some (.int q26.1), none, none, none, none, none, none]) dX12_readRight_7 rfl (Nat.le_of_ble_eq_true rfl) rfl ?_
  refine g_aload_n dX12_readRight_8 rfl rfl ?_
  obtain ⟨q28, e29, h⟩ := z_bd h
  refine g_callV (a := 137) (as := []) (rest := []) (c := mX12_readSide) (k1 := 3) dX12_readRight_9 rfl rfl rfl sh_137 rfl rfl (Nat.le_of_ble_eq_true rfl) (Nat.le_of_ble_eq_true rfl) (by decide) ?_
  refine A_X12_readSide e29 ?_
  show z_G none 4 mX12_readRight 12 [some (.ref 139), some (.int q26.1), none, none, none, none, none, none] [.int q28.1] q28.2 Q
  refine g_istore_n (ls' := [some (.ref 139), some (.int q26.1), some (.int q28.1), none, none, none, none, none]) dX12_readRight_12 rfl (Nat.le_of_ble_eq_true rfl) rfl ?_
  refine g_aload_n dX12_readRight_13 rfl rfl ?_
  refine g_get (a := 137) (v := .int (q28.2.1 137 12)) dX12_readRight_14 f_12_212 sh_137 rfl rfl ?_
  refine g_if_le (t := 24) dX12_readRight_17 (by decide) (fun c30 => ?_) (fun c30 => ?_)
  · replace h := z_ift c30 h
    refine g_aload_n dX12_readRight_24 rfl rfl ?_
    obtain ⟨q31, e32, h⟩ := z_bd h
    refine g_callV (a := 137) (as := []) (rest := []) (c := mX12_kindWord) (k1 := 1) dX12_readRight_25 rfl rfl rfl sh_137 rfl rfl (Nat.le_of_ble_eq_true rfl) (Nat.le_of_ble_eq_true rfl) (by decide) ?_
    refine A_X12_kindWord e32 ?_
    show z_G none 4 mX12_readRight 28 [some (.ref 139), some (.int q26.1), some (.int q28.1), none, none, none, none, none] [.int q31.1] q31.2 Q
    refine g_istore_n (ls' := [some (.ref 139), some (.int q26.1), some (.int q28.1), some (.int q31.1), none, none, none, none]) dX12_readRight_28 rfl (Nat.le_of_ble_eq_true rfl) rfl ?_
    refine g_aload_n dX12_readRight_29 rfl rfl ?_
    refine g_iload_n dX12_readRight_30 rfl rfl ?_
    refine g_if_lt (t := 38) dX12_readRight_31 (by decide) (fun c33 => ?_) (fun c33 => ?_)
    · replace h := z_ift c33 h
      refine g_iconst (v := (0 : Int32)) dX12_readRight_38 (by decide) ?_
      obtain ⟨q34, e35, h⟩ := z_bd h
      refine g_callV (a := 137) (as := [.int (0 : Int32)]) (rest := []) (c := mX12_must) (k1 := 2) dX12_readRight_39 rfl rfl rfl sh_137 rfl rfl (Nat.le_of_ble_eq_true rfl) (Nat.le_of_ble_eq_true rfl) (by decide) ?_
      refine A_X12_must e35 ?_
      show z_G none 4 mX12_readRight 42 [some (.ref 139), some (.int q26.1), some (.int q28.1), some (.int q31.1), none, none, none, none] [] q34.2 Q
      refine g_iload_n dX12_readRight_42 rfl rfl ?_
      refine g_iconst (v := (2 : Int32)) dX12_readRight_43 (by decide) ?_
      refine g_ic_ne (t := 57) dX12_readRight_44 (by decide) (fun c36 => ?_) (fun c36 => ?_)
      · replace h := z_iff c36 h
        refine g_iconst (v := (0 : Int32)) dX12_readRight_57 (by decide) ?_
        refine g_istore (ls' := [some (.ref 139), some (.int q26.1), some (.int q28.1), some (.int q31.1), some (.int (0 : Int32)), none, none, none]) dX12_readRight_58 (Nat.le_of_ble_eq_true rfl) rfl ?_
        refine g_aload_n dX12_readRight_60 rfl rfl ?_
        refine g_aload_n dX12_readRight_61 rfl rfl ?_
        obtain ⟨q37, e38, h⟩ := z_bd h
        refine g_callV (a := 137) (as := []) (rest := [.ref 139]) (c := mX12_isWorth) (k1 := 1) dX12_readRight_62 rfl rfl rfl sh_137 rfl rfl (Nat.le_of_ble_eq_true rfl) (Nat.le_of_ble_eq_true rfl) (by decide) ?_
        refine A_X12_isWorth e38 ?_
        show z_G none 4 mX12_readRight 65 [some (.ref 139), some (.int q26.1), some (.int q28.1), some (.int q31.1), some (.int (0 : Int32)), none, none, none] [.int (z_tb q37.1), .ref 139] q37.2 Q
        refine g_iconst (v := (1 : Int32)) dX12_readRight_65 (by decide) ?_
        refine g_bipush (v := (50 : Int32)) dX12_readRight_66 (by decide) ?_
        obtain ⟨q39, e40, h⟩ := z_bd h
        refine g_callV (a := 137) (as := [.int (z_tb q37.1), .int (1 : Int32), .int (50 : Int32)]) (rest := []) (c := mX12_behindWord) (k1 := 3) dX12_readRight_68 rfl rfl rfl sh_137 rfl rfl (Nat.le_of_ble_eq_true rfl) (Nat.le_of_ble_eq_true rfl) (by decide) ?_
        refine A_X12_behindWord e40 ?_
        show z_G none 4 mX12_readRight 71 [some (.ref 139), some (.int q26.1), some (.int q28.1), some (.int q31.1), some (.int (0 : Int32)), none, none, none] [.int q39.1] q39.2 Q
        refine g_istore (ls' := [some (.ref 139), some (.int q26.1), some (.int q28.1), some (.int q31.1), some (.int (0 : Int32)), some (.int q39.1), none, none]) dX12_readRight_71 (Nat.le_of_ble_eq_true rfl) rfl ?_
        refine g_iconst (v := (0 : Int32)) dX12_readRight_73 (by decide) ?_
        refine g_istore (ls' := [some (.ref 139), some (.int q26.1), some (.int q28.1), some (.int q31.1), some (.int (0 : Int32)), some (.int q39.1), some (.int (0 : Int32)), none]) dX12_readRight_74 (Nat.le_of_ble_eq_true rfl) rfl ?_
        refine g_aload_n dX12_readRight_76 rfl rfl ?_
        refine g_aload_n dX12_readRight_77 rfl rfl ?_
        obtain ⟨q41, e42, h⟩ := z_bd h
        refine g_callV (a := 137) (as := []) (rest := [.ref 139]) (c := mX12_isInWord) (k1 := 1) dX12_readRight_78 rfl rfl rfl sh_137 rfl rfl (Nat.le_of_ble_eq_true rfl) (Nat.le_of_ble_eq_true rfl) (by decide) ?_
        refine A_X12_isInWord e42 ?_
        show z_G none 4 mX12_readRight 81 [some (.ref 139), some (.int q26.1), some (.int q28.1), some (.int q31.1), some (.int (0 : Int32)), some (.int q39.1), some (.int (0 : Int32)), none] [.int (z_tb q41.1), .ref 139] q41.2 Q
        obtain ⟨q43, e44, h⟩ := z_bd h
        refine g_callV (a := 137) (as := [.int (z_tb q41.1)]) (rest := []) (c := mX12_must) (k1 := 2) dX12_readRight_81 rfl rfl rfl sh_137 rfl rfl (Nat.le_of_ble_eq_true rfl) (Nat.le_of_ble_eq_true rfl) (by decide) ?_
        refine A_X12_must e44 ?_
        show z_G none 4 mX12_readRight 84 [some (.ref 139), some (.int q26.1), some (.int q28.1), some (.int q31.1), some (.int (0 : Int32)), some (.int q39.1), some (.int (0 : Int32)), none] [] q43.2 Q
        exact g_sub (z_sub_s (z_sub_s (z_sub_s (z_sub_s (z_sub_s (z_sub_s (z_sub_s (z_sub_n z_sub_nil)))))))) ((AL_X12_readRight (w := w) w) _ _ _ _ _ _ _ _ _ _ h hq)
      · replace h := z_ift c36 h
        refine g_aload_n dX12_readRight_47 rfl rfl ?_
        refine g_iconst (v := (1 : Int32)) dX12_readRight_48 (by decide) ?_
        refine g_bipush (v := (6 : Int32)) dX12_readRight_49 (by decide) ?_
        obtain ⟨q45, e46, h⟩ := z_bd h
        refine g_callV (a := 137) (as := [.int (1 : Int32), .int (6 : Int32)]) (rest := []) (c := mX12_count) (k1 := 2) dX12_readRight_51 rfl rfl rfl sh_137 rfl rfl (Nat.le_of_ble_eq_true rfl) (Nat.le_of_ble_eq_true rfl) (by decide) ?_
        refine A_X12_count e46 ?_
        show z_G none 4 mX12_readRight 54 [some (.ref 139), some (.int q26.1), some (.int q28.1), some (.int q31.1), none, none, none, none] [.int q45.1] q45.2 Q
        refine g_goto (t := 58) dX12_readRight_54 (by decide) ?_
        refine g_istore (ls' := [some (.ref 139), some (.int q26.1), some (.int q28.1), some (.int q31.1), some (.int q45.1), none, none, none]) dX12_readRight_58 (Nat.le_of_ble_eq_true rfl) rfl ?_
        refine g_aload_n dX12_readRight_60 rfl rfl ?_
        refine g_aload_n dX12_readRight_61 rfl rfl ?_
        obtain ⟨q47, e48, h⟩ := z_bd h
        refine g_callV (a := 137) (as := []) (rest := [.ref 139]) (c := mX12_isWorth) (k1 := 1) dX12_readRight_62 rfl rfl rfl sh_137 rfl rfl (Nat.le_of_ble_eq_true rfl) (Nat.le_of_ble_eq_true rfl) (by decide) ?_
        refine A_X12_isWorth e48 ?_
        show z_G none 4 mX12_readRight 65 [some (.ref 139), some (.int q26.1), some (.int q28.1), some (.int q31.1), some (.int q45.1), none, none, none] [.int (z_tb q47.1), .ref 139] q47.2 Q
        refine g_iconst (v := (1 : Int32)) dX12_readRight_65 (by decide) ?_
        refine g_bipush (v := (50 : Int32)) dX12_readRight_66 (by decide) ?_
        obtain ⟨q49, e50, h⟩ := z_bd h
        refine g_callV (a := 137) (as := [.int (z_tb q47.1), .int (1 : Int32), .int (50 : Int32)]) (rest := []) (c := mX12_behindWord) (k1 := 3) dX12_readRight_68 rfl rfl rfl sh_137 rfl rfl (Nat.le_of_ble_eq_true rfl) (Nat.le_of_ble_eq_true rfl) (by decide) ?_
        refine A_X12_behindWord e50 ?_
        show z_G none 4 mX12_readRight 71 [some (.ref 139), some (.int q26.1), some (.int q28.1), some (.int q31.1), some (.int q45.1), none, none, none] [.int q49.1] q49.2 Q
        refine g_istore (ls' := [some (.ref 139), some (.int q26.1), some (.int q28.1), some (.int q31.1), some (.int q45.1), some (.int q49.1), none, none]) dX12_readRight_71 (Nat.le_of_ble_eq_true rfl) rfl ?_
        refine g_iconst (v := (0 : Int32)) dX12_readRight_73 (by decide) ?_
        refine g_istore (ls' := [some (.ref 139), some (.int q26.1), some (.int q28.1), some (.int q31.1), some (.int q45.1), some (.int q49.1), some (.int (0 : Int32)), none]) dX12_readRight_74 (Nat.le_of_ble_eq_true rfl) rfl ?_
        refine g_aload_n dX12_readRight_76 rfl rfl ?_
        refine g_aload_n dX12_readRight_77 rfl rfl ?_
        obtain ⟨q51, e52, h⟩ := z_bd h
        refine g_callV (a := 137) (as := []) (rest := [.ref 139]) (c := mX12_isInWord) (k1 := 1) dX12_readRight_78 rfl rfl rfl sh_137 rfl rfl (Nat.le_of_ble_eq_true rfl) (Nat.le_of_ble_eq_true rfl) (by decide) ?_
        refine A_X12_isInWord e52 ?_
        show z_G none 4 mX12_readRight 81 [some (.ref 139), some (.int q26.1), some (.int q28.1), some (.int q31.1), some (.int q45.1), some (.int q49.1), some (.int (0 : Int32)), none] [.int (z_tb q51.1), .ref 139] q51.2 Q
        obtain ⟨q53, e54, h⟩ := z_bd h
        refine g_callV (a := 137) (as := [.int (z_tb q51.1)]) (rest := []) (c := mX12_must) (k1 := 2) dX12_readRight_81 rfl rfl rfl sh_137 rfl rfl (Nat.le_of_ble_eq_true rfl) (Nat.le_of_ble_eq_true rfl) (by decide) ?_
        refine A_X12_must e54 ?_
        show z_G none 4 mX12_readRight 84 [some (.ref 139), some (.int q26.1), some (.int q28.1), some (.int q31.1), some (.int q45.1), some (.int q49.1), some (.int (0 : Int32)), none] [] q53.2 Q
        exact g_sub (z_sub_s (z_sub_s (z_sub_s (z_sub_s (z_sub_s (z_sub_s (z_sub_s (z_sub_n z_sub_nil)))))))) ((AL_X12_readRight (w := w) w) _ _ _ _ _ _ _ _ _ _ h hq)
    · replace h := z_iff c33 h
      refine g_iconst (v := (1 : Int32)) dX12_readRight_34 (by decide) ?_
      refine g_goto (t := 39) dX12_readRight_35 (by decide) ?_
      obtain ⟨q55, e56, h⟩ := z_bd h
      refine g_callV (a := 137) (as := [.int (1 : Int32)]) (rest := []) (c := mX12_must) (k1 := 2) dX12_readRight_39 rfl rfl rfl sh_137 rfl rfl (Nat.le_of_ble_eq_true rfl) (Nat.le_of_ble_eq_true rfl) (by decide) ?_
      refine A_X12_must e56 ?_
      show z_G none 4 mX12_readRight 42 [some (.ref 139), some (.int q26.1), some (.int q28.1), some (.int q31.1), none, none, none, none] [] q55.2 Q
      refine g_iload_n dX12_readRight_42 rfl rfl ?_
      refine g_iconst (v := (2 : Int32)) dX12_readRight_43 (by decide) ?_
      refine g_ic_ne (t := 57) dX12_readRight_44 (by decide) (fun c57 => ?_) (fun c57 => ?_)
      · replace h := z_iff c57 h
        refine g_iconst (v := (0 : Int32)) dX12_readRight_57 (by decide) ?_
        refine g_istore (ls' := [some (.ref 139), some (.int q26.1), some (.int q28.1), some (.int q31.1), some (.int (0 : Int32)), none, none, none]) dX12_readRight_58 (Nat.le_of_ble_eq_true rfl) rfl ?_
        refine g_aload_n dX12_readRight_60 rfl rfl ?_
        refine g_aload_n dX12_readRight_61 rfl rfl ?_
        obtain ⟨q58, e59, h⟩ := z_bd h
        refine g_callV (a := 137) (as := []) (rest := [.ref 139]) (c := mX12_isWorth) (k1 := 1) dX12_readRight_62 rfl rfl rfl sh_137 rfl rfl (Nat.le_of_ble_eq_true rfl) (Nat.le_of_ble_eq_true rfl) (by decide) ?_
        refine A_X12_isWorth e59 ?_
        show z_G none 4 mX12_readRight 65 [some (.ref 139), some (.int q26.1), some (.int q28.1), some (.int q31.1), some (.int (0 : Int32)), none, none, none] [.int (z_tb q58.1), .ref 139] q58.2 Q
        refine g_iconst (v := (1 : Int32)) dX12_readRight_65 (by decide) ?_
        refine g_bipush (v := (50 : Int32)) dX12_readRight_66 (by decide) ?_
        obtain ⟨q60, e61, h⟩ := z_bd h
        refine g_callV (a := 137) (as := [.int (z_tb q58.1), .int (1 : Int32), .int (50 : Int32)]) (rest := []) (c := mX12_behindWord) (k1 := 3) dX12_readRight_68 rfl rfl rfl sh_137 rfl rfl (Nat.le_of_ble_eq_true rfl) (Nat.le_of_ble_eq_true rfl) (by decide) ?_
        refine A_X12_behindWord e61 ?_
        show z_G none 4 mX12_readRight 71 [some (.ref 139), some (.int q26.1), some (.int q28.1), some (.int q31.1), some (.int (0 : Int32)), none, none, none] [.int q60.1] q60.2 Q
        refine g_istore (ls' := [some (.ref 139), some (.int q26.1), some (.int q28.1), some (.int q31.1), some (.int (0 : Int32)), some (.int q60.1), none, none]) dX12_readRight_71 (Nat.le_of_ble_eq_true rfl) rfl ?_
        refine g_iconst (v := (0 : Int32)) dX12_readRight_73 (by decide) ?_
        refine g_istore (ls' := [some (.ref 139), some (.int q26.1), some (.int q28.1), some (.int q31.1), some (.int (0 : Int32)), some (.int q60.1), some (.int (0 : Int32)), none]) dX12_readRight_74 (Nat.le_of_ble_eq_true rfl) rfl ?_
        refine g_aload_n dX12_readRight_76 rfl rfl ?_
        refine g_aload_n dX12_readRight_77 rfl rfl ?_
        obtain ⟨q62, e63, h⟩ := z_bd h
        refine g_callV (a := 137) (as := []) (rest := [.ref 139]) (c := mX12_isInWord) (k1 := 1) dX12_readRight_78 rfl rfl rfl sh_137 rfl rfl (Nat.le_of_ble_eq_true rfl) (Nat.le_of_ble_eq_true rfl) (by decide) ?_
        refine A_X12_isInWord e63 ?_
        show z_G none 4 mX12_readRight 81 [some (.ref 139), some (.int q26.1), some (.int q28.1), some (.int q31.1), some (.int (0 : Int32)), some (.int q60.1), some (.int (0 : Int32)), none] [.int (z_tb q62.1), .ref 139] q62.2 Q
        obtain ⟨q64, e65, h⟩ := z_bd h
        refine g_callV (a := 137) (as := [.int (z_tb q62.1)]) (rest := []) (c := mX12_must) (k1 := 2) dX12_readRight_81 rfl rfl rfl sh_137 rfl rfl (Nat.le_of_ble_eq_true rfl) (Nat.le_of_ble_eq_true rfl) (by decide) ?_
        refine A_X12_must e65 ?_
        show z_G none 4 mX12_readRight 84 [some (.ref 139), some (.int q26.1), some (.int q28.1), some (.int q31.1), some (.int (0 : Int32)), some (.int q60.1), some (.int (0 : Int32)), none] [] q64.2 Q
        exact g_sub (z_sub_s (z_sub_s (z_sub_s (z_sub_s (z_sub_s (z_sub_s (z_sub_s (z_sub_n z_sub_nil)))))))) ((AL_X12_readRight (w := w) w) _ _ _ _ _ _ _ _ _ _ h hq)
      · replace h := z_ift c57 h
        refine g_aload_n dX12_readRight_47 rfl rfl ?_
        refine g_iconst (v := (1 : Int32)) dX12_readRight_48 (by decide) ?_
        refine g_bipush (v := (6 : Int32)) dX12_readRight_49 (by decide) ?_
        obtain ⟨q66, e67, h⟩ := z_bd h
        refine g_callV (a := 137) (as := [.int (1 : Int32), .int (6 : Int32)]) (rest := []) (c := mX12_count) (k1 := 2) dX12_readRight_51 rfl rfl rfl sh_137 rfl rfl (Nat.le_of_ble_eq_true rfl) (Nat.le_of_ble_eq_true rfl) (by decide) ?_
        refine A_X12_count e67 ?_
        show z_G none 4 mX12_readRight 54 [some (.ref 139), some (.int q26.1), some (.int q28.1), some (.int q31.1), none, none, none, none] [.int q66.1] q66.2 Q
        refine g_goto (t := 58) dX12_readRight_54 (by decide) ?_
        refine g_istore (ls' := [some (.ref 139), some (.int q26.1), some (.int q28.1), some (.int q31.1), some (.int q66.1), none, none, none]) dX12_readRight_58 (Nat.le_of_ble_eq_true rfl) rfl ?_
        refine g_aload_n dX12_readRight_60 rfl rfl ?_
        refine g_aload_n dX12_readRight_61 rfl rfl ?_
        obtain ⟨q68, e69, h⟩ := z_bd h
        refine g_callV (a := 137) (as := []) (rest := [.ref 139]) (c := mX12_isWorth) (k1 := 1) dX12_readRight_62 rfl rfl rfl sh_137 rfl rfl (Nat.le_of_ble_eq_true rfl) (Nat.le_of_ble_eq_true rfl) (by decide) ?_
        refine A_X12_isWorth e69 ?_
        show z_G none 4 mX12_readRight 65 [some (.ref 139), some (.int q26.1), some (.int q28.1), some (.int q31.1), some (.int q66.1), none, none, none] [.int (z_tb q68.1), .ref 139] q68.2 Q
        refine g_iconst (v := (1 : Int32)) dX12_readRight_65 (by decide) ?_
        refine g_bipush (v := (50 : Int32)) dX12_readRight_66 (by decide) ?_
        obtain ⟨q70, e71, h⟩ := z_bd h
        refine g_callV (a := 137) (as := [.int (z_tb q68.1), .int (1 : Int32), .int (50 : Int32)]) (rest := []) (c := mX12_behindWord) (k1 := 3) dX12_readRight_68 rfl rfl rfl sh_137 rfl rfl (Nat.le_of_ble_eq_true rfl) (Nat.le_of_ble_eq_true rfl) (by decide) ?_
        refine A_X12_behindWord e71 ?_
        show z_G none 4 mX12_readRight 71 [some (.ref 139), some (.int q26.1), some (.int q28.1), some (.int q31.1), some (.int q66.1), none, none, none] [.int q70.1] q70.2 Q
        refine g_istore (ls' := [some (.ref 139), some (.int q26.1), some (.int q28.1), some (.int q31.1), some (.int q66.1), some (.int q70.1), none, none]) dX12_readRight_71 (Nat.le_of_ble_eq_true rfl) rfl ?_
        refine g_iconst (v := (0 : Int32)) dX12_readRight_73 (by decide) ?_
        refine g_istore (ls' := [some (.ref 139), some (.int q26.1), some (.int q28.1), some (.int q31.1), some (.int q66.1), some (.int q70.1), some (.int (0 : Int32)), none]) dX12_readRight_74 (Nat.le_of_ble_eq_true rfl) rfl ?_
        refine g_aload_n dX12_readRight_76 rfl rfl ?_
        refine g_aload_n dX12_readRight_77 rfl rfl ?_
        obtain ⟨q72, e73, h⟩ := z_bd h
        refine g_callV (a := 137) (as := []) (rest := [.ref 139]) (c := mX12_isInWord) (k1 := 1) dX12_readRight_78 rfl rfl rfl sh_137 rfl rfl (Nat.le_of_ble_eq_true rfl) (Nat.le_of_ble_eq_true rfl) (by decide) ?_
        refine A_X12_isInWord e73 ?_
        show z_G none 4 mX12_readRight 81 [some (.ref 139), some (.int q26.1), some (.int q28.1), some (.int q31.1), some (.int q66.1), some (.int q70.1), some (.int (0 : Int32)), none] [.int (z_tb q72.1), .ref 139] q72.2 Q
        obtain ⟨q74, e75, h⟩ := z_bd h
        refine g_callV (a := 137) (as := [.int (z_tb q72.1)]) (rest := []) (c := mX12_must) (k1 := 2) dX12_readRight_81 rfl rfl rfl sh_137 rfl rfl (Nat.le_of_ble_eq_true rfl) (Nat.le_of_ble_eq_true rfl) (by decide) ?_
        refine A_X12_must e75 ?_
        show z_G none 4 mX12_readRight 84 [some (.ref 139), some (.int q26.1), some (.int q28.1), some (.int q31.1), some (.int q66.1), some (.int q70.1), some (.int (0 : Int32)), none] [] q74.2 Q
        exact g_sub (z_sub_s (z_sub_s (z_sub_s (z_sub_s (z_sub_s (z_sub_s (z_sub_s (z_sub_n z_sub_nil)))))))) ((AL_X12_readRight (w := w) w) _ _ _ _ _ _ _ _ _ _ h hq)
  · replace h := z_iff c30 h
    refine g_iconst (v := (0 : Int32)) dX12_readRight_20 (by decide) ?_
    refine g_goto (t := 28) dX12_readRight_21 (by decide) ?_
    refine g_istore_n (ls' := [some (.ref 139), some (.int q26.1), some (.int q28.1), some (.int (0 : Int32)), none, none, none, none]) dX12_readRight_28 rfl (Nat.le_of_ble_eq_true rfl) rfl ?_
    refine g_aload_n dX12_readRight_29 rfl rfl ?_
    refine g_iload_n dX12_readRight_30 rfl rfl ?_
    refine g_if_lt (t := 38) dX12_readRight_31 (by decide) (fun c76 => ?_) (fun c76 => ?_)
    · exact absurd c76 (by decide)
    · skip
      refine g_iconst (v := (1 : Int32)) dX12_readRight_34 (by decide) ?_
      refine g_goto (t := 39) dX12_readRight_35 (by decide) ?_
      obtain ⟨q77, e78, h⟩ := z_bd h
      refine g_callV (a := 137) (as := [.int (1 : Int32)]) (rest := []) (c := mX12_must) (k1 := 2) dX12_readRight_39 rfl rfl rfl sh_137 rfl rfl (Nat.le_of_ble_eq_true rfl) (Nat.le_of_ble_eq_true rfl) (by decide) ?_
      refine A_X12_must e78 ?_
      show z_G none 4 mX12_readRight 42 [some (.ref 139), some (.int q26.1), some (.int q28.1), some (.int (0 : Int32)), none, none, none, none] [] q77.2 Q
      refine g_iload_n dX12_readRight_42 rfl rfl ?_
      refine g_iconst (v := (2 : Int32)) dX12_readRight_43 (by decide) ?_
      refine g_ic_ne (t := 57) dX12_readRight_44 (by decide) (fun c79 => ?_) (fun c79 => ?_)
      · skip
        refine g_iconst (v := (0 : Int32)) dX12_readRight_57 (by decide) ?_
        refine g_istore (ls' := [some (.ref 139), some (.int q26.1), some (.int q28.1), some (.int (0 : Int32)), some (.int (0 : Int32)), none, none, none]) dX12_readRight_58 (Nat.le_of_ble_eq_true rfl) rfl ?_
        refine g_aload_n dX12_readRight_60 rfl rfl ?_
        refine g_aload_n dX12_readRight_61 rfl rfl ?_
        obtain ⟨q80, e81, h⟩ := z_bd h
        refine g_callV (a := 137) (as := []) (rest := [.ref 139]) (c := mX12_isWorth) (k1 := 1) dX12_readRight_62 rfl rfl rfl sh_137 rfl rfl (Nat.le_of_ble_eq_true rfl) (Nat.le_of_ble_eq_true rfl) (by decide) ?_
        refine A_X12_isWorth e81 ?_
        show z_G none 4 mX12_readRight 65 [some (.ref 139), some (.int q26.1), some (.int q28.1), some (.int (0 : Int32)), some (.int (0 : Int32)), none, none, none] [.int (z_tb q80.1), .ref 139] q80.2 Q
        refine g_iconst (v := (1 : Int32)) dX12_readRight_65 (by decide) ?_
        refine g_bipush (v := (50 : Int32)) dX12_readRight_66 (by decide) ?_
        obtain ⟨q82, e83, h⟩ := z_bd h
        refine g_callV (a := 137) (as := [.int (z_tb q80.1), .int (1 : Int32), .int (50 : Int32)]) (rest := []) (c := mX12_behindWord) (k1 := 3) dX12_readRight_68 rfl rfl rfl sh_137 rfl rfl (Nat.le_of_ble_eq_true rfl) (Nat.le_of_ble_eq_true rfl) (by decide) ?_
        refine A_X12_behindWord e83 ?_
        show z_G none 4 mX12_readRight 71 [some (.ref 139), some (.int q26.1), some (.int q28.1), some (.int (0 : Int32)), some (.int (0 : Int32)), none, none, none] [.int q82.1] q82.2 Q
        refine g_istore (ls' := [some (.ref 139), some (.int q26.1), some (.int q28.1), some (.int (0 : Int32)), some (.int (0 : Int32)), some (.int q82.1), none, none]) dX12_readRight_71 (Nat.le_of_ble_eq_true rfl) rfl ?_
        refine g_iconst (v := (0 : Int32)) dX12_readRight_73 (by decide) ?_
        refine g_istore (ls' := [some (.ref 139), some (.int q26.1), some (.int q28.1), some (.int (0 : Int32)), some (.int (0 : Int32)), some (.int q82.1), some (.int (0 : Int32)), none]) dX12_readRight_74 (Nat.le_of_ble_eq_true rfl) rfl ?_
        refine g_aload_n dX12_readRight_76 rfl rfl ?_
        refine g_aload_n dX12_readRight_77 rfl rfl ?_
        obtain ⟨q84, e85, h⟩ := z_bd h
        refine g_callV (a := 137) (as := []) (rest := [.ref 139]) (c := mX12_isInWord) (k1 := 1) dX12_readRight_78 rfl rfl rfl sh_137 rfl rfl (Nat.le_of_ble_eq_true rfl) (Nat.le_of_ble_eq_true rfl) (by decide) ?_
        refine A_X12_isInWord e85 ?_
        show z_G none 4 mX12_readRight 81 [some (.ref 139), some (.int q26.1), some (.int q28.1), some (.int (0 : Int32)), some (.int (0 : Int32)), some (.int q82.1), some (.int (0 : Int32)), none] [.int (z_tb q84.1), .ref 139] q84.2 Q
        obtain ⟨q86, e87, h⟩ := z_bd h
        refine g_callV (a := 137) (as := [.int (z_tb q84.1)]) (rest := []) (c := mX12_must) (k1 := 2) dX12_readRight_81 rfl rfl rfl sh_137 rfl rfl (Nat.le_of_ble_eq_true rfl) (Nat.le_of_ble_eq_true rfl) (by decide) ?_
        refine A_X12_must e87 ?_
        show z_G none 4 mX12_readRight 84 [some (.ref 139), some (.int q26.1), some (.int q28.1), some (.int (0 : Int32)), some (.int (0 : Int32)), some (.int q82.1), some (.int (0 : Int32)), none] [] q86.2 Q
        exact g_sub (z_sub_s (z_sub_s (z_sub_s (z_sub_s (z_sub_s (z_sub_s (z_sub_s (z_sub_n z_sub_nil)))))))) ((AL_X12_readRight (w := w) w) _ _ _ _ _ _ _ _ _ _ h hq)
      · exact absurd c79 (by decide)
theorem dX12_swears_0 : decode cX12_swears 0 = .ok (.sipush 375, 3) := by decide +kernel
theorem dX12_swears_3 : decode cX12_swears 3 = .ok (.iload_n 1, 1) := by decide +kernel
theorem dX12_swears_4 : decode cX12_swears 4 = .ok (.imul, 1) := by decide +kernel
theorem dX12_swears_5 : decode cX12_swears 5 = .ok (.istore 5, 2) := by decide +kernel
theorem dX12_swears_7 : decode cX12_swears 7 = .ok (.aload_n 0, 1) := by decide +kernel
theorem dX12_swears_8 : decode cX12_swears 8 = .ok (.getfield 35, 3) := by decide +kernel
theorem dX12_swears_11 : decode cX12_swears 11 = .ok (.iload 5, 2) := by decide +kernel
theorem dX12_swears_13 : decode cX12_swears 13 = .ok (.iconst 1, 1) := by decide +kernel
theorem dX12_swears_14 : decode cX12_swears 14 = .ok (.iadd, 1) := by decide +kernel
theorem dX12_swears_15 : decode cX12_swears 15 = .ok (.iaload, 1) := by decide +kernel
theorem dX12_swears_16 : decode cX12_swears 16 = .ok (.istore 6, 2) := by decide +kernel
theorem dX12_swears_18 : decode cX12_swears 18 = .ok (.aload_n 0, 1) := by decide +kernel
theorem dX12_swears_19 : decode cX12_swears 19 = .ok (.getfield 35, 3) := by decide +kernel
theorem dX12_swears_22 : decode cX12_swears 22 = .ok (.iload 5, 2) := by decide +kernel
theorem dX12_swears_24 : decode cX12_swears 24 = .ok (.bipush 60, 2) := by decide +kernel
theorem dX12_swears_26 : decode cX12_swears 26 = .ok (.iadd, 1) := by decide +kernel
theorem dX12_swears_27 : decode cX12_swears 27 = .ok (.iload 6, 2) := by decide +kernel
theorem dX12_swears_29 : decode cX12_swears 29 = .ok (.iadd, 1) := by decide +kernel
theorem dX12_swears_30 : decode cX12_swears 30 = .ok (.iload_n 2, 1) := by decide +kernel
theorem dX12_swears_31 : decode cX12_swears 31 = .ok (.iastore, 1) := by decide +kernel
theorem dX12_swears_32 : decode cX12_swears 32 = .ok (.aload_n 0, 1) := by decide +kernel
theorem dX12_swears_33 : decode cX12_swears 33 = .ok (.getfield 35, 3) := by decide +kernel
theorem dX12_swears_36 : decode cX12_swears 36 = .ok (.iload 5, 2) := by decide +kernel
theorem dX12_swears_38 : decode cX12_swears 38 = .ok (.bipush 65, 2) := by decide +kernel
theorem dX12_swears_40 : decode cX12_swears 40 = .ok (.iadd, 1) := by decide +kernel
theorem dX12_swears_41 : decode cX12_swears 41 = .ok (.iload 6, 2) := by decide +kernel
theorem dX12_swears_43 : decode cX12_swears 43 = .ok (.iadd, 1) := by decide +kernel
theorem dX12_swears_44 : decode cX12_swears 44 = .ok (.iload_n 3, 1) := by decide +kernel
theorem dX12_swears_45 : decode cX12_swears 45 = .ok (.iastore, 1) := by decide +kernel
theorem dX12_swears_46 : decode cX12_swears 46 = .ok (.aload_n 0, 1) := by decide +kernel
theorem dX12_swears_47 : decode cX12_swears 47 = .ok (.getfield 35, 3) := by decide +kernel
theorem dX12_swears_50 : decode cX12_swears 50 = .ok (.iload 5, 2) := by decide +kernel
theorem dX12_swears_52 : decode cX12_swears 52 = .ok (.bipush 70, 2) := by decide +kernel
theorem dX12_swears_54 : decode cX12_swears 54 = .ok (.iadd, 1) := by decide +kernel
theorem dX12_swears_55 : decode cX12_swears 55 = .ok (.iload 6, 2) := by decide +kernel
theorem dX12_swears_57 : decode cX12_swears 57 = .ok (.iadd, 1) := by decide +kernel
theorem dX12_swears_58 : decode cX12_swears 58 = .ok (.iload 4, 2) := by decide +kernel
theorem dX12_swears_60 : decode cX12_swears 60 = .ok (.iastore, 1) := by decide +kernel
theorem dX12_swears_61 : decode cX12_swears 61 = .ok (.aload_n 0, 1) := by decide +kernel
theorem dX12_swears_62 : decode cX12_swears 62 = .ok (.getfield 35, 3) := by decide +kernel
theorem dX12_swears_65 : decode cX12_swears 65 = .ok (.iload 5, 2) := by decide +kernel
theorem dX12_swears_67 : decode cX12_swears 67 = .ok (.iconst 1, 1) := by decide +kernel
theorem dX12_swears_68 : decode cX12_swears 68 = .ok (.iadd, 1) := by decide +kernel
theorem dX12_swears_69 : decode cX12_swears 69 = .ok (.dup2, 1) := by decide +kernel
theorem dX12_swears_70 : decode cX12_swears 70 = .ok (.iaload, 1) := by decide +kernel
theorem dX12_swears_71 : decode cX12_swears 71 = .ok (.iconst 1, 1) := by decide +kernel
theorem dX12_swears_72 : decode cX12_swears 72 = .ok (.iadd, 1) := by decide +kernel
theorem dX12_swears_73 : decode cX12_swears 73 = .ok (.iastore, 1) := by decide +kernel
theorem dX12_swears_74 : decode cX12_swears 74 = .ok (.return_, 1) := by decide +kernel
def F_X12_swears (w : Nat) (M : z_Mem) (a1 : Int32) (a2 : Int32) (a3 : Int32) (a4 : Int32) : Option (Unit × z_Mem) :=
  if (((375 : Int32) * a1) + (1 : Int32)) < 0 ∨ 1875 ≤ (((375 : Int32) * a1) + (1 : Int32)).toNatClampNeg then none else
  if ((((375 : Int32) * a1) + (60 : Int32)) + (M.1 142 (((375 : Int32) * a1) + (1 : Int32)).toNatClampNeg)) < 0 ∨ 1875 ≤ ((((375 : Int32) * a1) + (60 : Int32)) + (M.1 142 (((375 : Int32) * a1) + (1 : Int32)).toNatClampNeg)).toNatClampNeg then none else
  if ((((375 : Int32) * a1) + (65 : Int32)) + (M.1 142 (((375 : Int32) * a1) + (1 : Int32)).toNatClampNeg)) < 0 ∨ 1875 ≤ ((((375 : Int32) * a1) + (65 : Int32)) + (M.1 142 (((375 : Int32) * a1) + (1 : Int32)).toNatClampNeg)).toNatClampNeg then none else
  if ((((375 : Int32) * a1) + (70 : Int32)) + (M.1 142 (((375 : Int32) * a1) + (1 : Int32)).toNatClampNeg)) < 0 ∨ 1875 ≤ ((((375 : Int32) * a1) + (70 : Int32)) + (M.1 142 (((375 : Int32) * a1) + (1 : Int32)).toNatClampNeg)).toNatClampNeg then none else
  if (((375 : Int32) * a1) + (1 : Int32)) < 0 ∨ 1875 ≤ (((375 : Int32) * a1) + (1 : Int32)).toNatClampNeg then none else
  if (((375 : Int32) * a1) + (1 : Int32)) < 0 ∨ 1875 ≤ (((375 : Int32) * a1) + (1 : Int32)).toNatClampNeg then none else
  some ((), (z_wI (z_wI (z_wI (z_wI M 142 (((((375 : Int32) * a1) + (60 : Int32)) + (M.1 142 (((375 : Int32) * a1) + (1 : Int32)).toNatClampNeg)).toNatClampNeg) a2) 142 (((((375 : Int32) * a1) + (65 : Int32)) + (M.1 142 (((375 : Int32) * a1) + (1 : Int32)).toNatClampNeg)).toNatClampNeg) a3) 142 (((((375 : Int32) * a1) + (70 : Int32)) + (M.1 142 (((375 : Int32) * a1) + (1 : Int32)).toNatClampNeg)).toNatClampNeg) a4) 142 ((((375 : Int32) * a1) + (1 : Int32)).toNatClampNeg) (((z_wI (z_wI (z_wI M 142 (((((375 : Int32) * a1) + (60 : Int32)) + (M.1 142 (((375 : Int32) * a1) + (1 : Int32)).toNatClampNeg)).toNatClampNeg) a2) 142 (((((375 : Int32) * a1) + (65 : Int32)) + (M.1 142 (((375 : Int32) * a1) + (1 : Int32)).toNatClampNeg)).toNatClampNeg) a3) 142 (((((375 : Int32) * a1) + (70 : Int32)) + (M.1 142 (((375 : Int32) * a1) + (1 : Int32)).toNatClampNeg)).toNatClampNeg) a4).1 142 (((375 : Int32) * a1) + (1 : Int32)).toNatClampNeg) + (1 : Int32))))
set_option maxHeartbeats 4000000 in
theorem A_X12_swears {w : Nat} {M : z_Mem} {a1 : Int32} {a2 : Int32} {a3 : Int32} {a4 : Int32} {r : Unit} {M' : z_Mem} {Q : Option Value → z_Mem → Prop} (h : F_X12_swears w M a1 a2 a3 a4 = some (r, M')) (hq : Q none M') : z_Cl 0 mX12_swears [.ref 139, .int a1, .int a2, .int a3, .int a4] M Q := by
  refine g_in (ls := [some (.ref 139), some (.int a1), some (.int a2), some (.int a3), some (.int a4), none, none]) rfl ?_
  unfold F_X12_swears at h
  refine g_sipush (v := (375 : Int32)) dX12_swears_0 (by decide) ?_
  refine g_iload_n dX12_swears_3 rfl rfl ?_
  refine g_imul dX12_swears_4 ?_
  refine g_istore (ls' := [some (.ref 139), some (.int a1), some (.int a2), some (.int a3), some (.int a4), some (.int ((375 : Int32) * a1)), none]) dX12_swears_5 (Nat.le_of_ble_eq_true rfl) rfl ?_
  refine g_aload_n dX12_swears_7 rfl rfl ?_
  refine g_get (a := 137) (v := .ref 144) dX12_swears_8 f_12_35 sh_137 rfl rfl ?_
  refine g_iload dX12_swears_11 rfl ?_
  refine g_iconst (v := (1 : Int32)) dX12_swears_13 (by decide) ?_
  refine g_iadd dX12_swears_14 ?_
  by_cases g1 : (((375 : Int32) * a1) + (1 : Int32)) < 0 ∨ 1875 ≤ (((375 : Int32) * a1) + (1 : Int32)).toNatClampNeg
  · rw [if_pos g1] at h; cases h
  replace h := z_iff g1 h
  refine g_iald (a := 142) dX12_swears_15 sh_142 g1 ?_
  refine g_istore (ls' := [some (.ref 139), some (.int a1), some (.int a2), some (.int a3), some (.int a4), some (.int ((375 : Int32) * a1)), some (.int (M.1 142 (((375 : Int32) * a1) + (1 : Int32)).toNatClampNeg))]) dX12_swears_16 (Nat.le_of_ble_eq_true rfl) rfl ?_
  refine g_aload_n dX12_swears_18 rfl rfl ?_
  refine g_get (a := 137) (v := .ref 144) dX12_swears_19 f_12_35 sh_137 rfl rfl ?_
  refine g_iload dX12_swears_22 rfl ?_
  refine g_bipush (v := (60 : Int32)) dX12_swears_24 (by decide) ?_
  refine g_iadd dX12_swears_26 ?_
  refine g_iload dX12_swears_27 rfl ?_
  refine g_iadd dX12_swears_29 ?_
  refine g_iload_n dX12_swears_30 rfl rfl ?_
  by_cases g2 : ((((375 : Int32) * a1) + (60 : Int32)) + (M.1 142 (((375 : Int32) * a1) + (1 : Int32)).toNatClampNeg)) < 0 ∨ 1875 ≤ ((((375 : Int32) * a1) + (60 : Int32)) + (M.1 142 (((375 : Int32) * a1) + (1 : Int32)).toNatClampNeg)).toNatClampNeg
  · rw [if_pos g2] at h; cases h
  replace h := z_iff g2 h
  refine g_iast (a := 142) dX12_swears_31 sh_142 g2 ?_
  refine g_aload_n dX12_swears_32 rfl rfl ?_
  refine g_get (a := 137) (v := .ref 144) dX12_swears_33 f_12_35 sh_137 rfl rfl ?_
  refine g_iload dX12_swears_36 rfl ?_
  refine g_bipush (v := (65 : Int32)) dX12_swears_38 (by decide) ?_
  refine g_iadd dX12_swears_40 ?_
  refine g_iload dX12_swears_41 rfl ?_
  refine g_iadd dX12_swears_43 ?_
  refine g_iload_n dX12_swears_44 rfl rfl ?_
  by_cases g3 : ((((375 : Int32) * a1) + (65 : Int32)) + (M.1 142 (((375 : Int32) * a1) + (1 : Int32)).toNatClampNeg)) < 0 ∨ 1875 ≤ ((((375 : Int32) * a1) + (65 : Int32)) + (M.1 142 (((375 : Int32) * a1) + (1 : Int32)).toNatClampNeg)).toNatClampNeg
  · rw [if_pos g3] at h; cases h
  replace h := z_iff g3 h
  refine g_iast (a := 142) dX12_swears_45 sh_142 g3 ?_
  refine g_aload_n dX12_swears_46 rfl rfl ?_
  refine g_get (a := 137) (v := .ref 144) dX12_swears_47 f_12_35 sh_137 rfl rfl ?_
  refine g_iload dX12_swears_50 rfl ?_
  refine g_bipush (v := (70 : Int32)) dX12_swears_52 (by decide) ?_
  refine g_iadd dX12_swears_54 ?_
  refine g_iload dX12_swears_55 rfl ?_
  refine g_iadd dX12_swears_57 ?_
  refine g_iload dX12_swears_58 rfl ?_
  by_cases g4 : ((((375 : Int32) * a1) + (70 : Int32)) + (M.1 142 (((375 : Int32) * a1) + (1 : Int32)).toNatClampNeg)) < 0 ∨ 1875 ≤ ((((375 : Int32) * a1) + (70 : Int32)) + (M.1 142 (((375 : Int32) * a1) + (1 : Int32)).toNatClampNeg)).toNatClampNeg
  · rw [if_pos g4] at h; cases h
  replace h := z_iff g4 h
  refine g_iast (a := 142) dX12_swears_60 sh_142 g4 ?_
  refine g_aload_n dX12_swears_61 rfl rfl ?_
  refine g_get (a := 137) (v := .ref 144) dX12_swears_62 f_12_35 sh_137 rfl rfl ?_
  refine g_iload dX12_swears_65 rfl ?_
  refine g_iconst (v := (1 : Int32)) dX12_swears_67 (by decide) ?_
  refine g_iadd dX12_swears_68 ?_
  refine g_dup2 dX12_swears_69 rfl rfl ?_
  by_cases g5 : (((375 : Int32) * a1) + (1 : Int32)) < 0 ∨ 1875 ≤ (((375 : Int32) * a1) + (1 : Int32)).toNatClampNeg
  · rw [if_pos g5] at h; cases h
  replace h := z_iff g5 h
  refine g_iald (a := 142) dX12_swears_70 sh_142 g5 ?_
  refine g_iconst (v := (1 : Int32)) dX12_swears_71 (by decide) ?_
  refine g_iadd dX12_swears_72 ?_
  by_cases g6 : (((375 : Int32) * a1) + (1 : Int32)) < 0 ∨ 1875 ≤ (((375 : Int32) * a1) + (1 : Int32)).toNatClampNeg
  · rw [if_pos g6] at h; cases h
  replace h := z_iff g6 h
  refine g_iast (a := 142) dX12_swears_73 sh_142 g6 ?_
  cases h
  exact g_vret dX12_swears_74 rfl hq
theorem dX12_readDebt_0 : decode cX12_readDebt 0 = .ok (.aload_n 0, 1) := by decide +kernel
theorem dX12_readDebt_1 : decode cX12_readDebt 1 = .ok (.iconst 1, 1) := by decide +kernel
theorem dX12_readDebt_2 : decode cX12_readDebt 2 = .ok (.iconst 5, 1) := by decide +kernel
theorem dX12_readDebt_3 : decode cX12_readDebt 3 = .ok (.invokevirtual 253, 3) := by decide +kernel
theorem dX12_readDebt_6 : decode cX12_readDebt 6 = .ok (.pop, 1) := by decide +kernel
theorem dX12_readDebt_7 : decode cX12_readDebt 7 = .ok (.aload_n 0, 1) := by decide +kernel
theorem dX12_readDebt_8 : decode cX12_readDebt 8 = .ok (.invokevirtual 250, 3) := by decide +kernel
theorem dX12_readDebt_11 : decode cX12_readDebt 11 = .ok (.istore_n 1, 1) := by decide +kernel
theorem dX12_readDebt_12 : decode cX12_readDebt 12 = .ok (.aload_n 0, 1) := by decide +kernel
theorem dX12_readDebt_13 : decode cX12_readDebt 13 = .ok (.aload_n 0, 1) := by decide +kernel
theorem dX12_readDebt_14 : decode cX12_readDebt 14 = .ok (.invokevirtual 175, 3) := by decide +kernel
theorem dX12_readDebt_17 : decode cX12_readDebt 17 = .ok (.iconst 1, 1) := by decide +kernel
theorem dX12_readDebt_18 : decode cX12_readDebt 18 = .ok (.bipush 99, 2) := by decide +kernel
theorem dX12_readDebt_20 : decode cX12_readDebt 20 = .ok (.invokevirtual 256, 3) := by decide +kernel
theorem dX12_readDebt_23 : decode cX12_readDebt 23 = .ok (.istore_n 2, 1) := by decide +kernel
theorem dX12_readDebt_24 : decode cX12_readDebt 24 = .ok (.aload_n 0, 1) := by decide +kernel
theorem dX12_readDebt_25 : decode cX12_readDebt 25 = .ok (.aload_n 0, 1) := by decide +kernel
theorem dX12_readDebt_26 : decode cX12_readDebt 26 = .ok (.invokevirtual 178, 3) := by decide +kernel
theorem dX12_readDebt_29 : decode cX12_readDebt 29 = .ok (.iconst 1, 1) := by decide +kernel
theorem dX12_readDebt_30 : decode cX12_readDebt 30 = .ok (.bipush 24, 2) := by decide +kernel
theorem dX12_readDebt_32 : decode cX12_readDebt 32 = .ok (.invokevirtual 256, 3) := by decide +kernel
theorem dX12_readDebt_35 : decode cX12_readDebt 35 = .ok (.istore_n 3, 1) := by decide +kernel
theorem dX12_readDebt_36 : decode cX12_readDebt 36 = .ok (.aload_n 0, 1) := by decide +kernel
theorem dX12_readDebt_37 : decode cX12_readDebt 37 = .ok (.getfield 212, 3) := by decide +kernel
theorem dX12_readDebt_40 : decode cX12_readDebt 40 = .ok (.ifCond .ne 11, 3) := by decide +kernel
theorem dX12_readDebt_43 : decode cX12_readDebt 43 = .ok (.aload_n 0, 1) := by decide +kernel
theorem dX12_readDebt_44 : decode cX12_readDebt 44 = .ok (.iconst 4, 1) := by decide +kernel
theorem dX12_readDebt_45 : decode cX12_readDebt 45 = .ok (.iload_n 1, 1) := by decide +kernel
theorem dX12_readDebt_46 : decode cX12_readDebt 46 = .ok (.iload_n 2, 1) := by decide +kernel
theorem dX12_readDebt_47 : decode cX12_readDebt 47 = .ok (.iload_n 3, 1) := by decide +kernel
theorem dX12_readDebt_48 : decode cX12_readDebt 48 = .ok (.invokevirtual 266, 3) := by decide +kernel
theorem dX12_readDebt_51 : decode cX12_readDebt 51 = .ok (.return_, 1) := by decide +kernel
def F_X12_readDebt (w : Nat) (M : z_Mem) : Option (Unit × z_Mem) :=
  (F_X12_another w M (1 : Int32) (5 : Int32)).bind fun q1 =>
  (F_X12_readSide w q1.2).bind fun q3 =>
  (F_X12_isSum w q3.2).bind fun q5 =>
  (F_X12_behindWord w q5.2 (z_tb q5.1) (1 : Int32) (99 : Int32)).bind fun q7 =>
  (F_X12_isLeft w q7.2).bind fun q9 =>
  (F_X12_behindWord w q9.2 (z_tb q9.1) (1 : Int32) (24 : Int32)).bind fun q11 =>
  if (q11.2.1 137 12) = (0 : Int32) then
  (F_X12_swears w q11.2 (4 : Int32) q3.1 q7.1 q11.1).bind fun q14 =>
  some ((), q14.2)
  else
  some ((), q11.2)
set_option maxHeartbeats 4000000 in
theorem A_X12_readDebt {w : Nat} {M : z_Mem} {r : Unit} {M' : z_Mem} {Q : Option Value → z_Mem → Prop} (h : F_X12_readDebt w M = some (r, M')) (hq : Q none M') : z_Cl 4 mX12_readDebt [.ref 139] M Q := by
  refine g_in (ls := [some (.ref 139), none, none, none]) rfl ?_
  unfold F_X12_readDebt at h
  refine g_aload_n dX12_readDebt_0 rfl rfl ?_
  refine g_iconst (v := (1 : Int32)) dX12_readDebt_1 (by decide) ?_
  refine g_iconst (v := (5 : Int32)) dX12_readDebt_2 (by decide) ?_
  obtain ⟨q1, e2, h⟩ := z_bd h
  refine g_callV (a := 137) (as := [.int (1 : Int32), .int (5 : Int32)]) (rest := []) (c := mX12_another) (k1 := 3) dX12_readDebt_3 rfl rfl rfl sh_137 rfl rfl (Nat.le_of_ble_eq_true rfl) (Nat.le_of_ble_eq_true rfl) (by decide) ?_
  refine A_X12_another e2 ?_
  show z_G none 4 mX12_readDebt 6 [some (.ref 139), none, none, none] [.int q1.1] q1.2 Q
  refine g_pop dX12_readDebt_6 rfl ?_
  refine g_aload_n dX12_readDebt_7 rfl rfl ?_
  obtain ⟨q3, e4, h⟩ := z_bd h
  refine g_callV (a := 137) (as := []) (rest := []) (c := mX12_readSide) (k1 := 3) dX12_readDebt_8 rfl rfl rfl sh_137 rfl rfl (Nat.le_of_ble_eq_true rfl) (Nat.le_of_ble_eq_true rfl) (by decide) ?_
  refine A_X12_readSide e4 ?_
  show z_G none 4 mX12_readDebt 11 [some (.ref 139), none, none, none] [.int q3.1] q3.2 Q
  refine g_istore_n (ls' := [some (.ref 139), some (.int q3.1), none, none]) dX12_readDebt_11 rfl (Nat.le_of_ble_eq_true rfl) rfl ?_
  refine g_aload_n dX12_readDebt_12 rfl rfl ?_
  refine g_aload_n dX12_readDebt_13 rfl rfl ?_
  obtain ⟨q5, e6, h⟩ := z_bd h
  refine g_callV (a := 137) (as := []) (rest := [.ref 139]) (c := mX12_isSum) (k1 := 1) dX12_readDebt_14 rfl rfl rfl sh_137 rfl rfl (Nat.le_of_ble_eq_true rfl) (Nat.le_of_ble_eq_true rfl) (by decide) ?_
  refine A_X12_isSum e6 ?_
  show z_G none 4 mX12_readDebt 17 [some (.ref 139), some (.int q3.1), none, none] [.int (z_tb q5.1), .ref 139] q5.2 Q
  refine g_iconst (v := (1 : Int32)) dX12_readDebt_17 (by decide) ?_
  refine g_bipush (v := (99 : Int32)) dX12_readDebt_18 (by decide) ?_
  obtain ⟨q7, e8, h⟩ := z_bd h
  refine g_callV (a := 137) (as := [.int (z_tb q5.1), .int (1 : Int32), .int (99 : Int32)]) (rest := []) (c := mX12_behindWord) (k1 := 3) dX12_readDebt_20 rfl rfl rfl sh_137 rfl rfl (Nat.le_of_ble_eq_true rfl) (Nat.le_of_ble_eq_true rfl) (by decide) ?_
  refine A_X12_behindWord e8 ?_
  show z_G none 4 mX12_readDebt 23 [some (.ref 139), some (.int q3.1), none, none] [.int q7.1] q7.2 Q
  refine g_istore_n (ls' := [some (.ref 139), some (.int q3.1), some (.int q7.1), none]) dX12_readDebt_23 rfl (Nat.le_of_ble_eq_true rfl) rfl ?_
  refine g_aload_n dX12_readDebt_24 rfl rfl ?_
  refine g_aload_n dX12_readDebt_25 rfl rfl ?_
  obtain ⟨q9, e10, h⟩ := z_bd h
  refine g_callV (a := 137) (as := []) (rest := [.ref 139]) (c := mX12_isLeft) (k1 := 1) dX12_readDebt_26 rfl rfl rfl sh_137 rfl rfl (Nat.le_of_ble_eq_true rfl) (Nat.le_of_ble_eq_true rfl) (by decide) ?_
  refine A_X12_isLeft e10 ?_
  show z_G none 4 mX12_readDebt 29 [some (.ref 139), some (.int q3.1), some (.int q7.1), none] [.int (z_tb q9.1), .ref 139] q9.2 Q
  refine g_iconst (v := (1 : Int32)) dX12_readDebt_29 (by decide) ?_
  refine g_bipush (v := (24 : Int32)) dX12_readDebt_30 (by decide) ?_
  obtain ⟨q11, e12, h⟩ := z_bd h
  refine g_callV (a := 137) (as := [.int (z_tb q9.1), .int (1 : Int32), .int (24 : Int32)]) (rest := []) (c := mX12_behindWord) (k1 := 3) dX12_readDebt_32 rfl rfl rfl sh_137 rfl rfl (Nat.le_of_ble_eq_true rfl) (Nat.le_of_ble_eq_true rfl) (by decide) ?_
  refine A_X12_behindWord e12 ?_
  show z_G none 4 mX12_readDebt 35 [some (.ref 139), some (.int q3.1), some (.int q7.1), none] [.int q11.1] q11.2 Q
  refine g_istore_n (ls' := [some (.ref 139), some (.int q3.1), some (.int q7.1), some (.int q11.1)]) dX12_readDebt_35 rfl (Nat.le_of_ble_eq_true rfl) rfl ?_
  refine g_aload_n dX12_readDebt_36 rfl rfl ?_
  refine g_get (a := 137) (v := .int (q11.2.1 137 12)) dX12_readDebt_37 f_12_212 sh_137 rfl rfl ?_
  refine g_if_ne (t := 51) dX12_readDebt_40 (by decide) (fun c13 => ?_) (fun c13 => ?_)
  · replace h := z_iff c13 h
    cases h
    exact g_vret dX12_readDebt_51 rfl hq
  · replace h := z_ift c13 h
    refine g_aload_n dX12_readDebt_43 rfl rfl ?_
    refine g_iconst (v := (4 : Int32)) dX12_readDebt_44 (by decide) ?_
    refine g_iload_n dX12_readDebt_45 rfl rfl ?_
    refine g_iload_n dX12_readDebt_46 rfl rfl ?_
    refine g_iload_n dX12_readDebt_47 rfl rfl ?_
    obtain ⟨q14, e15, h⟩ := z_bd h
    refine g_callV (a := 137) (as := [.int (4 : Int32), .int q3.1, .int q7.1, .int q11.1]) (rest := []) (c := mX12_swears) (k1 := 0) dX12_readDebt_48 rfl rfl rfl sh_137 rfl rfl (Nat.le_of_ble_eq_true rfl) (Nat.le_of_ble_eq_true rfl) (by decide) ?_
    refine A_X12_swears e15 ?_
    show z_G none 4 mX12_readDebt 51 [some (.ref 139), some (.int q3.1), some (.int q7.1), some (.int q11.1)] [] q14.2 Q
    cases h
    exact g_vret dX12_readDebt_51 rfl hq
theorem dX12_readAsk_0 : decode cX12_readAsk 0 = .ok (.aload_n 0, 1) := by decide +kernel
theorem dX12_readAsk_1 : decode cX12_readAsk 1 = .ok (.iconst 2, 1) := by decide +kernel
theorem dX12_readAsk_2 : decode cX12_readAsk 2 = .ok (.bipush 6, 2) := by decide +kernel
theorem dX12_readAsk_4 : decode cX12_readAsk 4 = .ok (.invokevirtual 253, 3) := by decide +kernel
theorem dX12_readAsk_7 : decode cX12_readAsk 7 = .ok (.istore_n 1, 1) := by decide +kernel
theorem dX12_readAsk_8 : decode cX12_readAsk 8 = .ok (.aload_n 0, 1) := by decide +kernel
theorem dX12_readAsk_9 : decode cX12_readAsk 9 = .ok (.getfield 212, 3) := by decide +kernel
theorem dX12_readAsk_12 : decode cX12_readAsk 12 = .ok (.ifCond .ne 14, 3) := by decide +kernel
theorem dX12_readAsk_15 : decode cX12_readAsk 15 = .ok (.aload_n 0, 1) := by decide +kernel
theorem dX12_readAsk_16 : decode cX12_readAsk 16 = .ok (.invokevirtual 270, 3) := by decide +kernel
theorem dX12_readAsk_19 : decode cX12_readAsk 19 = .ok (.ifCond .ne 7, 3) := by decide +kernel
theorem dX12_readAsk_22 : decode cX12_readAsk 22 = .ok (.aload_n 0, 1) := by decide +kernel
theorem dX12_readAsk_23 : decode cX12_readAsk 23 = .ok (.invokevirtual 225, 3) := by decide +kernel
theorem dX12_readAsk_26 : decode cX12_readAsk 26 = .ok (.aload_n 0, 1) := by decide +kernel
theorem dX12_readAsk_27 : decode cX12_readAsk 27 = .ok (.getfield 212, 3) := by decide +kernel
theorem dX12_readAsk_30 : decode cX12_readAsk 30 = .ok (.ifCond .ne 19, 3) := by decide +kernel
theorem dX12_readAsk_33 : decode cX12_readAsk 33 = .ok (.aload_n 0, 1) := by decide +kernel
theorem dX12_readAsk_34 : decode cX12_readAsk 34 = .ok (.invokevirtual 273, 3) := by decide +kernel
theorem dX12_readAsk_37 : decode cX12_readAsk 37 = .ok (.ifCond .lt 12, 3) := by decide +kernel
theorem dX12_readAsk_40 : decode cX12_readAsk 40 = .ok (.aload_n 0, 1) := by decide +kernel
theorem dX12_readAsk_41 : decode cX12_readAsk 41 = .ok (.iconst 3, 1) := by decide +kernel
theorem dX12_readAsk_42 : decode cX12_readAsk 42 = .ok (.aload_n 0, 1) := by decide +kernel
theorem dX12_readAsk_43 : decode cX12_readAsk 43 = .ok (.getfield 106, 3) := by decide +kernel
theorem dX12_readAsk_46 : decode cX12_readAsk 46 = .ok (.invokevirtual 218, 3) := by decide +kernel
theorem dX12_readAsk_49 : decode cX12_readAsk 49 = .ok (.aload_n 0, 1) := by decide +kernel
theorem dX12_readAsk_50 : decode cX12_readAsk 50 = .ok (.getfield 212, 3) := by decide +kernel
theorem dX12_readAsk_53 : decode cX12_readAsk 53 = .ok (.ifCond .le 4, 3) := by decide +kernel
theorem dX12_readAsk_56 : decode cX12_readAsk 56 = .ok (.return_, 1) := by decide +kernel
theorem dX12_readAsk_57 : decode cX12_readAsk 57 = .ok (.aload_n 0, 1) := by decide +kernel
theorem dX12_readAsk_58 : decode cX12_readAsk 58 = .ok (.getfield 41, 3) := by decide +kernel
theorem dX12_readAsk_61 : decode cX12_readAsk 61 = .ok (.iload_n 1, 1) := by decide +kernel
theorem dX12_readAsk_62 : decode cX12_readAsk 62 = .ok (.aload_n 0, 1) := by decide +kernel
theorem dX12_readAsk_63 : decode cX12_readAsk 63 = .ok (.getfield 118, 3) := by decide +kernel
theorem dX12_readAsk_66 : decode cX12_readAsk 66 = .ok (.lastore, 1) := by decide +kernel
theorem dX12_readAsk_67 : decode cX12_readAsk 67 = .ok (.aload_n 0, 1) := by decide +kernel
theorem dX12_readAsk_68 : decode cX12_readAsk 68 = .ok (.getfield 35, 3) := by decide +kernel
theorem dX12_readAsk_71 : decode cX12_readAsk 71 = .ok (.sipush 1502, 3) := by decide +kernel
theorem dX12_readAsk_74 : decode cX12_readAsk 74 = .ok (.dup2, 1) := by decide +kernel
theorem dX12_readAsk_75 : decode cX12_readAsk 75 = .ok (.iaload, 1) := by decide +kernel
theorem dX12_readAsk_76 : decode cX12_readAsk 76 = .ok (.iconst 1, 1) := by decide +kernel
theorem dX12_readAsk_77 : decode cX12_readAsk 77 = .ok (.iadd, 1) := by decide +kernel
theorem dX12_readAsk_78 : decode cX12_readAsk 78 = .ok (.iastore, 1) := by decide +kernel
theorem dX12_readAsk_79 : decode cX12_readAsk 79 = .ok (.aload_n 0, 1) := by decide +kernel
theorem dX12_readAsk_80 : decode cX12_readAsk 80 = .ok (.invokevirtual 222, 3) := by decide +kernel
theorem dX12_readAsk_83 : decode cX12_readAsk 83 = .ok (.return_, 1) := by decide +kernel
def F_X12_readAsk (w : Nat) (M : z_Mem) : Option (Unit × z_Mem) :=
  (F_X12_another w M (2 : Int32) (6 : Int32)).bind fun q1 =>
  if (q1.2.1 137 12) = (0 : Int32) then
  (F_X12_isName w q1.2).bind fun q22 =>
  if q22.1 = true then
  if (q22.2.1 137 12) = (0 : Int32) then
  (F_X12_named w q22.2).bind fun q30 =>
  if q30.1 < (0 : Int32) then
  if (q30.2.1 137 12) ≤ (0 : Int32) then
  if q1.1 < 0 ∨ 6 ≤ q1.1.toNatClampNeg then none else
  (F_X12_advance w (z_wI (z_wL q30.2 144 q1.1.toNatClampNeg (q30.2.2 137 19)) 142 1502 ((q30.2.1 142 1502) + (1 : Int32)))).bind fun q35 =>
  some ((), q35.2)
  else
  some ((), q30.2)
  else
  (F_X12_fail w q30.2 (3 : Int32) (q30.2.1 137 15)).bind fun q37 =>
  if (q37.2.1 137 12) ≤ (0 : Int32) then
  if q1.1 < 0 ∨ 6 ≤ q1.1.toNatClampNeg then none else
  (F_X12_advance w (z_wI (z_wL q37.2 144 q1.1.toNatClampNeg (q37.2.2 137 19)) 142 1502 ((q37.2.1 142 1502) + (1 : Int32)))).bind fun q41 =>
  some ((), q41.2)
  else
  some ((), q37.2)
  else
  if (q22.2.1 137 12) ≤ (0 : Int32) then
  if q1.1 < 0 ∨ 6 ≤ q1.1.toNatClampNeg then none else
  (F_X12_advance w (z_wI (z_wL q22.2 144 q1.1.toNatClampNeg (q22.2.2 137 19)) 142 1502 ((q22.2.1 142 1502) + (1 : Int32)))).bind fun q28 =>
  some ((), q28.2)
  else
  some ((), q22.2)
  else
  (F_X12_amiss w q22.2).bind fun q43 =>
  if (q43.2.1 137 12) = (0 : Int32) then
  (F_X12_named w q43.2).bind fun q50 =>
  if q50.1 < (0 : Int32) then
  if (q50.2.1 137 12) ≤ (0 : Int32) then
  if q1.1 < 0 ∨ 6 ≤ q1.1.toNatClampNeg then none else
  (F_X12_advance w (z_wI (z_wL q50.2 144 q1.1.toNatClampNeg (q50.2.2 137 19)) 142 1502 ((q50.2.1 142 1502) + (1 : Int32)))).bind fun q55 =>
  some ((), q55.2)
  else
  some ((), q50.2)
  else
  (F_X12_fail w q50.2 (3 : Int32) (q50.2.1 137 15)).bind fun q57 =>
  if (q57.2.1 137 12) ≤ (0 : Int32) then
  if q1.1 < 0 ∨ 6 ≤ q1.1.toNatClampNeg then none else
  (F_X12_advance w (z_wI (z_wL q57.2 144 q1.1.toNatClampNeg (q57.2.2 137 19)) 142 1502 ((q57.2.1 142 1502) + (1 : Int32)))).bind fun q61 =>
  some ((), q61.2)
  else
  some ((), q57.2)
  else
  if (q43.2.1 137 12) ≤ (0 : Int32) then
  if q1.1 < 0 ∨ 6 ≤ q1.1.toNatClampNeg then none else
  (F_X12_advance w (z_wI (z_wL q43.2 144 q1.1.toNatClampNeg (q43.2.2 137 19)) 142 1502 ((q43.2.1 142 1502) + (1 : Int32)))).bind fun q48 =>
  some ((), q48.2)
  else
  some ((), q43.2)
  else
  if (q1.2.1 137 12) = (0 : Int32) then
  (F_X12_named w q1.2).bind fun q9 =>
  if q9.1 < (0 : Int32) then
  if (q9.2.1 137 12) ≤ (0 : Int32) then
  if q1.1 < 0 ∨ 6 ≤ q1.1.toNatClampNeg then none else
  (F_X12_advance w (z_wI (z_wL q9.2 144 q1.1.toNatClampNeg (q9.2.2 137 19)) 142 1502 ((q9.2.1 142 1502) + (1 : Int32)))).bind fun q14 =>
  some ((), q14.2)
  else
  some ((), q9.2)
  else
  (F_X12_fail w q9.2 (3 : Int32) (q9.2.1 137 15)).bind fun q16 =>
  if (q16.2.1 137 12) ≤ (0 : Int32) then
  if q1.1 < 0 ∨ 6 ≤ q1.1.toNatClampNeg then none else
  (F_X12_advance w (z_wI (z_wL q16.2 144 q1.1.toNatClampNeg (q16.2.2 137 19)) 142 1502 ((q16.2.1 142 1502) + (1 : Int32)))).bind fun q20 =>
  some ((), q20.2)
  else
  some ((), q16.2)
  else
  if (q1.2.1 137 12) ≤ (0 : Int32) then
  if q1.1 < 0 ∨ 6 ≤ q1.1.toNatClampNeg then none else
  (F_X12_advance w (z_wI (z_wL q1.2 144 q1.1.toNatClampNeg (q1.2.2 137 19)) 142 1502 ((q1.2.1 142 1502) + (1 : Int32)))).bind fun q7 =>
  some ((), q7.2)
  else
  some ((), q1.2)
set_option maxHeartbeats 4000000 in
theorem A_X12_readAsk {w : Nat} {M : z_Mem} {r : Unit} {M' : z_Mem} {Q : Option Value → z_Mem → Prop} (h : F_X12_readAsk w M = some (r, M')) (hq : Q none M') : z_Cl 5 mX12_readAsk [.ref 139] M Q := by
  refine g_in (ls := [some (.ref 139), none]) rfl ?_
  unfold F_X12_readAsk at h
  refine g_aload_n dX12_readAsk_0 rfl rfl ?_
  refine g_iconst (v := (2 : Int32)) dX12_readAsk_1 (by decide) ?_
  refine g_bipush (v := (6 : Int32)) dX12_readAsk_2 (by decide) ?_
  obtain ⟨q1, e2, h⟩ := z_bd h
  refine g_callV (a := 137) (as := [.int (2 : Int32), .int (6 : Int32)]) (rest := []) (c := mX12_another) (k1 := 3) dX12_readAsk_4 rfl rfl rfl sh_137 rfl rfl (Nat.le_of_ble_eq_true rfl) (Nat.le_of_ble_eq_true rfl) (by decide) ?_
  refine A_X12_another e2 ?_
  show z_G none 5 mX12_readAsk 7 [some (.ref 139), none] [.int q1.1] q1.2 Q
  refine g_istore_n (ls' := [some (.ref 139), some (.int q1.1)]) dX12_readAsk_7 rfl (Nat.le_of_ble_eq_true rfl) rfl ?_
  refine g_aload_n dX12_readAsk_8 rfl rfl ?_
  refine g_get (a := 137) (v := .int (q1.2.1 137 12)) dX12_readAsk_9 f_12_212 sh_137 rfl rfl ?_
  refine g_if_ne (t := 26) dX12_readAsk_12 (by decide) (fun c3 => ?_) (fun c3 => ?_)
  · replace h := z_iff c3 h
    refine g_aload_n dX12_readAsk_26 rfl rfl ?_
    refine g_get (a := 137) (v := .int (q1.2.1 137 12)) dX12_readAsk_27 f_12_212 sh_137 rfl rfl ?_
    refine g_if_ne (t := 49) dX12_readAsk_30 (by decide) (fun c4 => ?_) (fun c4 => ?_)
    · replace h := z_iff c4 h
      refine g_aload_n dX12_readAsk_49 rfl rfl ?_
      refine g_get (a := 137) (v := .int (q1.2.1 137 12)) dX12_readAsk_50 f_12_212 sh_137 rfl rfl ?_
      refine g_if_le (t := 57) dX12_readAsk_53 (by decide) (fun c5 => ?_) (fun c5 => ?_)
      · replace h := z_ift c5 h
        refine g_aload_n dX12_readAsk_57 rfl rfl ?_
        refine g_get (a := 137) (v := .ref 146) dX12_readAsk_58 f_12_41 sh_137 rfl rfl ?_
        refine g_iload_n dX12_readAsk_61 rfl rfl ?_
        refine g_aload_n dX12_readAsk_62 rfl rfl ?_
        refine g_get (a := 137) (v := .long (q1.2.2 137 19)) dX12_readAsk_63 f_12_118 sh_137 rfl rfl ?_
        by_cases g6 : q1.1 < 0 ∨ 6 ≤ q1.1.toNatClampNeg
        · rw [if_pos g6] at h; cases h
        replace h := z_iff g6 h
        refine g_last (a := 144) dX12_readAsk_66 sh_144 g6 ?_
        refine g_aload_n dX12_readAsk_67 rfl rfl ?_
        refine g_get (a := 137) (v := .ref 144) dX12_readAsk_68 f_12_35 sh_137 rfl rfl ?_
        refine g_sipush (v := (1502 : Int32)) dX12_readAsk_71 (by decide) ?_
        refine g_dup2 dX12_readAsk_74 rfl rfl ?_
        refine g_ialN (a := 142) (j := 1502) (v := q1.2.1 142 1502) dX12_readAsk_75 sh_142 rfl (by decide) (by simp [z_wI, z_wL, z_wLs, upd, vp_updL]) ?_
        refine g_iconst (v := (1 : Int32)) dX12_readAsk_76 (by decide) ?_
        refine g_iadd dX12_readAsk_77 ?_
        refine g_iasN (a := 142) (j := 1502) dX12_readAsk_78 sh_142 rfl (by decide) ?_
        refine g_aload_n dX12_readAsk_79 rfl rfl ?_
        obtain ⟨q7, e8, h⟩ := z_bd h
        refine g_callV (a := 137) (as := []) (rest := []) (c := mX12_advance) (k1 := 1) dX12_readAsk_80 rfl rfl rfl sh_137 rfl rfl (Nat.le_of_ble_eq_true rfl) (Nat.le_of_ble_eq_true rfl) (by decide) ?_
        refine A_X12_advance e8 ?_
        show z_G none 5 mX12_readAsk 83 [some (.ref 139), some (.int q1.1)] [] q7.2 Q
        cases h
        exact g_vret dX12_readAsk_83 rfl hq
      · replace h := z_iff c5 h
        cases h
        exact g_vret dX12_readAsk_56 rfl hq
    · replace h := z_ift c4 h
      refine g_aload_n dX12_readAsk_33 rfl rfl ?_
      obtain ⟨q9, e10, h⟩ := z_bd h
      refine g_callV (a := 137) (as := []) (rest := []) (c := mX12_named) (k1 := 0) dX12_readAsk_34 rfl rfl rfl sh_137 rfl rfl (Nat.le_of_ble_eq_true rfl) (Nat.le_of_ble_eq_true rfl) (by decide) ?_
      refine A_X12_named e10 ?_
      show z_G none 5 mX12_readAsk 37 [some (.ref 139), some (.int q1.1)] [.int q9.1] q9.2 Q
      refine g_if_lt (t := 49) dX12_readAsk_37 (by decide) (fun c11 => ?_) (fun c11 => ?_)
      · replace h := z_ift c11 h
        refine g_aload_n dX12_readAsk_49 rfl rfl ?_
        refine g_get (a := 137) (v := .int (q9.2.1 137 12)) dX12_readAsk_50 f_12_212 sh_137 rfl rfl ?_
        refine g_if_le (t := 57) dX12_readAsk_53 (by decide) (fun c12 => ?_) (fun c12 => ?_)
        · replace h := z_ift c12 h
          refine g_aload_n dX12_readAsk_57 rfl rfl ?_
          refine g_get (a := 137) (v := .ref 146) dX12_readAsk_58 f_12_41 sh_137 rfl rfl ?_
          refine g_iload_n dX12_readAsk_61 rfl rfl ?_
          refine g_aload_n dX12_readAsk_62 rfl rfl ?_
          refine g_get (a := 137) (v := .long (q9.2.2 137 19)) dX12_readAsk_63 f_12_118 sh_137 rfl rfl ?_
          by_cases g13 : q1.1 < 0 ∨ 6 ≤ q1.1.toNatClampNeg
          · rw [if_pos g13] at h; cases h
          replace h := z_iff g13 h
          refine g_last (a := 144) dX12_readAsk_66 sh_144 g13 ?_
          refine g_aload_n dX12_readAsk_67 rfl rfl ?_
          refine g_get (a := 137) (v := .ref 144) dX12_readAsk_68 f_12_35 sh_137 rfl rfl ?_
          refine g_sipush (v := (1502 : Int32)) dX12_readAsk_71 (by decide) ?_
          refine g_dup2 dX12_readAsk_74 rfl rfl ?_
          refine g_ialN (a := 142) (j := 1502) (v := q9.2.1 142 1502) dX12_readAsk_75 sh_142 rfl (by decide) (by simp [z_wI, z_wL, z_wLs, upd, vp_updL]) ?_
          refine g_iconst (v := (1 : Int32)) dX12_readAsk_76 (by decide) ?_
          refine g_iadd dX12_readAsk_77 ?_
          refine g_iasN (a := 142) (j := 1502) dX12_readAsk_78 sh_142 rfl (by decide) ?_
          refine g_aload_n dX12_readAsk_79 rfl rfl ?_
          obtain ⟨q14, e15, h⟩ := z_bd h
          refine g_callV (a := 137) (as := []) (rest := []) (c := mX12_advance) (k1 := 1) dX12_readAsk_80 rfl rfl rfl sh_137 rfl rfl (Nat.le_of_ble_eq_true rfl) (Nat.le_of_ble_eq_true rfl) (by decide) ?_
          refine A_X12_advance e15 ?_
          show z_G none 5 mX12_readAsk 83 [some (.ref 139), some (.int q1.1)] [] q14.2 Q
          cases h
          exact g_vret dX12_readAsk_83 rfl hq
        · replace h := z_iff c12 h
          cases h
          exact g_vret dX12_readAsk_56 rfl hq
      · replace h := z_iff c11 h
        refine g_aload_n dX12_readAsk_40 rfl rfl ?_
        refine g_iconst (v := (3 : Int32)) dX12_readAsk_41 (by decide) ?_
        refine g_aload_n dX12_readAsk_42 rfl rfl ?_
        refine g_get (a := 137) (v := .int (q9.2.1 137 15)) dX12_readAsk_43 f_12_106 sh_137 rfl rfl ?_
        obtain ⟨q16, e17, h⟩ := z_bd h
        refine g_callV (a := 137) (as := [.int (3 : Int32), .int (q9.2.1 137 15)]) (rest := []) (c := mX12_fail) (k1 := 0) dX12_readAsk_46 rfl rfl rfl sh_137 rfl rfl (Nat.le_of_ble_eq_true rfl) (Nat.le_of_ble_eq_true rfl) (by decide) ?_
        refine A_X12_fail e17 ?_
        show z_G none 5 mX12_readAsk 49 [some (.ref 139), some (.int q1.1)] [] q16.2 Q
        refine g_aload_n dX12_readAsk_49 rfl rfl ?_
        refine g_get (a := 137) (v := .int (q16.2.1 137 12)) dX12_readAsk_50 f_12_212 sh_137 rfl rfl ?_
        refine g_if_le (t := 57) dX12_readAsk_53 (by decide) (fun c18 => ?_) (fun c18 => ?_)
        · replace h := z_ift c18 h
          refine g_aload_n dX12_readAsk_57 rfl rfl ?_
          refine g_get (a := 137) (v := .ref 146) dX12_readAsk_58 f_12_41 sh_137 rfl rfl ?_
          refine g_iload_n dX12_readAsk_61 rfl rfl ?_
          refine g_aload_n dX12_readAsk_62 rfl rfl ?_
          refine g_get (a := 137) (v := .long (q16.2.2 137 19)) dX12_readAsk_63 f_12_118 sh_137 rfl rfl ?_
          by_cases g19 : q1.1 < 0 ∨ 6 ≤ q1.1.toNatClampNeg
          · rw [if_pos g19] at h; cases h
          replace h := z_iff g19 h
          refine g_last (a := 144) dX12_readAsk_66 sh_144 g19 ?_
          refine g_aload_n dX12_readAsk_67 rfl rfl ?_
          refine g_get (a := 137) (v := .ref 144) dX12_readAsk_68 f_12_35 sh_137 rfl rfl ?_
          refine g_sipush (v := (1502 : Int32)) dX12_readAsk_71 (by decide) ?_
          refine g_dup2 dX12_readAsk_74 rfl rfl ?_
          refine g_ialN (a := 142) (j := 1502) (v := q16.2.1 142 1502) dX12_readAsk_75 sh_142 rfl (by decide) (by simp [z_wI, z_wL, z_wLs, upd, vp_updL]) ?_
          refine g_iconst (v := (1 : Int32)) dX12_readAsk_76 (by decide) ?_
          refine g_iadd dX12_readAsk_77 ?_
          refine g_iasN (a := 142) (j := 1502) dX12_readAsk_78 sh_142 rfl (by decide) ?_
          refine g_aload_n dX12_readAsk_79 rfl rfl ?_
          obtain ⟨q20, e21, h⟩ := z_bd h
          refine g_callV (a := 137) (as := []) (rest := []) (c := mX12_advance) (k1 := 1) dX12_readAsk_80 rfl rfl rfl sh_137 rfl rfl (Nat.le_of_ble_eq_true rfl) (Nat.le_of_ble_eq_true rfl) (by decide) ?_
          refine A_X12_advance e21 ?_
          show z_G none 5 mX12_readAsk 83 [some (.ref 139), some (.int q1.1)] [] q20.2 Q
          cases h
          exact g_vret dX12_readAsk_83 rfl hq
        · replace h := z_iff c18 h
          cases h
          exact g_vret dX12_readAsk_56 rfl hq
  · replace h := z_ift c3 h
    refine g_aload_n dX12_readAsk_15 rfl rfl ?_
    obtain ⟨q22, e23, h⟩ := z_bd h
    refine g_callV (a := 137) (as := []) (rest := []) (c := mX12_isName) (k1 := 4) dX12_readAsk_16 rfl rfl rfl sh_137 rfl rfl (Nat.le_of_ble_eq_true rfl) (Nat.le_of_ble_eq_true rfl) (by decide) ?_
    refine A_X12_isName e23 ?_
    show z_G none 5 mX12_readAsk 19 [some (.ref 139), some (.int q1.1)] [.int (z_tb q22.1)] q22.2 Q
    refine g_if_ne (t := 26) dX12_readAsk_19 (by decide) (fun c24 => ?_) (fun c24 => ?_)
    · replace h := z_ift (z_tbn.mp c24) h
      refine g_aload_n dX12_readAsk_26 rfl rfl ?_
      refine g_get (a := 137) (v := .int (q22.2.1 137 12)) dX12_readAsk_27 f_12_212 sh_137 rfl rfl ?_
      refine g_if_ne (t := 49) dX12_readAsk_30 (by decide) (fun c25 => ?_) (fun c25 => ?_)
      · replace h := z_iff c25 h
        refine g_aload_n dX12_readAsk_49 rfl rfl ?_
        refine g_get (a := 137) (v := .int (q22.2.1 137 12)) dX12_readAsk_50 f_12_212 sh_137 rfl rfl ?_
        refine g_if_le (t := 57) dX12_readAsk_53 (by decide) (fun c26 => ?_) (fun c26 => ?_)
        · replace h := z_ift c26 h
          refine g_aload_n dX12_readAsk_57 rfl rfl ?_
          refine g_get (a := 137) (v := .ref 146) dX12_readAsk_58 f_12_41 sh_137 rfl rfl ?_
          refine g_iload_n dX12_readAsk_61 rfl rfl ?_
          refine g_aload_n dX12_readAsk_62 rfl rfl ?_
          refine g_get (a := 137) (v := .long (q22.2.2 137 19)) dX12_readAsk_63 f_12_118 sh_137 rfl rfl ?_
          by_cases g27 : q1.1 < 0 ∨ 6 ≤ q1.1.toNatClampNeg
          · rw [if_pos g27] at h; cases h
          replace h := z_iff g27 h
          refine g_last (a := 144) dX12_readAsk_66 sh_144 g27 ?_
          refine g_aload_n dX12_readAsk_67 rfl rfl ?_
          refine g_get (a := 137) (v := .ref 144) dX12_readAsk_68 f_12_35 sh_137 rfl rfl ?_
          refine g_sipush (v := (1502 : Int32)) dX12_readAsk_71 (by decide) ?_
          refine g_dup2 dX12_readAsk_74 rfl rfl ?_
          refine g_ialN (a := 142) (j := 1502) (v := q22.2.1 142 1502) dX12_readAsk_75 sh_142 rfl (by decide) (by simp [z_wI, z_wL, z_wLs, upd, vp_updL]) ?_
          refine g_iconst (v := (1 : Int32)) dX12_readAsk_76 (by decide) ?_
          refine g_iadd dX12_readAsk_77 ?_
          refine g_iasN (a := 142) (j := 1502) dX12_readAsk_78 sh_142 rfl (by decide) ?_
          refine g_aload_n dX12_readAsk_79 rfl rfl ?_
          obtain ⟨q28, e29, h⟩ := z_bd h
          refine g_callV (a := 137) (as := []) (rest := []) (c := mX12_advance) (k1 := 1) dX12_readAsk_80 rfl rfl rfl sh_137 rfl rfl (Nat.le_of_ble_eq_true rfl) (Nat.le_of_ble_eq_true rfl) (by decide) ?_
          refine A_X12_advance e29 ?_
          show z_G none 5 mX12_readAsk 83 [some (.ref 139), some (.int q1.1)] [] q28.2 Q
          cases h
          exact g_vret dX12_readAsk_83 rfl hq
        · replace h := z_iff c26 h
          cases h
          exact g_vret dX12_readAsk_56 rfl hq
      · replace h := z_ift c25 h
        refine g_aload_n dX12_readAsk_33 rfl rfl ?_
        obtain ⟨q30, e31, h⟩ := z_bd h
        refine g_callV (a := 137) (as := []) (rest := []) (c := mX12_named) (k1 := 0) dX12_readAsk_34 rfl rfl rfl sh_137 rfl rfl (Nat.le_of_ble_eq_true rfl) (Nat.le_of_ble_eq_true rfl) (by decide) ?_
        refine A_X12_named e31 ?_
        show z_G none 5 mX12_readAsk 37 [some (.ref 139), some (.int q1.1)] [.int q30.1] q30.2 Q
        refine g_if_lt (t := 49) dX12_readAsk_37 (by decide) (fun c32 => ?_) (fun c32 => ?_)
        · replace h := z_ift c32 h
          refine g_aload_n dX12_readAsk_49 rfl rfl ?_
          refine g_get (a := 137) (v := .int (q30.2.1 137 12)) dX12_readAsk_50 f_12_212 sh_137 rfl rfl ?_
          refine g_if_le (t := 57) dX12_readAsk_53 (by decide) (fun c33 => ?_) (fun c33 => ?_)
          · replace h := z_ift c33 h
            refine g_aload_n dX12_readAsk_57 rfl rfl ?_
            refine g_get (a := 137) (v := .ref 146) dX12_readAsk_58 f_12_41 sh_137 rfl rfl ?_
            refine g_iload_n dX12_readAsk_61 rfl rfl ?_
            refine g_aload_n dX12_readAsk_62 rfl rfl ?_
            refine g_get (a := 137) (v := .long (q30.2.2 137 19)) dX12_readAsk_63 f_12_118 sh_137 rfl rfl ?_
            by_cases g34 : q1.1 < 0 ∨ 6 ≤ q1.1.toNatClampNeg
            · rw [if_pos g34] at h; cases h
            replace h := z_iff g34 h
            refine g_last (a := 144) dX12_readAsk_66 sh_144 g34 ?_
            refine g_aload_n dX12_readAsk_67 rfl rfl ?_
            refine g_get (a := 137) (v := .ref 144) dX12_readAsk_68 f_12_35 sh_137 rfl rfl ?_
            refine g_sipush (v := (1502 : Int32)) dX12_readAsk_71 (by decide) ?_
            refine g_dup2 dX12_readAsk_74 rfl rfl ?_
            refine g_ialN (a := 142) (j := 1502) (v := q30.2.1 142 1502) dX12_readAsk_75 sh_142 rfl (by decide) (by simp [z_wI, z_wL, z_wLs, upd, vp_updL]) ?_
            refine g_iconst (v := (1 : Int32)) dX12_readAsk_76 (by decide) ?_
            refine g_iadd dX12_readAsk_77 ?_
            refine g_iasN (a := 142) (j := 1502) dX12_readAsk_78 sh_142 rfl (by decide) ?_
            refine g_aload_n dX12_readAsk_79 rfl rfl ?_
            obtain ⟨q35, e36, h⟩ := z_bd h
            refine g_callV (a := 137) (as := []) (rest := []) (c := mX12_advance) (k1 := 1) dX12_readAsk_80 rfl rfl rfl sh_137 rfl rfl (Nat.le_of_ble_eq_true rfl) (Nat.le_of_ble_eq_true rfl) (by decide) ?_
            refine A_X12_advance e36 ?_
            show z_G none 5 mX12_readAsk 83 [some (.ref 139), some (.int q1.1)] [] q35.2 Q
            cases h
            exact g_vret dX12_readAsk_83 rfl hq
          · replace h := z_iff c33 h
            cases h
            exact g_vret dX12_readAsk_56 rfl hq
        · replace h := z_iff c32 h
          refine g_aload_n dX12_readAsk_40 rfl rfl ?_
          refine g_iconst (v := (3 : Int32)) dX12_readAsk_41 (by decide) ?_
          refine g_aload_n dX12_readAsk_42 rfl rfl ?_
          refine g_get (a := 137) (v := .int (q30.2.1 137 15)) dX12_readAsk_43 f_12_106 sh_137 rfl rfl ?_
          obtain ⟨q37, e38, h⟩ := z_bd h
          refine g_callV (a := 137) (as := [.int (3 : Int32), .int (q30.2.1 137 15)]) (rest := []) (c := mX12_fail) (k1 := 0) dX12_readAsk_46 rfl rfl rfl sh_137 rfl rfl (Nat.le_of_ble_eq_true rfl) (Nat.le_of_ble_eq_true rfl) (by decide) ?_
          refine A_X12_fail e38 ?_
          show z_G none 5 mX12_readAsk 49 [some (.ref 139), some (.int q1.1)] [] q37.2 Q
          refine g_aload_n dX12_readAsk_49 rfl rfl ?_
          refine g_get (a := 137) (v := .int (q37.2.1 137 12)) dX12_readAsk_50 f_12_212 sh_137 rfl rfl ?_
          refine g_if_le (t := 57) dX12_readAsk_53 (by decide) (fun c39 => ?_) (fun c39 => ?_)
          · replace h := z_ift c39 h
            refine g_aload_n dX12_readAsk_57 rfl rfl ?_
            refine g_get (a := 137) (v := .ref 146) dX12_readAsk_58 f_12_41 sh_137 rfl rfl ?_
            refine g_iload_n dX12_readAsk_61 rfl rfl ?_
            refine g_aload_n dX12_readAsk_62 rfl rfl ?_
            refine g_get (a := 137) (v := .long (q37.2.2 137 19)) dX12_readAsk_63 f_12_118 sh_137 rfl rfl ?_
            by_cases g40 : q1.1 < 0 ∨ 6 ≤ q1.1.toNatClampNeg
            · rw [if_pos g40] at h; cases h
            replace h := z_iff g40 h
            refine g_last (a := 144) dX12_readAsk_66 sh_144 g40 ?_
            refine g_aload_n dX12_readAsk_67 rfl rfl ?_
            refine g_get (a := 137) (v := .ref 144) dX12_readAsk_68 f_12_35 sh_137 rfl rfl ?_
            refine g_sipush (v := (1502 : Int32)) dX12_readAsk_71 (by decide) ?_
            refine g_dup2 dX12_readAsk_74 rfl rfl ?_
            refine g_ialN (a := 142) (j := 1502) (v := q37.2.1 142 1502) dX12_readAsk_75 sh_142 rfl (by decide) (by simp [z_wI, z_wL, z_wLs, upd, vp_updL]) ?_
            refine g_iconst (v := (1 : Int32)) dX12_readAsk_76 (by decide) ?_
            refine g_iadd dX12_readAsk_77 ?_
            refine g_iasN (a := 142) (j := 1502) dX12_readAsk_78 sh_142 rfl (by decide) ?_
            refine g_aload_n dX12_readAsk_79 rfl rfl ?_
            obtain ⟨q41, e42, h⟩ := z_bd h
            refine g_callV (a := 137) (as := []) (rest := []) (c := mX12_advance) (k1 := 1) dX12_readAsk_80 rfl rfl rfl sh_137 rfl rfl (Nat.le_of_ble_eq_true rfl) (Nat.le_of_ble_eq_true rfl) (by decide) ?_
            refine A_X12_advance e42 ?_
            show z_G none 5 mX12_readAsk 83 [some (.ref 139), some (.int q1.1)] [] q41.2 Q
            cases h
            exact g_vret dX12_readAsk_83 rfl hq
          · replace h := z_iff c39 h
            cases h
            exact g_vret dX12_readAsk_56 rfl hq
    · replace h := z_iff (z_tb0.mp c24) h
      refine g_aload_n dX12_readAsk_22 rfl rfl ?_
      obtain ⟨q43, e44, h⟩ := z_bd h
      refine g_callV (a := 137) (as := []) (rest := []) (c := mX12_amiss) (k1 := 1) dX12_readAsk_23 rfl rfl rfl sh_137 rfl rfl (Nat.le_of_ble_eq_true rfl) (Nat.le_of_ble_eq_true rfl) (by decide) ?_
      refine A_X12_amiss e44 ?_
      show z_G none 5 mX12_readAsk 26 [some (.ref 139), some (.int q1.1)] [] q43.2 Q
      refine g_aload_n dX12_readAsk_26 rfl rfl ?_
      refine g_get (a := 137) (v := .int (q43.2.1 137 12)) dX12_readAsk_27 f_12_212 sh_137 rfl rfl ?_
      refine g_if_ne (t := 49) dX12_readAsk_30 (by decide) (fun c45 => ?_) (fun c45 => ?_)
      · replace h := z_iff c45 h
        refine g_aload_n dX12_readAsk_49 rfl rfl ?_
        refine g_get (a := 137) (v := .int (q43.2.1 137 12)) dX12_readAsk_50 f_12_212 sh_137 rfl rfl ?_
        refine g_if_le (t := 57) dX12_readAsk_53 (by decide) (fun c46 => ?_) (fun c46 => ?_)
        · replace h := z_ift c46 h
          refine g_aload_n dX12_readAsk_57 rfl rfl ?_
          refine g_get (a := 137) (v := .ref 146) dX12_readAsk_58 f_12_41 sh_137 rfl rfl ?_
          refine g_iload_n dX12_readAsk_61 rfl rfl ?_
          refine g_aload_n dX12_readAsk_62 rfl rfl ?_
          refine g_get (a := 137) (v := .long (q43.2.2 137 19)) dX12_readAsk_63 f_12_118 sh_137 rfl rfl ?_
          by_cases g47 : q1.1 < 0 ∨ 6 ≤ q1.1.toNatClampNeg
          · rw [if_pos g47] at h; cases h
          replace h := z_iff g47 h
          refine g_last (a := 144) dX12_readAsk_66 sh_144 g47 ?_
          refine g_aload_n dX12_readAsk_67 rfl rfl ?_
          refine g_get (a := 137) (v := .ref 144) dX12_readAsk_68 f_12_35 sh_137 rfl rfl ?_
          refine g_sipush (v := (1502 : Int32)) dX12_readAsk_71 (by decide) ?_
          refine g_dup2 dX12_readAsk_74 rfl rfl ?_
          refine g_ialN (a := 142) (j := 1502) (v := q43.2.1 142 1502) dX12_readAsk_75 sh_142 rfl (by decide) (by simp [z_wI, z_wL, z_wLs, upd, vp_updL]) ?_
          refine g_iconst (v := (1 : Int32)) dX12_readAsk_76 (by decide) ?_
          refine g_iadd dX12_readAsk_77 ?_
          refine g_iasN (a := 142) (j := 1502) dX12_readAsk_78 sh_142 rfl (by decide) ?_
          refine g_aload_n dX12_readAsk_79 rfl rfl ?_
          obtain ⟨q48, e49, h⟩ := z_bd h
          refine g_callV (a := 137) (as := []) (rest := []) (c := mX12_advance) (k1 := 1) dX12_readAsk_80 rfl rfl rfl sh_137 rfl rfl (Nat.le_of_ble_eq_true rfl) (Nat.le_of_ble_eq_true rfl) (by decide) ?_
          refine A_X12_advance e49 ?_
          show z_G none 5 mX12_readAsk 83 [some (.ref 139), some (.int q1.1)] [] q48.2 Q
          cases h
          exact g_vret dX12_readAsk_83 rfl hq
        · replace h := z_iff c46 h
          cases h
          exact g_vret dX12_readAsk_56 rfl hq
      · replace h := z_ift c45 h
        refine g_aload_n dX12_readAsk_33 rfl rfl ?_
        obtain ⟨q50, e51, h⟩ := z_bd h
        refine g_callV (a := 137) (as := []) (rest := []) (c := mX12_named) (k1 := 0) dX12_readAsk_34 rfl rfl rfl sh_137 rfl rfl (Nat.le_of_ble_eq_true rfl) (Nat.le_of_ble_eq_true rfl) (by decide) ?_
        refine A_X12_named e51 ?_
        show z_G none 5 mX12_readAsk 37 [some (.ref 139), some (.int q1.1)] [.int q50.1] q50.2 Q
        refine g_if_lt (t := 49) dX12_readAsk_37 (by decide) (fun c52 => ?_) (fun c52 => ?_)
        · replace h := z_ift c52 h
          refine g_aload_n dX12_readAsk_49 rfl rfl ?_
          refine g_get (a := 137) (v := .int (q50.2.1 137 12)) dX12_readAsk_50 f_12_212 sh_137 rfl rfl ?_
          refine g_if_le (t := 57) dX12_readAsk_53 (by decide) (fun c53 => ?_) (fun c53 => ?_)
          · replace h := z_ift c53 h
            refine g_aload_n dX12_readAsk_57 rfl rfl ?_
            refine g_get (a := 137) (v := .ref 146) dX12_readAsk_58 f_12_41 sh_137 rfl rfl ?_
            refine g_iload_n dX12_readAsk_61 rfl rfl ?_
            refine g_aload_n dX12_readAsk_62 rfl rfl ?_
            refine g_get (a := 137) (v := .long (q50.2.2 137 19)) dX12_readAsk_63 f_12_118 sh_137 rfl rfl ?_
            by_cases g54 : q1.1 < 0 ∨ 6 ≤ q1.1.toNatClampNeg
            · rw [if_pos g54] at h; cases h
            replace h := z_iff g54 h
            refine g_last (a := 144) dX12_readAsk_66 sh_144 g54 ?_
            refine g_aload_n dX12_readAsk_67 rfl rfl ?_
            refine g_get (a := 137) (v := .ref 144) dX12_readAsk_68 f_12_35 sh_137 rfl rfl ?_
            refine g_sipush (v := (1502 : Int32)) dX12_readAsk_71 (by decide) ?_
            refine g_dup2 dX12_readAsk_74 rfl rfl ?_
            refine g_ialN (a := 142) (j := 1502) (v := q50.2.1 142 1502) dX12_readAsk_75 sh_142 rfl (by decide) (by simp [z_wI, z_wL, z_wLs, upd, vp_updL]) ?_
            refine g_iconst (v := (1 : Int32)) dX12_readAsk_76 (by decide) ?_
            refine g_iadd dX12_readAsk_77 ?_
            refine g_iasN (a := 142) (j := 1502) dX12_readAsk_78 sh_142 rfl (by decide) ?_
            refine g_aload_n dX12_readAsk_79 rfl rfl ?_
            obtain ⟨q55, e56, h⟩ := z_bd h
            refine g_callV (a := 137) (as := []) (rest := []) (c := mX12_advance) (k1 := 1) dX12_readAsk_80 rfl rfl rfl sh_137 rfl rfl (Nat.le_of_ble_eq_true rfl) (Nat.le_of_ble_eq_true rfl) (by decide) ?_
            refine A_X12_advance e56 ?_
            show z_G none 5 mX12_readAsk 83 [some (.ref 139), some (.int q1.1)] [] q55.2 Q
            cases h
            exact g_vret dX12_readAsk_83 rfl hq
          · replace h := z_iff c53 h
            cases h
            exact g_vret dX12_readAsk_56 rfl hq
        · replace h := z_iff c52 h
          refine g_aload_n dX12_readAsk_40 rfl rfl ?_
          refine g_iconst (v := (3 : Int32)) dX12_readAsk_41 (by decide) ?_
          refine g_aload_n dX12_readAsk_42 rfl rfl ?_
          refine g_get (a := 137) (v := .int (q50.2.1 137 15)) dX12_readAsk_43 f_12_106 sh_137 rfl rfl ?_
          obtain ⟨q57, e58, h⟩ := z_bd h
          refine g_callV (a := 137) (as := [.int (3 : Int32), .int (q50.2.1 137 15)]) (rest := []) (c := mX12_fail) (k1 := 0) dX12_readAsk_46 rfl rfl rfl sh_137 rfl rfl (Nat.le_of_ble_eq_true rfl) (Nat.le_of_ble_eq_true rfl) (by decide) ?_
          refine A_X12_fail e58 ?_
          show z_G none 5 mX12_readAsk 49 [some (.ref 139), some (.int q1.1)] [] q57.2 Q
          refine g_aload_n dX12_readAsk_49 rfl rfl ?_
          refine g_get (a := 137) (v := .int (q57.2.1 137 12)) dX12_readAsk_50 f_12_212 sh_137 rfl rfl ?_
          refine g_if_le (t := 57) dX12_readAsk_53 (by decide) (fun c59 => ?_) (fun c59 => ?_)
          · replace h := z_ift c59 h
            refine g_aload_n dX12_readAsk_57 rfl rfl ?_
            refine g_get (a := 137) (v := .ref 146) dX12_readAsk_58 f_12_41 sh_137 rfl rfl ?_
            refine g_iload_n dX12_readAsk_61 rfl rfl ?_
            refine g_aload_n dX12_readAsk_62 rfl rfl ?_
            refine g_get (a := 137) (v := .long (q57.2.2 137 19)) dX12_readAsk_63 f_12_118 sh_137 rfl rfl ?_
            by_cases g60 : q1.1 < 0 ∨ 6 ≤ q1.1.toNatClampNeg
            · rw [if_pos g60] at h; cases h
            replace h := z_iff g60 h
            refine g_last (a := 144) dX12_readAsk_66 sh_144 g60 ?_
            refine g_aload_n dX12_readAsk_67 rfl rfl ?_
            refine g_get (a := 137) (v := .ref 144) dX12_readAsk_68 f_12_35 sh_137 rfl rfl ?_
            refine g_sipush (v := (1502 : Int32)) dX12_readAsk_71 (by decide) ?_
            refine g_dup2 dX12_readAsk_74 rfl rfl ?_
            refine g_ialN (a := 142) (j := 1502) (v := q57.2.1 142 1502) dX12_readAsk_75 sh_142 rfl (by decide) (by simp [z_wI, z_wL, z_wLs, upd, vp_updL]) ?_
            refine g_iconst (v := (1 : Int32)) dX12_readAsk_76 (by decide) ?_
            refine g_iadd dX12_readAsk_77 ?_
            refine g_iasN (a := 142) (j := 1502) dX12_readAsk_78 sh_142 rfl (by decide) ?_
            refine g_aload_n dX12_readAsk_79 rfl rfl ?_
            obtain ⟨q61, e62, h⟩ := z_bd h
            refine g_callV (a := 137) (as := []) (rest := []) (c := mX12_advance) (k1 := 1) dX12_readAsk_80 rfl rfl rfl sh_137 rfl rfl (Nat.le_of_ble_eq_true rfl) (Nat.le_of_ble_eq_true rfl) (by decide) ?_
            refine A_X12_advance e62 ?_
            show z_G none 5 mX12_readAsk 83 [some (.ref 139), some (.int q1.1)] [] q61.2 Q
            cases h
            exact g_vret dX12_readAsk_83 rfl hq
          · replace h := z_iff c59 h
            cases h
            exact g_vret dX12_readAsk_56 rfl hq
