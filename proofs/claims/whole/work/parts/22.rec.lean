/-! ===== the methods that call themselves, and what calls them ===== -/
theorem dX5_bestPlay_0 : decode cX5_bestPlay 0 = .ok (.iload_n 3, 1) := by decide +kernel
theorem dX5_bestPlay_1 : decode cX5_bestPlay 1 = .ok (.ifCond .gt 10, 3) := by decide +kernel
theorem dX5_bestPlay_4 : decode cX5_bestPlay 4 = .ok (.aload_n 0, 1) := by decide +kernel
theorem dX5_bestPlay_5 : decode cX5_bestPlay 5 = .ok (.iload_n 1, 1) := by decide +kernel
theorem dX5_bestPlay_6 : decode cX5_bestPlay 6 = .ok (.iload_n 2, 1) := by decide +kernel
theorem dX5_bestPlay_7 : decode cX5_bestPlay 7 = .ok (.invokevirtual 118, 3) := by decide +kernel
theorem dX5_bestPlay_10 : decode cX5_bestPlay 10 = .ok (.ireturn, 1) := by decide +kernel
theorem dX5_bestPlay_11 : decode cX5_bestPlay 11 = .ok (.aload_n 0, 1) := by decide +kernel
theorem dX5_bestPlay_12 : decode cX5_bestPlay 12 = .ok (.iload_n 1, 1) := by decide +kernel
theorem dX5_bestPlay_13 : decode cX5_bestPlay 13 = .ok (.iload_n 2, 1) := by decide +kernel
theorem dX5_bestPlay_14 : decode cX5_bestPlay 14 = .ok (.iload_n 3, 1) := by decide +kernel
theorem dX5_bestPlay_15 : decode cX5_bestPlay 15 = .ok (.iconst 1, 1) := by decide +kernel
theorem dX5_bestPlay_16 : decode cX5_bestPlay 16 = .ok (.isub, 1) := by decide +kernel
theorem dX5_bestPlay_17 : decode cX5_bestPlay 17 = .ok (.iload 4, 2) := by decide +kernel
theorem dX5_bestPlay_19 : decode cX5_bestPlay 19 = .ok (.ifCond .ne 7, 3) := by decide +kernel
theorem dX5_bestPlay_22 : decode cX5_bestPlay 22 = .ok (.iconst 1, 1) := by decide +kernel
theorem dX5_bestPlay_23 : decode cX5_bestPlay 23 = .ok (.goto 4, 3) := by decide +kernel
theorem dX5_bestPlay_26 : decode cX5_bestPlay 26 = .ok (.iconst 0, 1) := by decide +kernel
theorem dX5_bestPlay_27 : decode cX5_bestPlay 27 = .ok (.iload 5, 2) := by decide +kernel
theorem dX5_bestPlay_29 : decode cX5_bestPlay 29 = .ok (.iload 6, 2) := by decide +kernel
theorem dX5_bestPlay_31 : decode cX5_bestPlay 31 = .ok (.invokestatic 114, 3) := by decide +kernel
theorem dX5_bestPlay_34 : decode cX5_bestPlay 34 = .ok (.istore 7, 2) := by decide +kernel
theorem dX5_bestPlay_36 : decode cX5_bestPlay 36 = .ok (.iconst 0, 1) := by decide +kernel
theorem dX5_bestPlay_37 : decode cX5_bestPlay 37 = .ok (.istore 8, 2) := by decide +kernel
theorem dX5_bestPlay_39 : decode cX5_bestPlay 39 = .ok (.iload 8, 2) := by decide +kernel
theorem dX5_bestPlay_41 : decode cX5_bestPlay 41 = .ok (.bipush 12, 2) := by decide +kernel
theorem dX5_bestPlay_43 : decode cX5_bestPlay 43 = .ok (.if_icmp .ge 148, 3) := by decide +kernel
theorem dX5_bestPlay_46 : decode cX5_bestPlay 46 = .ok (.iconst 1, 1) := by decide +kernel
theorem dX5_bestPlay_47 : decode cX5_bestPlay 47 = .ok (.iload 8, 2) := by decide +kernel
theorem dX5_bestPlay_49 : decode cX5_bestPlay 49 = .ok (.ishl, 1) := by decide +kernel
theorem dX5_bestPlay_50 : decode cX5_bestPlay 50 = .ok (.istore 9, 2) := by decide +kernel
theorem dX5_bestPlay_52 : decode cX5_bestPlay 52 = .ok (.iload 4, 2) := by decide +kernel
theorem dX5_bestPlay_54 : decode cX5_bestPlay 54 = .ok (.ifCond .eq 13, 3) := by decide +kernel
theorem dX5_bestPlay_57 : decode cX5_bestPlay 57 = .ok (.iload 5, 2) := by decide +kernel
theorem dX5_bestPlay_59 : decode cX5_bestPlay 59 = .ok (.iload 7, 2) := by decide +kernel
theorem dX5_bestPlay_61 : decode cX5_bestPlay 61 = .ok (.invokestatic 110, 3) := by decide +kernel
theorem dX5_bestPlay_64 : decode cX5_bestPlay 64 = .ok (.goto 5, 3) := by decide +kernel
theorem dX5_bestPlay_67 : decode cX5_bestPlay 67 = .ok (.iload 5, 2) := by decide +kernel
theorem dX5_bestPlay_69 : decode cX5_bestPlay 69 = .ok (.istore 10, 2) := by decide +kernel
theorem dX5_bestPlay_71 : decode cX5_bestPlay 71 = .ok (.iload 4, 2) := by decide +kernel
theorem dX5_bestPlay_73 : decode cX5_bestPlay 73 = .ok (.ifCond .eq 8, 3) := by decide +kernel
theorem dX5_bestPlay_76 : decode cX5_bestPlay 76 = .ok (.iload 6, 2) := by decide +kernel
theorem dX5_bestPlay_78 : decode cX5_bestPlay 78 = .ok (.goto 10, 3) := by decide +kernel
theorem dX5_bestPlay_81 : decode cX5_bestPlay 81 = .ok (.iload 6, 2) := by decide +kernel
theorem dX5_bestPlay_83 : decode cX5_bestPlay 83 = .ok (.iload 7, 2) := by decide +kernel
theorem dX5_bestPlay_85 : decode cX5_bestPlay 85 = .ok (.invokestatic 105, 3) := by decide +kernel
theorem dX5_bestPlay_88 : decode cX5_bestPlay 88 = .ok (.istore 11, 2) := by decide +kernel
theorem dX5_bestPlay_90 : decode cX5_bestPlay 90 = .ok (.iload 10, 2) := by decide +kernel
theorem dX5_bestPlay_92 : decode cX5_bestPlay 92 = .ok (.iload 11, 2) := by decide +kernel
theorem dX5_bestPlay_94 : decode cX5_bestPlay 94 = .ok (.if_icmp .lt 6, 3) := by decide +kernel
theorem dX5_bestPlay_97 : decode cX5_bestPlay 97 = .ok (.goto 94, 3) := by decide +kernel
theorem dX5_bestPlay_100 : decode cX5_bestPlay 100 = .ok (.iload_n 1, 1) := by decide +kernel
theorem dX5_bestPlay_101 : decode cX5_bestPlay 101 = .ok (.iload_n 2, 1) := by decide +kernel
theorem dX5_bestPlay_102 : decode cX5_bestPlay 102 = .ok (.ior, 1) := by decide +kernel
theorem dX5_bestPlay_103 : decode cX5_bestPlay 103 = .ok (.iload 9, 2) := by decide +kernel
theorem dX5_bestPlay_105 : decode cX5_bestPlay 105 = .ok (.iand, 1) := by decide +kernel
theorem dX5_bestPlay_106 : decode cX5_bestPlay 106 = .ok (.ifCond .eq 6, 3) := by decide +kernel
theorem dX5_bestPlay_109 : decode cX5_bestPlay 109 = .ok (.goto 76, 3) := by decide +kernel
theorem dX5_bestPlay_112 : decode cX5_bestPlay 112 = .ok (.aload_n 0, 1) := by decide +kernel
theorem dX5_bestPlay_113 : decode cX5_bestPlay 113 = .ok (.iload 4, 2) := by decide +kernel
theorem dX5_bestPlay_115 : decode cX5_bestPlay 115 = .ok (.ifCond .eq 10, 3) := by decide +kernel
theorem dX5_bestPlay_118 : decode cX5_bestPlay 118 = .ok (.iload_n 1, 1) := by decide +kernel
theorem dX5_bestPlay_119 : decode cX5_bestPlay 119 = .ok (.iload 9, 2) := by decide +kernel
theorem dX5_bestPlay_121 : decode cX5_bestPlay 121 = .ok (.ior, 1) := by decide +kernel
theorem dX5_bestPlay_122 : decode cX5_bestPlay 122 = .ok (.goto 4, 3) := by decide +kernel
theorem dX5_bestPlay_125 : decode cX5_bestPlay 125 = .ok (.iload_n 1, 1) := by decide +kernel
theorem dX5_bestPlay_126 : decode cX5_bestPlay 126 = .ok (.iload 4, 2) := by decide +kernel
theorem dX5_bestPlay_128 : decode cX5_bestPlay 128 = .ok (.ifCond .eq 7, 3) := by decide +kernel
theorem dX5_bestPlay_131 : decode cX5_bestPlay 131 = .ok (.iload_n 2, 1) := by decide +kernel
theorem dX5_bestPlay_132 : decode cX5_bestPlay 132 = .ok (.goto 7, 3) := by decide +kernel
theorem dX5_bestPlay_135 : decode cX5_bestPlay 135 = .ok (.iload_n 2, 1) := by decide +kernel
theorem dX5_bestPlay_136 : decode cX5_bestPlay 136 = .ok (.iload 9, 2) := by decide +kernel
theorem dX5_bestPlay_138 : decode cX5_bestPlay 138 = .ok (.ior, 1) := by decide +kernel
theorem dX5_bestPlay_139 : decode cX5_bestPlay 139 = .ok (.iload_n 3, 1) := by decide +kernel
theorem dX5_bestPlay_140 : decode cX5_bestPlay 140 = .ok (.iconst 1, 1) := by decide +kernel
theorem dX5_bestPlay_141 : decode cX5_bestPlay 141 = .ok (.isub, 1) := by decide +kernel
theorem dX5_bestPlay_142 : decode cX5_bestPlay 142 = .ok (.iload 4, 2) := by decide +kernel
theorem dX5_bestPlay_144 : decode cX5_bestPlay 144 = .ok (.ifCond .ne 7, 3) := by decide +kernel
theorem dX5_bestPlay_147 : decode cX5_bestPlay 147 = .ok (.iconst 1, 1) := by decide +kernel
theorem dX5_bestPlay_148 : decode cX5_bestPlay 148 = .ok (.goto 4, 3) := by decide +kernel
theorem dX5_bestPlay_151 : decode cX5_bestPlay 151 = .ok (.iconst 0, 1) := by decide +kernel
theorem dX5_bestPlay_152 : decode cX5_bestPlay 152 = .ok (.iload 10, 2) := by decide +kernel
theorem dX5_bestPlay_154 : decode cX5_bestPlay 154 = .ok (.iload 11, 2) := by decide +kernel
theorem dX5_bestPlay_156 : decode cX5_bestPlay 156 = .ok (.invokestatic 114, 3) := by decide +kernel
theorem dX5_bestPlay_159 : decode cX5_bestPlay 159 = .ok (.istore 12, 2) := by decide +kernel
theorem dX5_bestPlay_161 : decode cX5_bestPlay 161 = .ok (.iload 4, 2) := by decide +kernel
theorem dX5_bestPlay_163 : decode cX5_bestPlay 163 = .ok (.ifCond .eq 13, 3) := by decide +kernel
theorem dX5_bestPlay_166 : decode cX5_bestPlay 166 = .ok (.iload 7, 2) := by decide +kernel
theorem dX5_bestPlay_168 : decode cX5_bestPlay 168 = .ok (.iload 12, 2) := by decide +kernel
theorem dX5_bestPlay_170 : decode cX5_bestPlay 170 = .ok (.invokestatic 110, 3) := by decide +kernel
theorem dX5_bestPlay_173 : decode cX5_bestPlay 173 = .ok (.goto 10, 3) := by decide +kernel
theorem dX5_bestPlay_176 : decode cX5_bestPlay 176 = .ok (.iload 7, 2) := by decide +kernel
theorem dX5_bestPlay_178 : decode cX5_bestPlay 178 = .ok (.iload 12, 2) := by decide +kernel
theorem dX5_bestPlay_180 : decode cX5_bestPlay 180 = .ok (.invokestatic 105, 3) := by decide +kernel
theorem dX5_bestPlay_183 : decode cX5_bestPlay 183 = .ok (.istore 7, 2) := by decide +kernel
theorem dX5_bestPlay_185 : decode cX5_bestPlay 185 = .ok (.iinc 8 1, 3) := by decide +kernel
theorem dX5_bestPlay_188 : decode cX5_bestPlay 188 = .ok (.goto (-149), 3) := by decide +kernel
theorem dX5_bestPlay_191 : decode cX5_bestPlay 191 = .ok (.iload 7, 2) := by decide +kernel
theorem dX5_bestPlay_193 : decode cX5_bestPlay 193 = .ok (.ireturn, 1) := by decide +kernel
def L_X5_bestPlay (w : Nat) (G : z_Mem → Int32 → Int32 → Int32 → Int32 → Int32 → Int32 → Option (Int32 × z_Mem)) : Nat → z_Mem → Int32 → Int32 → Int32 → Int32 → Int32 → Int32 → Int32 → Int32 → Option (Int32 × z_Mem)
  | 0, _, _, _, _, _, _, _, _, _ => none
  | c + 1, M, x1, x2, x3, x4, x5, x6, x7, x8 =>
    if (12 : Int32) ≤ x8 then
    some (x7, M)
    else
    if x4 = (0 : Int32) then
    if x4 = (0 : Int32) then
    if x5 < (if x7 < x6 then x7 else x6) then
    if ((x1 ||| x2) &&& ((1 : Int32) <<< (x8 &&& 31))) = (0 : Int32) then
    if x4 = (0 : Int32) then
    if x4 = (0 : Int32) then
    if x4 = (0 : Int32) then
    (G M x1 (x2 ||| ((1 : Int32) <<< (x8 &&& 31))) (x3 - (1 : Int32)) (1 : Int32) x5 (if x7 < x6 then x7 else x6)).bind fun q12 =>
    if x4 = (0 : Int32) then
    L_X5_bestPlay w G c q12.2 x1 x2 x3 x4 x5 x6 (if q12.1 < x7 then q12.1 else x7) (x8 + (1 : Int32))
    else
    L_X5_bestPlay w G c q12.2 x1 x2 x3 x4 x5 x6 (if x7 < q12.1 then q12.1 else x7) (x8 + (1 : Int32))
    else
    (G M x1 (x2 ||| ((1 : Int32) <<< (x8 &&& 31))) (x3 - (1 : Int32)) (0 : Int32) x5 (if x7 < x6 then x7 else x6)).bind fun q9 =>
    if x4 = (0 : Int32) then
    L_X5_bestPlay w G c q9.2 x1 x2 x3 x4 x5 x6 (if q9.1 < x7 then q9.1 else x7) (x8 + (1 : Int32))
    else
    L_X5_bestPlay w G c q9.2 x1 x2 x3 x4 x5 x6 (if x7 < q9.1 then q9.1 else x7) (x8 + (1 : Int32))
    else
    if x4 = (0 : Int32) then
    (G M x1 x2 (x3 - (1 : Int32)) (1 : Int32) x5 (if x7 < x6 then x7 else x6)).bind fun q19 =>
    if x4 = (0 : Int32) then
    L_X5_bestPlay w G c q19.2 x1 x2 x3 x4 x5 x6 (if q19.1 < x7 then q19.1 else x7) (x8 + (1 : Int32))
    else
    L_X5_bestPlay w G c q19.2 x1 x2 x3 x4 x5 x6 (if x7 < q19.1 then q19.1 else x7) (x8 + (1 : Int32))
    else
    (G M x1 x2 (x3 - (1 : Int32)) (0 : Int32) x5 (if x7 < x6 then x7 else x6)).bind fun q16 =>
    if x4 = (0 : Int32) then
    L_X5_bestPlay w G c q16.2 x1 x2 x3 x4 x5 x6 (if q16.1 < x7 then q16.1 else x7) (x8 + (1 : Int32))
    else
    L_X5_bestPlay w G c q16.2 x1 x2 x3 x4 x5 x6 (if x7 < q16.1 then q16.1 else x7) (x8 + (1 : Int32))
    else
    if x4 = (0 : Int32) then
    if x4 = (0 : Int32) then
    (G M (x1 ||| ((1 : Int32) <<< (x8 &&& 31))) (x2 ||| ((1 : Int32) <<< (x8 &&& 31))) (x3 - (1 : Int32)) (1 : Int32) x5 (if x7 < x6 then x7 else x6)).bind fun q27 =>
    if x4 = (0 : Int32) then
    L_X5_bestPlay w G c q27.2 x1 x2 x3 x4 x5 x6 (if q27.1 < x7 then q27.1 else x7) (x8 + (1 : Int32))
    else
    L_X5_bestPlay w G c q27.2 x1 x2 x3 x4 x5 x6 (if x7 < q27.1 then q27.1 else x7) (x8 + (1 : Int32))
    else
    (G M (x1 ||| ((1 : Int32) <<< (x8 &&& 31))) (x2 ||| ((1 : Int32) <<< (x8 &&& 31))) (x3 - (1 : Int32)) (0 : Int32) x5 (if x7 < x6 then x7 else x6)).bind fun q24 =>
    if x4 = (0 : Int32) then
    L_X5_bestPlay w G c q24.2 x1 x2 x3 x4 x5 x6 (if q24.1 < x7 then q24.1 else x7) (x8 + (1 : Int32))
    else
    L_X5_bestPlay w G c q24.2 x1 x2 x3 x4 x5 x6 (if x7 < q24.1 then q24.1 else x7) (x8 + (1 : Int32))
    else
    if x4 = (0 : Int32) then
    (G M (x1 ||| ((1 : Int32) <<< (x8 &&& 31))) x2 (x3 - (1 : Int32)) (1 : Int32) x5 (if x7 < x6 then x7 else x6)).bind fun q34 =>
    if x4 = (0 : Int32) then
    L_X5_bestPlay w G c q34.2 x1 x2 x3 x4 x5 x6 (if q34.1 < x7 then q34.1 else x7) (x8 + (1 : Int32))
    else
    L_X5_bestPlay w G c q34.2 x1 x2 x3 x4 x5 x6 (if x7 < q34.1 then q34.1 else x7) (x8 + (1 : Int32))
    else
    (G M (x1 ||| ((1 : Int32) <<< (x8 &&& 31))) x2 (x3 - (1 : Int32)) (0 : Int32) x5 (if x7 < x6 then x7 else x6)).bind fun q31 =>
    if x4 = (0 : Int32) then
    L_X5_bestPlay w G c q31.2 x1 x2 x3 x4 x5 x6 (if q31.1 < x7 then q31.1 else x7) (x8 + (1 : Int32))
    else
    L_X5_bestPlay w G c q31.2 x1 x2 x3 x4 x5 x6 (if x7 < q31.1 then q31.1 else x7) (x8 + (1 : Int32))
    else
    L_X5_bestPlay w G c M x1 x2 x3 x4 x5 x6 x7 (x8 + (1 : Int32))
    else
    some (x7, M)
    else
    if x5 < x6 then
    if ((x1 ||| x2) &&& ((1 : Int32) <<< (x8 &&& 31))) = (0 : Int32) then
    if x4 = (0 : Int32) then
    if x4 = (0 : Int32) then
    if x4 = (0 : Int32) then
    (G M x1 (x2 ||| ((1 : Int32) <<< (x8 &&& 31))) (x3 - (1 : Int32)) (1 : Int32) x5 x6).bind fun q45 =>
    if x4 = (0 : Int32) then
    L_X5_bestPlay w G c q45.2 x1 x2 x3 x4 x5 x6 (if q45.1 < x7 then q45.1 else x7) (x8 + (1 : Int32))
    else
    L_X5_bestPlay w G c q45.2 x1 x2 x3 x4 x5 x6 (if x7 < q45.1 then q45.1 else x7) (x8 + (1 : Int32))
    else
    (G M x1 (x2 ||| ((1 : Int32) <<< (x8 &&& 31))) (x3 - (1 : Int32)) (0 : Int32) x5 x6).bind fun q42 =>
    if x4 = (0 : Int32) then
    L_X5_bestPlay w G c q42.2 x1 x2 x3 x4 x5 x6 (if q42.1 < x7 then q42.1 else x7) (x8 + (1 : Int32))
    else
    L_X5_bestPlay w G c q42.2 x1 x2 x3 x4 x5 x6 (if x7 < q42.1 then q42.1 else x7) (x8 + (1 : Int32))
    else
    if x4 = (0 : Int32) then
    (G M x1 x2 (x3 - (1 : Int32)) (1 : Int32) x5 x6).bind fun q52 =>
    if x4 = (0 : Int32) then
    L_X5_bestPlay w G c q52.2 x1 x2 x3 x4 x5 x6 (if q52.1 < x7 then q52.1 else x7) (x8 + (1 : Int32))
    else
    L_X5_bestPlay w G c q52.2 x1 x2 x3 x4 x5 x6 (if x7 < q52.1 then q52.1 else x7) (x8 + (1 : Int32))
    else
    (G M x1 x2 (x3 - (1 : Int32)) (0 : Int32) x5 x6).bind fun q49 =>
    if x4 = (0 : Int32) then
    L_X5_bestPlay w G c q49.2 x1 x2 x3 x4 x5 x6 (if q49.1 < x7 then q49.1 else x7) (x8 + (1 : Int32))
    else
    L_X5_bestPlay w G c q49.2 x1 x2 x3 x4 x5 x6 (if x7 < q49.1 then q49.1 else x7) (x8 + (1 : Int32))
    else
    if x4 = (0 : Int32) then
    if x4 = (0 : Int32) then
    (G M (x1 ||| ((1 : Int32) <<< (x8 &&& 31))) (x2 ||| ((1 : Int32) <<< (x8 &&& 31))) (x3 - (1 : Int32)) (1 : Int32) x5 x6).bind fun q60 =>
    if x4 = (0 : Int32) then
    L_X5_bestPlay w G c q60.2 x1 x2 x3 x4 x5 x6 (if q60.1 < x7 then q60.1 else x7) (x8 + (1 : Int32))
    else
    L_X5_bestPlay w G c q60.2 x1 x2 x3 x4 x5 x6 (if x7 < q60.1 then q60.1 else x7) (x8 + (1 : Int32))
    else
    (G M (x1 ||| ((1 : Int32) <<< (x8 &&& 31))) (x2 ||| ((1 : Int32) <<< (x8 &&& 31))) (x3 - (1 : Int32)) (0 : Int32) x5 x6).bind fun q57 =>
    if x4 = (0 : Int32) then
    L_X5_bestPlay w G c q57.2 x1 x2 x3 x4 x5 x6 (if q57.1 < x7 then q57.1 else x7) (x8 + (1 : Int32))
    else
    L_X5_bestPlay w G c q57.2 x1 x2 x3 x4 x5 x6 (if x7 < q57.1 then q57.1 else x7) (x8 + (1 : Int32))
    else
    if x4 = (0 : Int32) then
    (G M (x1 ||| ((1 : Int32) <<< (x8 &&& 31))) x2 (x3 - (1 : Int32)) (1 : Int32) x5 x6).bind fun q67 =>
    if x4 = (0 : Int32) then
    L_X5_bestPlay w G c q67.2 x1 x2 x3 x4 x5 x6 (if q67.1 < x7 then q67.1 else x7) (x8 + (1 : Int32))
    else
    L_X5_bestPlay w G c q67.2 x1 x2 x3 x4 x5 x6 (if x7 < q67.1 then q67.1 else x7) (x8 + (1 : Int32))
    else
    (G M (x1 ||| ((1 : Int32) <<< (x8 &&& 31))) x2 (x3 - (1 : Int32)) (0 : Int32) x5 x6).bind fun q64 =>
    if x4 = (0 : Int32) then
    L_X5_bestPlay w G c q64.2 x1 x2 x3 x4 x5 x6 (if q64.1 < x7 then q64.1 else x7) (x8 + (1 : Int32))
    else
    L_X5_bestPlay w G c q64.2 x1 x2 x3 x4 x5 x6 (if x7 < q64.1 then q64.1 else x7) (x8 + (1 : Int32))
    else
    L_X5_bestPlay w G c M x1 x2 x3 x4 x5 x6 x7 (x8 + (1 : Int32))
    else
    some (x7, M)
    else
    if x4 = (0 : Int32) then
    if (if x5 < x7 then x7 else x5) < (if x7 < x6 then x7 else x6) then
    if ((x1 ||| x2) &&& ((1 : Int32) <<< (x8 &&& 31))) = (0 : Int32) then
    if x4 = (0 : Int32) then
    if x4 = (0 : Int32) then
    if x4 = (0 : Int32) then
    (G M x1 (x2 ||| ((1 : Int32) <<< (x8 &&& 31))) (x3 - (1 : Int32)) (1 : Int32) (if x5 < x7 then x7 else x5) (if x7 < x6 then x7 else x6)).bind fun q79 =>
    if x4 = (0 : Int32) then
    L_X5_bestPlay w G c q79.2 x1 x2 x3 x4 x5 x6 (if q79.1 < x7 then q79.1 else x7) (x8 + (1 : Int32))
    else
    L_X5_bestPlay w G c q79.2 x1 x2 x3 x4 x5 x6 (if x7 < q79.1 then q79.1 else x7) (x8 + (1 : Int32))
    else
    (G M x1 (x2 ||| ((1 : Int32) <<< (x8 &&& 31))) (x3 - (1 : Int32)) (0 : Int32) (if x5 < x7 then x7 else x5) (if x7 < x6 then x7 else x6)).bind fun q76 =>
    if x4 = (0 : Int32) then
    L_X5_bestPlay w G c q76.2 x1 x2 x3 x4 x5 x6 (if q76.1 < x7 then q76.1 else x7) (x8 + (1 : Int32))
    else
    L_X5_bestPlay w G c q76.2 x1 x2 x3 x4 x5 x6 (if x7 < q76.1 then q76.1 else x7) (x8 + (1 : Int32))
    else
    if x4 = (0 : Int32) then
    (G M x1 x2 (x3 - (1 : Int32)) (1 : Int32) (if x5 < x7 then x7 else x5) (if x7 < x6 then x7 else x6)).bind fun q86 =>
    if x4 = (0 : Int32) then
    L_X5_bestPlay w G c q86.2 x1 x2 x3 x4 x5 x6 (if q86.1 < x7 then q86.1 else x7) (x8 + (1 : Int32))
    else
    L_X5_bestPlay w G c q86.2 x1 x2 x3 x4 x5 x6 (if x7 < q86.1 then q86.1 else x7) (x8 + (1 : Int32))
    else
    (G M x1 x2 (x3 - (1 : Int32)) (0 : Int32) (if x5 < x7 then x7 else x5) (if x7 < x6 then x7 else x6)).bind fun q83 =>
    if x4 = (0 : Int32) then
    L_X5_bestPlay w G c q83.2 x1 x2 x3 x4 x5 x6 (if q83.1 < x7 then q83.1 else x7) (x8 + (1 : Int32))
    else
    L_X5_bestPlay w G c q83.2 x1 x2 x3 x4 x5 x6 (if x7 < q83.1 then q83.1 else x7) (x8 + (1 : Int32))
    else
    if x4 = (0 : Int32) then
    if x4 = (0 : Int32) then
    (G M (x1 ||| ((1 : Int32) <<< (x8 &&& 31))) (x2 ||| ((1 : Int32) <<< (x8 &&& 31))) (x3 - (1 : Int32)) (1 : Int32) (if x5 < x7 then x7 else x5) (if x7 < x6 then x7 else x6)).bind fun q94 =>
    if x4 = (0 : Int32) then
    L_X5_bestPlay w G c q94.2 x1 x2 x3 x4 x5 x6 (if q94.1 < x7 then q94.1 else x7) (x8 + (1 : Int32))
    else
    L_X5_bestPlay w G c q94.2 x1 x2 x3 x4 x5 x6 (if x7 < q94.1 then q94.1 else x7) (x8 + (1 : Int32))
    else
    (G M (x1 ||| ((1 : Int32) <<< (x8 &&& 31))) (x2 ||| ((1 : Int32) <<< (x8 &&& 31))) (x3 - (1 : Int32)) (0 : Int32) (if x5 < x7 then x7 else x5) (if x7 < x6 then x7 else x6)).bind fun q91 =>
    if x4 = (0 : Int32) then
    L_X5_bestPlay w G c q91.2 x1 x2 x3 x4 x5 x6 (if q91.1 < x7 then q91.1 else x7) (x8 + (1 : Int32))
    else
    L_X5_bestPlay w G c q91.2 x1 x2 x3 x4 x5 x6 (if x7 < q91.1 then q91.1 else x7) (x8 + (1 : Int32))
    else
    if x4 = (0 : Int32) then
    (G M (x1 ||| ((1 : Int32) <<< (x8 &&& 31))) x2 (x3 - (1 : Int32)) (1 : Int32) (if x5 < x7 then x7 else x5) (if x7 < x6 then x7 else x6)).bind fun q101 =>
    if x4 = (0 : Int32) then
    L_X5_bestPlay w G c q101.2 x1 x2 x3 x4 x5 x6 (if q101.1 < x7 then q101.1 else x7) (x8 + (1 : Int32))
    else
    L_X5_bestPlay w G c q101.2 x1 x2 x3 x4 x5 x6 (if x7 < q101.1 then q101.1 else x7) (x8 + (1 : Int32))
    else
    (G M (x1 ||| ((1 : Int32) <<< (x8 &&& 31))) x2 (x3 - (1 : Int32)) (0 : Int32) (if x5 < x7 then x7 else x5) (if x7 < x6 then x7 else x6)).bind fun q98 =>
    if x4 = (0 : Int32) then
    L_X5_bestPlay w G c q98.2 x1 x2 x3 x4 x5 x6 (if q98.1 < x7 then q98.1 else x7) (x8 + (1 : Int32))
    else
    L_X5_bestPlay w G c q98.2 x1 x2 x3 x4 x5 x6 (if x7 < q98.1 then q98.1 else x7) (x8 + (1 : Int32))
    else
    L_X5_bestPlay w G c M x1 x2 x3 x4 x5 x6 x7 (x8 + (1 : Int32))
    else
    some (x7, M)
    else
    if (if x5 < x7 then x7 else x5) < x6 then
    if ((x1 ||| x2) &&& ((1 : Int32) <<< (x8 &&& 31))) = (0 : Int32) then
    if x4 = (0 : Int32) then
    if x4 = (0 : Int32) then
    if x4 = (0 : Int32) then
    (G M x1 (x2 ||| ((1 : Int32) <<< (x8 &&& 31))) (x3 - (1 : Int32)) (1 : Int32) (if x5 < x7 then x7 else x5) x6).bind fun q112 =>
    if x4 = (0 : Int32) then
    L_X5_bestPlay w G c q112.2 x1 x2 x3 x4 x5 x6 (if q112.1 < x7 then q112.1 else x7) (x8 + (1 : Int32))
    else
    L_X5_bestPlay w G c q112.2 x1 x2 x3 x4 x5 x6 (if x7 < q112.1 then q112.1 else x7) (x8 + (1 : Int32))
    else
    (G M x1 (x2 ||| ((1 : Int32) <<< (x8 &&& 31))) (x3 - (1 : Int32)) (0 : Int32) (if x5 < x7 then x7 else x5) x6).bind fun q109 =>
    if x4 = (0 : Int32) then
    L_X5_bestPlay w G c q109.2 x1 x2 x3 x4 x5 x6 (if q109.1 < x7 then q109.1 else x7) (x8 + (1 : Int32))
    else
    L_X5_bestPlay w G c q109.2 x1 x2 x3 x4 x5 x6 (if x7 < q109.1 then q109.1 else x7) (x8 + (1 : Int32))
    else
    if x4 = (0 : Int32) then
    (G M x1 x2 (x3 - (1 : Int32)) (1 : Int32) (if x5 < x7 then x7 else x5) x6).bind fun q119 =>
    if x4 = (0 : Int32) then
    L_X5_bestPlay w G c q119.2 x1 x2 x3 x4 x5 x6 (if q119.1 < x7 then q119.1 else x7) (x8 + (1 : Int32))
    else
    L_X5_bestPlay w G c q119.2 x1 x2 x3 x4 x5 x6 (if x7 < q119.1 then q119.1 else x7) (x8 + (1 : Int32))
    else
    (G M x1 x2 (x3 - (1 : Int32)) (0 : Int32) (if x5 < x7 then x7 else x5) x6).bind fun q116 =>
    if x4 = (0 : Int32) then
    L_X5_bestPlay w G c q116.2 x1 x2 x3 x4 x5 x6 (if q116.1 < x7 then q116.1 else x7) (x8 + (1 : Int32))
    else
    L_X5_bestPlay w G c q116.2 x1 x2 x3 x4 x5 x6 (if x7 < q116.1 then q116.1 else x7) (x8 + (1 : Int32))
    else
    if x4 = (0 : Int32) then
    if x4 = (0 : Int32) then
    (G M (x1 ||| ((1 : Int32) <<< (x8 &&& 31))) (x2 ||| ((1 : Int32) <<< (x8 &&& 31))) (x3 - (1 : Int32)) (1 : Int32) (if x5 < x7 then x7 else x5) x6).bind fun q127 =>
    if x4 = (0 : Int32) then
    L_X5_bestPlay w G c q127.2 x1 x2 x3 x4 x5 x6 (if q127.1 < x7 then q127.1 else x7) (x8 + (1 : Int32))
    else
    L_X5_bestPlay w G c q127.2 x1 x2 x3 x4 x5 x6 (if x7 < q127.1 then q127.1 else x7) (x8 + (1 : Int32))
    else
    (G M (x1 ||| ((1 : Int32) <<< (x8 &&& 31))) (x2 ||| ((1 : Int32) <<< (x8 &&& 31))) (x3 - (1 : Int32)) (0 : Int32) (if x5 < x7 then x7 else x5) x6).bind fun q124 =>
    if x4 = (0 : Int32) then
    L_X5_bestPlay w G c q124.2 x1 x2 x3 x4 x5 x6 (if q124.1 < x7 then q124.1 else x7) (x8 + (1 : Int32))
    else
    L_X5_bestPlay w G c q124.2 x1 x2 x3 x4 x5 x6 (if x7 < q124.1 then q124.1 else x7) (x8 + (1 : Int32))
    else
    if x4 = (0 : Int32) then
    (G M (x1 ||| ((1 : Int32) <<< (x8 &&& 31))) x2 (x3 - (1 : Int32)) (1 : Int32) (if x5 < x7 then x7 else x5) x6).bind fun q134 =>
    if x4 = (0 : Int32) then
    L_X5_bestPlay w G c q134.2 x1 x2 x3 x4 x5 x6 (if q134.1 < x7 then q134.1 else x7) (x8 + (1 : Int32))
    else
    L_X5_bestPlay w G c q134.2 x1 x2 x3 x4 x5 x6 (if x7 < q134.1 then q134.1 else x7) (x8 + (1 : Int32))
    else
    (G M (x1 ||| ((1 : Int32) <<< (x8 &&& 31))) x2 (x3 - (1 : Int32)) (0 : Int32) (if x5 < x7 then x7 else x5) x6).bind fun q131 =>
    if x4 = (0 : Int32) then
    L_X5_bestPlay w G c q131.2 x1 x2 x3 x4 x5 x6 (if q131.1 < x7 then q131.1 else x7) (x8 + (1 : Int32))
    else
    L_X5_bestPlay w G c q131.2 x1 x2 x3 x4 x5 x6 (if x7 < q131.1 then q131.1 else x7) (x8 + (1 : Int32))
    else
    L_X5_bestPlay w G c M x1 x2 x3 x4 x5 x6 x7 (x8 + (1 : Int32))
    else
    some (x7, M)
set_option maxHeartbeats 4000000 in
theorem AL_X5_bestPlay {w : Nat} {G : z_Mem → Int32 → Int32 → Int32 → Int32 → Int32 → Int32 → Option (Int32 × z_Mem)} {k : Nat} (hk0 : 1 ≤ k) (hG : ∀ (M : z_Mem) (a1 : Int32) (a2 : Int32) (a3 : Int32) (a4 : Int32) (a5 : Int32) (a6 : Int32) (r : Int32) (M' : z_Mem) (Q : Option Value → z_Mem → Prop), G M a1 a2 a3 a4 a5 a6 = some (r, M') → Q (some (.int r)) M' → z_Cl k mX5_bestPlay [.ref 61, .int a1, .int a2, .int a3, .int a4, .int a5, .int a6] M Q) : ∀ (c : Nat), (∀ (M : z_Mem) (x1 : Int32) (x2 : Int32) (x3 : Int32) (x4 : Int32) (x5 : Int32) (x6 : Int32) (x7 : Int32) (x8 : Int32) (r : Int32) (M' : z_Mem) (Q : Option Value → z_Mem → Prop), L_X5_bestPlay w G c M x1 x2 x3 x4 x5 x6 x7 x8 = some (r, M') → Q (some (.int r)) M' → z_G none (k + 1) mX5_bestPlay 39 [some (.ref 61), some (.int x1), some (.int x2), some (.int x3), some (.int x4), some (.int x5), some (.int x6), some (.int x7), some (.int x8), none, none, none, none] [] M Q) := by
  intro c
  induction c with
  | zero => exact (fun M x1 x2 x3 x4 x5 x6 x7 x8 r M' Q h hq => by rw [L_X5_bestPlay] at h; cases h)
  | succ c ih =>
    intro M x1 x2 x3 x4 x5 x6 x7 x8 r M' Q h hq
    rw [L_X5_bestPlay] at h
    refine g_iload dX5_bestPlay_39 rfl ?_
    refine g_bipush (v := (12 : Int32)) dX5_bestPlay_41 (by decide) ?_
    refine g_ic_ge (t := 191) dX5_bestPlay_43 (by decide) (fun c1 => ?_) (fun c1 => ?_)
    · replace h := z_ift c1 h
      refine g_iload dX5_bestPlay_191 rfl ?_
      cases h
      exact g_iret dX5_bestPlay_193 rfl rfl hq
    · replace h := z_iff c1 h
      refine g_iconst (v := (1 : Int32)) dX5_bestPlay_46 (by decide) ?_
      refine g_iload dX5_bestPlay_47 rfl ?_
      refine g_ishl dX5_bestPlay_49 ?_
      refine g_istore (ls' := [some (.ref 61), some (.int x1), some (.int x2), some (.int x3), some (.int x4), some (.int x5), some (.int x6), some (.int x7), some (.int x8), some (.int ((1 : Int32) <<< (x8 &&& 31))), none, none, none]) dX5_bestPlay_50 (Nat.le_of_ble_eq_true rfl) rfl ?_
      refine g_iload dX5_bestPlay_52 rfl ?_
      refine g_if_eq (t := 67) dX5_bestPlay_54 (by decide) (fun c2 => ?_) (fun c2 => ?_)
      · replace h := z_ift c2 h
        refine g_iload dX5_bestPlay_67 rfl ?_
        refine g_istore (ls' := [some (.ref 61), some (.int x1), some (.int x2), some (.int x3), some (.int x4), some (.int x5), some (.int x6), some (.int x7), some (.int x8), some (.int ((1 : Int32) <<< (x8 &&& 31))), some (.int x5), none, none]) dX5_bestPlay_69 (Nat.le_of_ble_eq_true rfl) rfl ?_
        refine g_iload dX5_bestPlay_71 rfl ?_
        refine g_if_eq (t := 81) dX5_bestPlay_73 (by decide) (fun c3 => ?_) (fun c3 => ?_)
        · replace h := z_ift c3 h
          refine g_iload dX5_bestPlay_81 rfl ?_
          refine g_iload dX5_bestPlay_83 rfl ?_
          refine g_min dX5_bestPlay_85 rfl (Nat.le_of_ble_eq_true rfl) ?_
          refine g_istore (ls' := [some (.ref 61), some (.int x1), some (.int x2), some (.int x3), some (.int x4), some (.int x5), some (.int x6), some (.int x7), some (.int x8), some (.int ((1 : Int32) <<< (x8 &&& 31))), some (.int x5), some (.int (if x7 < x6 then x7 else x6)), none]) dX5_bestPlay_88 (Nat.le_of_ble_eq_true rfl) rfl ?_
          refine g_iload dX5_bestPlay_90 rfl ?_
          refine g_iload dX5_bestPlay_92 rfl ?_
          refine g_ic_lt (t := 100) dX5_bestPlay_94 (by decide) (fun c4 => ?_) (fun c4 => ?_)
          · replace h := z_ift c4 h
            refine g_iload_n dX5_bestPlay_100 rfl rfl ?_
            refine g_iload_n dX5_bestPlay_101 rfl rfl ?_
            refine g_ior dX5_bestPlay_102 ?_
            refine g_iload dX5_bestPlay_103 rfl ?_
            refine g_iand dX5_bestPlay_105 ?_
            refine g_if_eq (t := 112) dX5_bestPlay_106 (by decide) (fun c5 => ?_) (fun c5 => ?_)
            · replace h := z_ift c5 h
              refine g_aload_n dX5_bestPlay_112 rfl rfl ?_
              refine g_iload dX5_bestPlay_113 rfl ?_
              refine g_if_eq (t := 125) dX5_bestPlay_115 (by decide) (fun c6 => ?_) (fun c6 => ?_)
              · replace h := z_ift c6 h
                refine g_iload_n dX5_bestPlay_125 rfl rfl ?_
                refine g_iload dX5_bestPlay_126 rfl ?_
                refine g_if_eq (t := 135) dX5_bestPlay_128 (by decide) (fun c7 => ?_) (fun c7 => ?_)
                · replace h := z_ift c7 h
                  refine g_iload_n dX5_bestPlay_135 rfl rfl ?_
                  refine g_iload dX5_bestPlay_136 rfl ?_
                  refine g_ior dX5_bestPlay_138 ?_
                  refine g_iload_n dX5_bestPlay_139 rfl rfl ?_
                  refine g_iconst (v := (1 : Int32)) dX5_bestPlay_140 (by decide) ?_
                  refine g_isub dX5_bestPlay_141 ?_
                  refine g_iload dX5_bestPlay_142 rfl ?_
                  refine g_if_ne (t := 151) dX5_bestPlay_144 (by decide) (fun c8 => ?_) (fun c8 => ?_)
                  · replace h := z_iff c8 h
                    refine g_iconst (v := (0 : Int32)) dX5_bestPlay_151 (by decide) ?_
                    refine g_iload dX5_bestPlay_152 rfl ?_
                    refine g_iload dX5_bestPlay_154 rfl ?_
                    obtain ⟨q9, e10, h⟩ := z_bd h
                    refine g_callS (as := [.ref 61, .int x1, .int (x2 ||| ((1 : Int32) <<< (x8 &&& 31))), .int (x3 - (1 : Int32)), .int (0 : Int32), .int x5, .int (if x7 < x6 then x7 else x6)]) (rest := []) (c := mX5_bestPlay) (k1 := k) dX5_bestPlay_156 rfl rfl rfl rfl rfl (Nat.le_of_ble_eq_true rfl) (Nat.le_of_ble_eq_true rfl) (by omega) ?_
                    refine hG _ _ _ _ _ _ _ _ _ _ e10 ?_
                    show z_G none (k + 1) mX5_bestPlay 159 [some (.ref 61), some (.int x1), some (.int x2), some (.int x3), some (.int x4), some (.int x5), some (.int x6), some (.int x7), some (.int x8), some (.int ((1 : Int32) <<< (x8 &&& 31))), some (.int x5), some (.int (if x7 < x6 then x7 else x6)), none] [.int q9.1] q9.2 Q
                    refine g_istore (ls' := [some (.ref 61), some (.int x1), some (.int x2), some (.int x3), some (.int x4), some (.int x5), some (.int x6), some (.int x7), some (.int x8), some (.int ((1 : Int32) <<< (x8 &&& 31))), some (.int x5), some (.int (if x7 < x6 then x7 else x6)), some (.int q9.1)]) dX5_bestPlay_159 (Nat.le_of_ble_eq_true rfl) rfl ?_
                    refine g_iload dX5_bestPlay_161 rfl ?_
                    refine g_if_eq (t := 176) dX5_bestPlay_163 (by decide) (fun c11 => ?_) (fun c11 => ?_)
                    · replace h := z_ift c11 h
                      refine g_iload dX5_bestPlay_176 rfl ?_
                      refine g_iload dX5_bestPlay_178 rfl ?_
                      refine g_min dX5_bestPlay_180 rfl (Nat.le_of_ble_eq_true rfl) ?_
                      refine g_istore (ls' := [some (.ref 61), some (.int x1), some (.int x2), some (.int x3), some (.int x4), some (.int x5), some (.int x6), some (.int (if q9.1 < x7 then q9.1 else x7)), some (.int x8), some (.int ((1 : Int32) <<< (x8 &&& 31))), some (.int x5), some (.int (if x7 < x6 then x7 else x6)), some (.int q9.1)]) dX5_bestPlay_183 (Nat.le_of_ble_eq_true rfl) rfl ?_
                      refine g_iinc (v := x8 + (1 : Int32)) (ls' := [some (.ref 61), some (.int x1), some (.int x2), some (.int x3), some (.int x4), some (.int x5), some (.int x6), some (.int (if q9.1 < x7 then q9.1 else x7)), some (.int (x8 + (1 : Int32))), some (.int ((1 : Int32) <<< (x8 &&& 31))), some (.int x5), some (.int (if x7 < x6 then x7 else x6)), some (.int q9.1)]) dX5_bestPlay_185 rfl rfl rfl ?_
                      refine g_goto (t := 39) dX5_bestPlay_188 (by decide) ?_
                      exact g_sub (z_sub_s (z_sub_s (z_sub_s (z_sub_s (z_sub_s (z_sub_s (z_sub_s (z_sub_s (z_sub_s (z_sub_n (z_sub_n (z_sub_n (z_sub_n z_sub_nil))))))))))))) (ih _ _ _ _ _ _ _ _ _ _ _ _ h hq)
                    · replace h := z_iff c11 h
                      refine g_iload dX5_bestPlay_166 rfl ?_
                      refine g_iload dX5_bestPlay_168 rfl ?_
                      refine g_max dX5_bestPlay_170 rfl (Nat.le_of_ble_eq_true rfl) ?_
                      refine g_goto (t := 183) dX5_bestPlay_173 (by decide) ?_
                      refine g_istore (ls' := [some (.ref 61), some (.int x1), some (.int x2), some (.int x3), some (.int x4), some (.int x5), some (.int x6), some (.int (if x7 < q9.1 then q9.1 else x7)), some (.int x8), some (.int ((1 : Int32) <<< (x8 &&& 31))), some (.int x5), some (.int (if x7 < x6 then x7 else x6)), some (.int q9.1)]) dX5_bestPlay_183 (Nat.le_of_ble_eq_true rfl) rfl ?_
                      refine g_iinc (v := x8 + (1 : Int32)) (ls' := [some (.ref 61), some (.int x1), some (.int x2), some (.int x3), some (.int x4), some (.int x5), some (.int x6), some (.int (if x7 < q9.1 then q9.1 else x7)), some (.int (x8 + (1 : Int32))), some (.int ((1 : Int32) <<< (x8 &&& 31))), some (.int x5), some (.int (if x7 < x6 then x7 else x6)), some (.int q9.1)]) dX5_bestPlay_185 rfl rfl rfl ?_
                      refine g_goto (t := 39) dX5_bestPlay_188 (by decide) ?_
                      exact g_sub (z_sub_s (z_sub_s (z_sub_s (z_sub_s (z_sub_s (z_sub_s (z_sub_s (z_sub_s (z_sub_s (z_sub_n (z_sub_n (z_sub_n (z_sub_n z_sub_nil))))))))))))) (ih _ _ _ _ _ _ _ _ _ _ _ _ h hq)
                  · replace h := z_ift c8 h
                    refine g_iconst (v := (1 : Int32)) dX5_bestPlay_147 (by decide) ?_
                    refine g_goto (t := 152) dX5_bestPlay_148 (by decide) ?_
                    refine g_iload dX5_bestPlay_152 rfl ?_
                    refine g_iload dX5_bestPlay_154 rfl ?_
                    obtain ⟨q12, e13, h⟩ := z_bd h
                    refine g_callS (as := [.ref 61, .int x1, .int (x2 ||| ((1 : Int32) <<< (x8 &&& 31))), .int (x3 - (1 : Int32)), .int (1 : Int32), .int x5, .int (if x7 < x6 then x7 else x6)]) (rest := []) (c := mX5_bestPlay) (k1 := k) dX5_bestPlay_156 rfl rfl rfl rfl rfl (Nat.le_of_ble_eq_true rfl) (Nat.le_of_ble_eq_true rfl) (by omega) ?_
                    refine hG _ _ _ _ _ _ _ _ _ _ e13 ?_
                    show z_G none (k + 1) mX5_bestPlay 159 [some (.ref 61), some (.int x1), some (.int x2), some (.int x3), some (.int x4), some (.int x5), some (.int x6), some (.int x7), some (.int x8), some (.int ((1 : Int32) <<< (x8 &&& 31))), some (.int x5), some (.int (if x7 < x6 then x7 else x6)), none] [.int q12.1] q12.2 Q
                    refine g_istore (ls' := [some (.ref 61), some (.int x1), some (.int x2), some (.int x3), some (.int x4), some (.int x5), some (.int x6), some (.int x7), some (.int x8), some (.int ((1 : Int32) <<< (x8 &&& 31))), some (.int x5), some (.int (if x7 < x6 then x7 else x6)), some (.int q12.1)]) dX5_bestPlay_159 (Nat.le_of_ble_eq_true rfl) rfl ?_
                    refine g_iload dX5_bestPlay_161 rfl ?_
                    refine g_if_eq (t := 176) dX5_bestPlay_163 (by decide) (fun c14 => ?_) (fun c14 => ?_)
                    · replace h := z_ift c14 h
                      refine g_iload dX5_bestPlay_176 rfl ?_
                      refine g_iload dX5_bestPlay_178 rfl ?_
                      refine g_min dX5_bestPlay_180 rfl (Nat.le_of_ble_eq_true rfl) ?_
                      refine g_istore (ls' := [some (.ref 61), some (.int x1), some (.int x2), some (.int x3), some (.int x4), some (.int x5), some (.int x6), some (.int (if q12.1 < x7 then q12.1 else x7)), some (.int x8), some (.int ((1 : Int32) <<< (x8 &&& 31))), some (.int x5), some (.int (if x7 < x6 then x7 else x6)), some (.int q12.1)]) dX5_bestPlay_183 (Nat.le_of_ble_eq_true rfl) rfl ?_
                      refine g_iinc (v := x8 + (1 : Int32)) (ls' := [some (.ref 61), some (.int x1), some (.int x2), some (.int x3), some (.int x4), some (.int x5), some (.int x6), some (.int (if q12.1 < x7 then q12.1 else x7)), some (.int (x8 + (1 : Int32))), some (.int ((1 : Int32) <<< (x8 &&& 31))), some (.int x5), some (.int (if x7 < x6 then x7 else x6)), some (.int q12.1)]) dX5_bestPlay_185 rfl rfl rfl ?_
                      refine g_goto (t := 39) dX5_bestPlay_188 (by decide) ?_
                      exact g_sub (z_sub_s (z_sub_s (z_sub_s (z_sub_s (z_sub_s (z_sub_s (z_sub_s (z_sub_s (z_sub_s (z_sub_n (z_sub_n (z_sub_n (z_sub_n z_sub_nil))))))))))))) (ih _ _ _ _ _ _ _ _ _ _ _ _ h hq)
                    · replace h := z_iff c14 h
                      refine g_iload dX5_bestPlay_166 rfl ?_
                      refine g_iload dX5_bestPlay_168 rfl ?_
                      refine g_max dX5_bestPlay_170 rfl (Nat.le_of_ble_eq_true rfl) ?_
                      refine g_goto (t := 183) dX5_bestPlay_173 (by decide) ?_
                      refine g_istore (ls' := [some (.ref 61), some (.int x1), some (.int x2), some (.int x3), some (.int x4), some (.int x5), some (.int x6), some (.int (if x7 < q12.1 then q12.1 else x7)), some (.int x8), some (.int ((1 : Int32) <<< (x8 &&& 31))), some (.int x5), some (.int (if x7 < x6 then x7 else x6)), some (.int q12.1)]) dX5_bestPlay_183 (Nat.le_of_ble_eq_true rfl) rfl ?_
                      refine g_iinc (v := x8 + (1 : Int32)) (ls' := [some (.ref 61), some (.int x1), some (.int x2), some (.int x3), some (.int x4), some (.int x5), some (.int x6), some (.int (if x7 < q12.1 then q12.1 else x7)), some (.int (x8 + (1 : Int32))), some (.int ((1 : Int32) <<< (x8 &&& 31))), some (.int x5), some (.int (if x7 < x6 then x7 else x6)), some (.int q12.1)]) dX5_bestPlay_185 rfl rfl rfl ?_
                      refine g_goto (t := 39) dX5_bestPlay_188 (by decide) ?_
                      exact g_sub (z_sub_s (z_sub_s (z_sub_s (z_sub_s (z_sub_s (z_sub_s (z_sub_s (z_sub_s (z_sub_s (z_sub_n (z_sub_n (z_sub_n (z_sub_n z_sub_nil))))))))))))) (ih _ _ _ _ _ _ _ _ _ _ _ _ h hq)
                · replace h := z_iff c7 h
                  refine g_iload_n dX5_bestPlay_131 rfl rfl ?_
                  refine g_goto (t := 139) dX5_bestPlay_132 (by decide) ?_
                  refine g_iload_n dX5_bestPlay_139 rfl rfl ?_
                  refine g_iconst (v := (1 : Int32)) dX5_bestPlay_140 (by decide) ?_
                  refine g_isub dX5_bestPlay_141 ?_
                  refine g_iload dX5_bestPlay_142 rfl ?_
                  refine g_if_ne (t := 151) dX5_bestPlay_144 (by decide) (fun c15 => ?_) (fun c15 => ?_)
                  · replace h := z_iff c15 h
                    refine g_iconst (v := (0 : Int32)) dX5_bestPlay_151 (by decide) ?_
                    refine g_iload dX5_bestPlay_152 rfl ?_
                    refine g_iload dX5_bestPlay_154 rfl ?_
                    obtain ⟨q16, e17, h⟩ := z_bd h
                    refine g_callS (as := [.ref 61, .int x1, .int x2, .int (x3 - (1 : Int32)), .int (0 : Int32), .int x5, .int (if x7 < x6 then x7 else x6)]) (rest := []) (c := mX5_bestPlay) (k1 := k) dX5_bestPlay_156 rfl rfl rfl rfl rfl (Nat.le_of_ble_eq_true rfl) (Nat.le_of_ble_eq_true rfl) (by omega) ?_
                    refine hG _ _ _ _ _ _ _ _ _ _ e17 ?_
                    show z_G none (k + 1) mX5_bestPlay 159 [some (.ref 61), some (.int x1), some (.int x2), some (.int x3), some (.int x4), some (.int x5), some (.int x6), some (.int x7), some (.int x8), some (.int ((1 : Int32) <<< (x8 &&& 31))), some (.int x5), some (.int (if x7 < x6 then x7 else x6)), none] [.int q16.1] q16.2 Q
                    refine g_istore (ls' := [some (.ref 61), some (.int x1), some (.int x2), some (.int x3), some (.int x4), some (.int x5), some (.int x6), some (.int x7), some (.int x8), some (.int ((1 : Int32) <<< (x8 &&& 31))), some (.int x5), some (.int (if x7 < x6 then x7 else x6)), some (.int q16.1)]) dX5_bestPlay_159 (Nat.le_of_ble_eq_true rfl) rfl ?_
                    refine g_iload dX5_bestPlay_161 rfl ?_
                    refine g_if_eq (t := 176) dX5_bestPlay_163 (by decide) (fun c18 => ?_) (fun c18 => ?_)
                    · replace h := z_ift c18 h
                      refine g_iload dX5_bestPlay_176 rfl ?_
                      refine g_iload dX5_bestPlay_178 rfl ?_
                      refine g_min dX5_bestPlay_180 rfl (Nat.le_of_ble_eq_true rfl) ?_
                      refine g_istore (ls' := [some (.ref 61), some (.int x1), some (.int x2), some (.int x3), some (.int x4), some (.int x5), some (.int x6), some (.int (if q16.1 < x7 then q16.1 else x7)), some (.int x8), some (.int ((1 : Int32) <<< (x8 &&& 31))), some (.int x5), some (.int (if x7 < x6 then x7 else x6)), some (.int q16.1)]) dX5_bestPlay_183 (Nat.le_of_ble_eq_true rfl) rfl ?_
                      refine g_iinc (v := x8 + (1 : Int32)) (ls' := [some (.ref 61), some (.int x1), some (.int x2), some (.int x3), some (.int x4), some (.int x5), some (.int x6), some (.int (if q16.1 < x7 then q16.1 else x7)), some (.int (x8 + (1 : Int32))), some (.int ((1 : Int32) <<< (x8 &&& 31))), some (.int x5), some (.int (if x7 < x6 then x7 else x6)), some (.int q16.1)]) dX5_bestPlay_185 rfl rfl rfl ?_
                      refine g_goto (t := 39) dX5_bestPlay_188 (by decide) ?_
                      exact g_sub (z_sub_s (z_sub_s (z_sub_s (z_sub_s (z_sub_s (z_sub_s (z_sub_s (z_sub_s (z_sub_s (z_sub_n (z_sub_n (z_sub_n (z_sub_n z_sub_nil))))))))))))) (ih _ _ _ _ _ _ _ _ _ _ _ _ h hq)
                    · replace h := z_iff c18 h
                      refine g_iload dX5_bestPlay_166 rfl ?_
                      refine g_iload dX5_bestPlay_168 rfl ?_
                      refine g_max dX5_bestPlay_170 rfl (Nat.le_of_ble_eq_true rfl) ?_
                      refine g_goto (t := 183) dX5_bestPlay_173 (by decide) ?_
                      refine g_istore (ls' := [some (.ref 61), some (.int x1), some (.int x2), some (.int x3), some (.int x4), some (.int x5), some (.int x6), some (.int (if x7 < q16.1 then q16.1 else x7)), some (.int x8), some (.int ((1 : Int32) <<< (x8 &&& 31))), some (.int x5), some (.int (if x7 < x6 then x7 else x6)), some (.int q16.1)]) dX5_bestPlay_183 (Nat.le_of_ble_eq_true rfl) rfl ?_
                      refine g_iinc (v := x8 + (1 : Int32)) (ls' := [some (.ref 61), some (.int x1), some (.int x2), some (.int x3), some (.int x4), some (.int x5), some (.int x6), some (.int (if x7 < q16.1 then q16.1 else x7)), some (.int (x8 + (1 : Int32))), some (.int ((1 : Int32) <<< (x8 &&& 31))), some (.int x5), some (.int (if x7 < x6 then x7 else x6)), some (.int q16.1)]) dX5_bestPlay_185 rfl rfl rfl ?_
                      refine g_goto (t := 39) dX5_bestPlay_188 (by decide) ?_
                      exact g_sub (z_sub_s (z_sub_s (z_sub_s (z_sub_s (z_sub_s (z_sub_s (z_sub_s (z_sub_s (z_sub_s (z_sub_n (z_sub_n (z_sub_n (z_sub_n z_sub_nil))))))))))))) (ih _ _ _ _ _ _ _ _ _ _ _ _ h hq)
                  · replace h := z_ift c15 h
                    refine g_iconst (v := (1 : Int32)) dX5_bestPlay_147 (by decide) ?_
                    refine g_goto (t := 152) dX5_bestPlay_148 (by decide) ?_
                    refine g_iload dX5_bestPlay_152 rfl ?_
                    refine g_iload dX5_bestPlay_154 rfl ?_
                    obtain ⟨q19, e20, h⟩ := z_bd h
                    refine g_callS (as := [.ref 61, .int x1, .int x2, .int (x3 - (1 : Int32)), .int (1 : Int32), .int x5, .int (if x7 < x6 then x7 else x6)]) (rest := []) (c := mX5_bestPlay) (k1 := k) dX5_bestPlay_156 rfl rfl rfl rfl rfl (Nat.le_of_ble_eq_true rfl) (Nat.le_of_ble_eq_true rfl) (by omega) ?_
                    refine hG _ _ _ _ _ _ _ _ _ _ e20 ?_
                    show z_G none (k + 1) mX5_bestPlay 159 [some (.ref 61), some (.int x1), some (.int x2), some (.int x3), some (.int x4), some (.int x5), some (.int x6), some (.int x7), some (.int x8), some (.int ((1 : Int32) <<< (x8 &&& 31))), some (.int x5), some (.int (if x7 < x6 then x7 else x6)), none] [.int q19.1] q19.2 Q
                    refine g_istore (ls' := [some (.ref 61), some (.int x1), some (.int x2), some (.int x3), some (.int x4), some (.int x5), some (.int x6), some (.int x7), some (.int x8), some (.int ((1 : Int32) <<< (x8 &&& 31))), some (.int x5), some (.int (if x7 < x6 then x7 else x6)), some (.int q19.1)]) dX5_bestPlay_159 (Nat.le_of_ble_eq_true rfl) rfl ?_
                    refine g_iload dX5_bestPlay_161 rfl ?_
                    refine g_if_eq (t := 176) dX5_bestPlay_163 (by decide) (fun c21 => ?_) (fun c21 => ?_)
                    · replace h := z_ift c21 h
                      refine g_iload dX5_bestPlay_176 rfl ?_
                      refine g_iload dX5_bestPlay_178 rfl ?_
                      refine g_min dX5_bestPlay_180 rfl (Nat.le_of_ble_eq_true rfl) ?_
                      refine g_istore (ls' := [some (.ref 61), some (.int x1), some (.int x2), some (.int x3), some (.int x4), some (.int x5), some (.int x6), some (.int (if q19.1 < x7 then q19.1 else x7)), some (.int x8), some (.int ((1 : Int32) <<< (x8 &&& 31))), some (.int x5), some (.int (if x7 < x6 then x7 else x6)), some (.int q19.1)]) dX5_bestPlay_183 (Nat.le_of_ble_eq_true rfl) rfl ?_
                      refine g_iinc (v := x8 + (1 : Int32)) (ls' := [some (.ref 61), some (.int x1), some (.int x2), some (.int x3), some (.int x4), some (.int x5), some (.int x6), some (.int (if q19.1 < x7 then q19.1 else x7)), some (.int (x8 + (1 : Int32))), some (.int ((1 : Int32) <<< (x8 &&& 31))), some (.int x5), some (.int (if x7 < x6 then x7 else x6)), some (.int q19.1)]) dX5_bestPlay_185 rfl rfl rfl ?_
                      refine g_goto (t := 39) dX5_bestPlay_188 (by decide) ?_
                      exact g_sub (z_sub_s (z_sub_s (z_sub_s (z_sub_s (z_sub_s (z_sub_s (z_sub_s (z_sub_s (z_sub_s (z_sub_n (z_sub_n (z_sub_n (z_sub_n z_sub_nil))))))))))))) (ih _ _ _ _ _ _ _ _ _ _ _ _ h hq)
                    · replace h := z_iff c21 h
                      refine g_iload dX5_bestPlay_166 rfl ?_
                      refine g_iload dX5_bestPlay_168 rfl ?_
                      refine g_max dX5_bestPlay_170 rfl (Nat.le_of_ble_eq_true rfl) ?_
                      refine g_goto (t := 183) dX5_bestPlay_173 (by decide) ?_
                      refine g_istore (ls' := [some (.ref 61), some (.int x1), some (.int x2), some (.int x3), some (.int x4), some (.int x5), some (.int x6), some (.int (if x7 < q19.1 then q19.1 else x7)), some (.int x8), some (.int ((1 : Int32) <<< (x8 &&& 31))), some (.int x5), some (.int (if x7 < x6 then x7 else x6)), some (.int q19.1)]) dX5_bestPlay_183 (Nat.le_of_ble_eq_true rfl) rfl ?_
                      refine g_iinc (v := x8 + (1 : Int32)) (ls' := [some (.ref 61), some (.int x1), some (.int x2), some (.int x3), some (.int x4), some (.int x5), some (.int x6), some (.int (if x7 < q19.1 then q19.1 else x7)), some (.int (x8 + (1 : Int32))), some (.int ((1 : Int32) <<< (x8 &&& 31))), some (.int x5), some (.int (if x7 < x6 then x7 else x6)), some (.int q19.1)]) dX5_bestPlay_185 rfl rfl rfl ?_
                      refine g_goto (t := 39) dX5_bestPlay_188 (by decide) ?_
                      exact g_sub (z_sub_s (z_sub_s (z_sub_s (z_sub_s (z_sub_s (z_sub_s (z_sub_s (z_sub_s (z_sub_s (z_sub_n (z_sub_n (z_sub_n (z_sub_n z_sub_nil))))))))))))) (ih _ _ _ _ _ _ _ _ _ _ _ _ h hq)
              · replace h := z_iff c6 h
                refine g_iload_n dX5_bestPlay_118 rfl rfl ?_
                refine g_iload dX5_bestPlay_119 rfl ?_
                refine g_ior dX5_bestPlay_121 ?_
                refine g_goto (t := 126) dX5_bestPlay_122 (by decide) ?_
                refine g_iload dX5_bestPlay_126 rfl ?_
                refine g_if_eq (t := 135) dX5_bestPlay_128 (by decide) (fun c22 => ?_) (fun c22 => ?_)
                · replace h := z_ift c22 h
                  refine g_iload_n dX5_bestPlay_135 rfl rfl ?_
                  refine g_iload dX5_bestPlay_136 rfl ?_
                  refine g_ior dX5_bestPlay_138 ?_
                  refine g_iload_n dX5_bestPlay_139 rfl rfl ?_
                  refine g_iconst (v := (1 : Int32)) dX5_bestPlay_140 (by decide) ?_
                  refine g_isub dX5_bestPlay_141 ?_
                  refine g_iload dX5_bestPlay_142 rfl ?_
                  refine g_if_ne (t := 151) dX5_bestPlay_144 (by decide) (fun c23 => ?_) (fun c23 => ?_)
                  · replace h := z_iff c23 h
                    refine g_iconst (v := (0 : Int32)) dX5_bestPlay_151 (by decide) ?_
                    refine g_iload dX5_bestPlay_152 rfl ?_
                    refine g_iload dX5_bestPlay_154 rfl ?_
                    obtain ⟨q24, e25, h⟩ := z_bd h
                    refine g_callS (as := [.ref 61, .int (x1 ||| ((1 : Int32) <<< (x8 &&& 31))), .int (x2 ||| ((1 : Int32) <<< (x8 &&& 31))), .int (x3 - (1 : Int32)), .int (0 : Int32), .int x5, .int (if x7 < x6 then x7 else x6)]) (rest := []) (c := mX5_bestPlay) (k1 := k) dX5_bestPlay_156 rfl rfl rfl rfl rfl (Nat.le_of_ble_eq_true rfl) (Nat.le_of_ble_eq_true rfl) (by omega) ?_
                    refine hG _ _ _ _ _ _ _ _ _ _ e25 ?_
                    show z_G none (k + 1) mX5_bestPlay 159 [some (.ref 61), some (.int x1), some (.int x2), some (.int x3), some (.int x4), some (.int x5), some (.int x6), some (.int x7), some (.int x8), some (.int ((1 : Int32) <<< (x8 &&& 31))), some (.int x5), some (.int (if x7 < x6 then x7 else x6)), none] [.int q24.1] q24.2 Q
                    refine g_istore (ls' := [some (.ref 61), some (.int x1), some (.int x2), some (.int x3), some (.int x4), some (.int x5), some (.int x6), some (.int x7), some (.int x8), some (.int ((1 : Int32) <<< (x8 &&& 31))), some (.int x5), some (.int (if x7 < x6 then x7 else x6)), some (.int q24.1)]) dX5_bestPlay_159 (Nat.le_of_ble_eq_true rfl) rfl ?_
                    refine g_iload dX5_bestPlay_161 rfl ?_
                    refine g_if_eq (t := 176) dX5_bestPlay_163 (by decide) (fun c26 => ?_) (fun c26 => ?_)
                    · replace h := z_ift c26 h
                      refine g_iload dX5_bestPlay_176 rfl ?_
                      refine g_iload dX5_bestPlay_178 rfl ?_
                      refine g_min dX5_bestPlay_180 rfl (Nat.le_of_ble_eq_true rfl) ?_
                      refine g_istore (ls' := [some (.ref 61), some (.int x1), some (.int x2), some (.int x3), some (.int x4), some (.int x5), some (.int x6), some (.int (if q24.1 < x7 then q24.1 else x7)), some (.int x8), some (.int ((1 : Int32) <<< (x8 &&& 31))), some (.int x5), some (.int (if x7 < x6 then x7 else x6)), some (.int q24.1)]) dX5_bestPlay_183 (Nat.le_of_ble_eq_true rfl) rfl ?_
                      refine g_iinc (v := x8 + (1 : Int32)) (ls' := [some (.ref 61), some (.int x1), some (.int x2), some (.int x3), some (.int x4), some (.int x5), some (.int x6), some (.int (if q24.1 < x7 then q24.1 else x7)), some (.int (x8 + (1 : Int32))), some (.int ((1 : Int32) <<< (x8 &&& 31))), some (.int x5), some (.int (if x7 < x6 then x7 else x6)), some (.int q24.1)]) dX5_bestPlay_185 rfl rfl rfl ?_
                      refine g_goto (t := 39) dX5_bestPlay_188 (by decide) ?_
                      exact g_sub (z_sub_s (z_sub_s (z_sub_s (z_sub_s (z_sub_s (z_sub_s (z_sub_s (z_sub_s (z_sub_s (z_sub_n (z_sub_n (z_sub_n (z_sub_n z_sub_nil))))))))))))) (ih _ _ _ _ _ _ _ _ _ _ _ _ h hq)
                    · replace h := z_iff c26 h
                      refine g_iload dX5_bestPlay_166 rfl ?_
                      refine g_iload dX5_bestPlay_168 rfl ?_
                      refine g_max dX5_bestPlay_170 rfl (Nat.le_of_ble_eq_true rfl) ?_
                      refine g_goto (t := 183) dX5_bestPlay_173 (by decide) ?_
                      refine g_istore (ls' := [some (.ref 61), some (.int x1), some (.int x2), some (.int x3), some (.int x4), some (.int x5), some (.int x6), some (.int (if x7 < q24.1 then q24.1 else x7)), some (.int x8), some (.int ((1 : Int32) <<< (x8 &&& 31))), some (.int x5), some (.int (if x7 < x6 then x7 else x6)), some (.int q24.1)]) dX5_bestPlay_183 (Nat.le_of_ble_eq_true rfl) rfl ?_
                      refine g_iinc (v := x8 + (1 : Int32)) (ls' := [some (.ref 61), some (.int x1), some (.int x2), some (.int x3), some (.int x4), some (.int x5), some (.int x6), some (.int (if x7 < q24.1 then q24.1 else x7)), some (.int (x8 + (1 : Int32))), some (.int ((1 : Int32) <<< (x8 &&& 31))), some (.int x5), some (.int (if x7 < x6 then x7 else x6)), some (.int q24.1)]) dX5_bestPlay_185 rfl rfl rfl ?_
                      refine g_goto (t := 39) dX5_bestPlay_188 (by decide) ?_
                      exact g_sub (z_sub_s (z_sub_s (z_sub_s (z_sub_s (z_sub_s (z_sub_s (z_sub_s (z_sub_s (z_sub_s (z_sub_n (z_sub_n (z_sub_n (z_sub_n z_sub_nil))))))))))))) (ih _ _ _ _ _ _ _ _ _ _ _ _ h hq)
                  · replace h := z_ift c23 h
                    refine g_iconst (v := (1 : Int32)) dX5_bestPlay_147 (by decide) ?_
                    refine g_goto (t := 152) dX5_bestPlay_148 (by decide) ?_
                    refine g_iload dX5_bestPlay_152 rfl ?_
                    refine g_iload dX5_bestPlay_154 rfl ?_
                    obtain ⟨q27, e28, h⟩ := z_bd h
                    refine g_callS (as := [.ref 61, .int (x1 ||| ((1 : Int32) <<< (x8 &&& 31))), .int (x2 ||| ((1 : Int32) <<< (x8 &&& 31))), .int (x3 - (1 : Int32)), .int (1 : Int32), .int x5, .int (if x7 < x6 then x7 else x6)]) (rest := []) (c := mX5_bestPlay) (k1 := k) dX5_bestPlay_156 rfl rfl rfl rfl rfl (Nat.le_of_ble_eq_true rfl) (Nat.le_of_ble_eq_true rfl) (by omega) ?_
                    refine hG _ _ _ _ _ _ _ _ _ _ e28 ?_
                    show z_G none (k + 1) mX5_bestPlay 159 [some (.ref 61), some (.int x1), some (.int x2), some (.int x3), some (.int x4), some (.int x5), some (.int x6), some (.int x7), some (.int x8), some (.int ((1 : Int32) <<< (x8 &&& 31))), some (.int x5), some (.int (if x7 < x6 then x7 else x6)), none] [.int q27.1] q27.2 Q
                    refine g_istore (ls' := [some (.ref 61), some (.int x1), some (.int x2), some (.int x3), some (.int x4), some (.int x5), some (.int x6), some (.int x7), some (.int x8), some (.int ((1 : Int32) <<< (x8 &&& 31))), some (.int x5), some (.int (if x7 < x6 then x7 else x6)), some (.int q27.1)]) dX5_bestPlay_159 (Nat.le_of_ble_eq_true rfl) rfl ?_
                    refine g_iload dX5_bestPlay_161 rfl ?_
                    refine g_if_eq (t := 176) dX5_bestPlay_163 (by decide) (fun c29 => ?_) (fun c29 => ?_)
                    · replace h := z_ift c29 h
                      refine g_iload dX5_bestPlay_176 rfl ?_
                      refine g_iload dX5_bestPlay_178 rfl ?_
                      refine g_min dX5_bestPlay_180 rfl (Nat.le_of_ble_eq_true rfl) ?_
                      refine g_istore (ls' := [some (.ref 61), some (.int x1), some (.int x2), some (.int x3), some (.int x4), some (.int x5), some (.int x6), some (.int (if q27.1 < x7 then q27.1 else x7)), some (.int x8), some (.int ((1 : Int32) <<< (x8 &&& 31))), some (.int x5), some (.int (if x7 < x6 then x7 else x6)), some (.int q27.1)]) dX5_bestPlay_183 (Nat.le_of_ble_eq_true rfl) rfl ?_
                      refine g_iinc (v := x8 + (1 : Int32)) (ls' := [some (.ref 61), some (.int x1), some (.int x2), some (.int x3), some (.int x4), some (.int x5), some (.int x6), some (.int (if q27.1 < x7 then q27.1 else x7)), some (.int (x8 + (1 : Int32))), some (.int ((1 : Int32) <<< (x8 &&& 31))), some (.int x5), some (.int (if x7 < x6 then x7 else x6)), some (.int q27.1)]) dX5_bestPlay_185 rfl rfl rfl ?_
                      refine g_goto (t := 39) dX5_bestPlay_188 (by decide) ?_
                      exact g_sub (z_sub_s (z_sub_s (z_sub_s (z_sub_s (z_sub_s (z_sub_s (z_sub_s (z_sub_s (z_sub_s (z_sub_n (z_sub_n (z_sub_n (z_sub_n z_sub_nil))))))))))))) (ih _ _ _ _ _ _ _ _ _ _ _ _ h hq)
                    · replace h := z_iff c29 h
                      refine g_iload dX5_bestPlay_166 rfl ?_
                      refine g_iload dX5_bestPlay_168 rfl ?_
                      refine g_max dX5_bestPlay_170 rfl (Nat.le_of_ble_eq_true rfl) ?_
                      refine g_goto (t := 183) dX5_bestPlay_173 (by decide) ?_
                      refine g_istore (ls' := [some (.ref 61), some (.int x1), some (.int x2), some (.int x3), some (.int x4), some (.int x5), some (.int x6), some (.int (if x7 < q27.1 then q27.1 else x7)), some (.int x8), some (.int ((1 : Int32) <<< (x8 &&& 31))), some (.int x5), some (.int (if x7 < x6 then x7 else x6)), some (.int q27.1)]) dX5_bestPlay_183 (Nat.le_of_ble_eq_true rfl) rfl ?_
                      refine g_iinc (v := x8 + (1 : Int32)) (ls' := [some (.ref 61), some (.int x1), some (.int x2), some (.int x3), some (.int x4), some (.int x5), some (.int x6), some (.int (if x7 < q27.1 then q27.1 else x7)), some (.int (x8 + (1 : Int32))), some (.int ((1 : Int32) <<< (x8 &&& 31))), some (.int x5), some (.int (if x7 < x6 then x7 else x6)), some (.int q27.1)]) dX5_bestPlay_185 rfl rfl rfl ?_
                      refine g_goto (t := 39) dX5_bestPlay_188 (by decide) ?_
                      exact g_sub (z_sub_s (z_sub_s (z_sub_s (z_sub_s (z_sub_s (z_sub_s (z_sub_s (z_sub_s (z_sub_s (z_sub_n (z_sub_n (z_sub_n (z_sub_n z_sub_nil))))))))))))) (ih _ _ _ _ _ _ _ _ _ _ _ _ h hq)
                · replace h := z_iff c22 h
                  refine g_iload_n dX5_bestPlay_131 rfl rfl ?_
                  refine g_goto (t := 139) dX5_bestPlay_132 (by decide) ?_
                  refine g_iload_n dX5_bestPlay_139 rfl rfl ?_
                  refine g_iconst (v := (1 : Int32)) dX5_bestPlay_140 (by decide) ?_
                  refine g_isub dX5_bestPlay_141 ?_
                  refine g_iload dX5_bestPlay_142 rfl ?_
                  refine g_if_ne (t := 151) dX5_bestPlay_144 (by decide) (fun c30 => ?_) (fun c30 => ?_)
                  · replace h := z_iff c30 h
                    refine g_iconst (v := (0 : Int32)) dX5_bestPlay_151 (by decide) ?_
                    refine g_iload dX5_bestPlay_152 rfl ?_
                    refine g_iload dX5_bestPlay_154 rfl ?_
                    obtain ⟨q31, e32, h⟩ := z_bd h
                    refine g_callS (as := [.ref 61, .int (x1 ||| ((1 : Int32) <<< (x8 &&& 31))), .int x2, .int (x3 - (1 : Int32)), .int (0 : Int32), .int x5, .int (if x7 < x6 then x7 else x6)]) (rest := []) (c := mX5_bestPlay) (k1 := k) dX5_bestPlay_156 rfl rfl rfl rfl rfl (Nat.le_of_ble_eq_true rfl) (Nat.le_of_ble_eq_true rfl) (by omega) ?_
                    refine hG _ _ _ _ _ _ _ _ _ _ e32 ?_
                    show z_G none (k + 1) mX5_bestPlay 159 [some (.ref 61), some (.int x1), some (.int x2), some (.int x3), some (.int x4), some (.int x5), some (.int x6), some (.int x7), some (.int x8), some (.int ((1 : Int32) <<< (x8 &&& 31))), some (.int x5), some (.int (if x7 < x6 then x7 else x6)), none] [.int q31.1] q31.2 Q
                    refine g_istore (ls' := [some (.ref 61), some (.int x1), some (.int x2), some (.int x3), some (.int x4), some (.int x5), some (.int x6), some (.int x7), some (.int x8), some (.int ((1 : Int32) <<< (x8 &&& 31))), some (.int x5), some (.int (if x7 < x6 then x7 else x6)), some (.int q31.1)]) dX5_bestPlay_159 (Nat.le_of_ble_eq_true rfl) rfl ?_
                    refine g_iload dX5_bestPlay_161 rfl ?_
                    refine g_if_eq (t := 176) dX5_bestPlay_163 (by decide) (fun c33 => ?_) (fun c33 => ?_)
                    · replace h := z_ift c33 h
                      refine g_iload dX5_bestPlay_176 rfl ?_
                      refine g_iload dX5_bestPlay_178 rfl ?_
                      refine g_min dX5_bestPlay_180 rfl (Nat.le_of_ble_eq_true rfl) ?_
                      refine g_istore (ls' := [some (.ref 61), some (.int x1), some (.int x2), some (.int x3), some (.int x4), some (.int x5), some (.int x6), some (.int (if q31.1 < x7 then q31.1 else x7)), some (.int x8), some (.int ((1 : Int32) <<< (x8 &&& 31))), some (.int x5), some (.int (if x7 < x6 then x7 else x6)), some (.int q31.1)]) dX5_bestPlay_183 (Nat.le_of_ble_eq_true rfl) rfl ?_
                      refine g_iinc (v := x8 + (1 : Int32)) (ls' := [some (.ref 61), some (.int x1), some (.int x2), some (.int x3), some (.int x4), some (.int x5), some (.int x6), some (.int (if q31.1 < x7 then q31.1 else x7)), some (.int (x8 + (1 : Int32))), some (.int ((1 : Int32) <<< (x8 &&& 31))), some (.int x5), some (.int (if x7 < x6 then x7 else x6)), some (.int q31.1)]) dX5_bestPlay_185 rfl rfl rfl ?_
                      refine g_goto (t := 39) dX5_bestPlay_188 (by decide) ?_
                      exact g_sub (z_sub_s (z_sub_s (z_sub_s (z_sub_s (z_sub_s (z_sub_s (z_sub_s (z_sub_s (z_sub_s (z_sub_n (z_sub_n (z_sub_n (z_sub_n z_sub_nil))))))))))))) (ih _ _ _ _ _ _ _ _ _ _ _ _ h hq)
                    · replace h := z_iff c33 h
                      refine g_iload dX5_bestPlay_166 rfl ?_
                      refine g_iload dX5_bestPlay_168 rfl ?_
                      refine g_max dX5_bestPlay_170 rfl (Nat.le_of_ble_eq_true rfl) ?_
                      refine g_goto (t := 183) dX5_bestPlay_173 (by decide) ?_
                      refine g_istore (ls' := [some (.ref 61), some (.int x1), some (.int x2), some (.int x3), some (.int x4), some (.int x5), some (.int x6), some (.int (if x7 < q31.1 then q31.1 else x7)), some (.int x8), some (.int ((1 : Int32) <<< (x8 &&& 31))), some (.int x5), some (.int (if x7 < x6 then x7 else x6)), some (.int q31.1)]) dX5_bestPlay_183 (Nat.le_of_ble_eq_true rfl) rfl ?_
                      refine g_iinc (v := x8 + (1 : Int32)) (ls' := [some (.ref 61), some (.int x1), some (.int x2), some (.int x3), some (.int x4), some (.int x5), some (.int x6), some (.int (if x7 < q31.1 then q31.1 else x7)), some (.int (x8 + (1 : Int32))), some (.int ((1 : Int32) <<< (x8 &&& 31))), some (.int x5), some (.int (if x7 < x6 then x7 else x6)), some (.int q31.1)]) dX5_bestPlay_185 rfl rfl rfl ?_
                      refine g_goto (t := 39) dX5_bestPlay_188 (by decide) ?_
                      exact g_sub (z_sub_s (z_sub_s (z_sub_s (z_sub_s (z_sub_s (z_sub_s (z_sub_s (z_sub_s (z_sub_s (z_sub_n (z_sub_n (z_sub_n (z_sub_n z_sub_nil))))))))))))) (ih _ _ _ _ _ _ _ _ _ _ _ _ h hq)
                  · replace h := z_ift c30 h
                    refine g_iconst (v := (1 : Int32)) dX5_bestPlay_147 (by decide) ?_
                    refine g_goto (t := 152) dX5_bestPlay_148 (by decide) ?_
                    refine g_iload dX5_bestPlay_152 rfl ?_
                    refine g_iload dX5_bestPlay_154 rfl ?_
                    obtain ⟨q34, e35, h⟩ := z_bd h
                    refine g_callS (as := [.ref 61, .int (x1 ||| ((1 : Int32) <<< (x8 &&& 31))), .int x2, .int (x3 - (1 : Int32)), .int (1 : Int32), .int x5, .int (if x7 < x6 then x7 else x6)]) (rest := []) (c := mX5_bestPlay) (k1 := k) dX5_bestPlay_156 rfl rfl rfl rfl rfl (Nat.le_of_ble_eq_true rfl) (Nat.le_of_ble_eq_true rfl) (by omega) ?_
                    refine hG _ _ _ _ _ _ _ _ _ _ e35 ?_
                    show z_G none (k + 1) mX5_bestPlay 159 [some (.ref 61), some (.int x1), some (.int x2), some (.int x3), some (.int x4), some (.int x5), some (.int x6), some (.int x7), some (.int x8), some (.int ((1 : Int32) <<< (x8 &&& 31))), some (.int x5), some (.int (if x7 < x6 then x7 else x6)), none] [.int q34.1] q34.2 Q
                    refine g_istore (ls' := [some (.ref 61), some (.int x1), some (.int x2), some (.int x3), some (.int x4), some (.int x5), some (.int x6), some (.int x7), some (.int x8), some (.int ((1 : Int32) <<< (x8 &&& 31))), some (.int x5), some (.int (if x7 < x6 then x7 else x6)), some (.int q34.1)]) dX5_bestPlay_159 (Nat.le_of_ble_eq_true rfl) rfl ?_
                    refine g_iload dX5_bestPlay_161 rfl ?_
                    refine g_if_eq (t := 176) dX5_bestPlay_163 (by decide) (fun c36 => ?_) (fun c36 => ?_)
                    · replace h := z_ift c36 h
                      refine g_iload dX5_bestPlay_176 rfl ?_
                      refine g_iload dX5_bestPlay_178 rfl ?_
                      refine g_min dX5_bestPlay_180 rfl (Nat.le_of_ble_eq_true rfl) ?_
                      refine g_istore (ls' := [some (.ref 61), some (.int x1), some (.int x2), some (.int x3), some (.int x4), some (.int x5), some (.int x6), some (.int (if q34.1 < x7 then q34.1 else x7)), some (.int x8), some (.int ((1 : Int32) <<< (x8 &&& 31))), some (.int x5), some (.int (if x7 < x6 then x7 else x6)), some (.int q34.1)]) dX5_bestPlay_183 (Nat.le_of_ble_eq_true rfl) rfl ?_
                      refine g_iinc (v := x8 + (1 : Int32)) (ls' := [some (.ref 61), some (.int x1), some (.int x2), some (.int x3), some (.int x4), some (.int x5), some (.int x6), some (.int (if q34.1 < x7 then q34.1 else x7)), some (.int (x8 + (1 : Int32))), some (.int ((1 : Int32) <<< (x8 &&& 31))), some (.int x5), some (.int (if x7 < x6 then x7 else x6)), some (.int q34.1)]) dX5_bestPlay_185 rfl rfl rfl ?_
                      refine g_goto (t := 39) dX5_bestPlay_188 (by decide) ?_
                      exact g_sub (z_sub_s (z_sub_s (z_sub_s (z_sub_s (z_sub_s (z_sub_s (z_sub_s (z_sub_s (z_sub_s (z_sub_n (z_sub_n (z_sub_n (z_sub_n z_sub_nil))))))))))))) (ih _ _ _ _ _ _ _ _ _ _ _ _ h hq)
                    · replace h := z_iff c36 h
                      refine g_iload dX5_bestPlay_166 rfl ?_
                      refine g_iload dX5_bestPlay_168 rfl ?_
                      refine g_max dX5_bestPlay_170 rfl (Nat.le_of_ble_eq_true rfl) ?_
                      refine g_goto (t := 183) dX5_bestPlay_173 (by decide) ?_
                      refine g_istore (ls' := [some (.ref 61), some (.int x1), some (.int x2), some (.int x3), some (.int x4), some (.int x5), some (.int x6), some (.int (if x7 < q34.1 then q34.1 else x7)), some (.int x8), some (.int ((1 : Int32) <<< (x8 &&& 31))), some (.int x5), some (.int (if x7 < x6 then x7 else x6)), some (.int q34.1)]) dX5_bestPlay_183 (Nat.le_of_ble_eq_true rfl) rfl ?_
                      refine g_iinc (v := x8 + (1 : Int32)) (ls' := [some (.ref 61), some (.int x1), some (.int x2), some (.int x3), some (.int x4), some (.int x5), some (.int x6), some (.int (if x7 < q34.1 then q34.1 else x7)), some (.int (x8 + (1 : Int32))), some (.int ((1 : Int32) <<< (x8 &&& 31))), some (.int x5), some (.int (if x7 < x6 then x7 else x6)), some (.int q34.1)]) dX5_bestPlay_185 rfl rfl rfl ?_
                      refine g_goto (t := 39) dX5_bestPlay_188 (by decide) ?_
                      exact g_sub (z_sub_s (z_sub_s (z_sub_s (z_sub_s (z_sub_s (z_sub_s (z_sub_s (z_sub_s (z_sub_s (z_sub_n (z_sub_n (z_sub_n (z_sub_n z_sub_nil))))))))))))) (ih _ _ _ _ _ _ _ _ _ _ _ _ h hq)
            · replace h := z_iff c5 h
              refine g_goto (t := 185) dX5_bestPlay_109 (by decide) ?_
              refine g_iinc (v := x8 + (1 : Int32)) (ls' := [some (.ref 61), some (.int x1), some (.int x2), some (.int x3), some (.int x4), some (.int x5), some (.int x6), some (.int x7), some (.int (x8 + (1 : Int32))), some (.int ((1 : Int32) <<< (x8 &&& 31))), some (.int x5), some (.int (if x7 < x6 then x7 else x6)), none]) dX5_bestPlay_185 rfl rfl rfl ?_
              refine g_goto (t := 39) dX5_bestPlay_188 (by decide) ?_
              exact g_sub (z_sub_s (z_sub_s (z_sub_s (z_sub_s (z_sub_s (z_sub_s (z_sub_s (z_sub_s (z_sub_s (z_sub_n (z_sub_n (z_sub_n (z_sub_n z_sub_nil))))))))))))) (ih _ _ _ _ _ _ _ _ _ _ _ _ h hq)
          · replace h := z_iff c4 h
            refine g_goto (t := 191) dX5_bestPlay_97 (by decide) ?_
            refine g_iload dX5_bestPlay_191 rfl ?_
            cases h
            exact g_iret dX5_bestPlay_193 rfl rfl hq
        · replace h := z_iff c3 h
          refine g_iload dX5_bestPlay_76 rfl ?_
          refine g_goto (t := 88) dX5_bestPlay_78 (by decide) ?_
          refine g_istore (ls' := [some (.ref 61), some (.int x1), some (.int x2), some (.int x3), some (.int x4), some (.int x5), some (.int x6), some (.int x7), some (.int x8), some (.int ((1 : Int32) <<< (x8 &&& 31))), some (.int x5), some (.int x6), none]) dX5_bestPlay_88 (Nat.le_of_ble_eq_true rfl) rfl ?_
          refine g_iload dX5_bestPlay_90 rfl ?_
          refine g_iload dX5_bestPlay_92 rfl ?_
          refine g_ic_lt (t := 100) dX5_bestPlay_94 (by decide) (fun c37 => ?_) (fun c37 => ?_)
          · replace h := z_ift c37 h
            refine g_iload_n dX5_bestPlay_100 rfl rfl ?_
            refine g_iload_n dX5_bestPlay_101 rfl rfl ?_
            refine g_ior dX5_bestPlay_102 ?_
            refine g_iload dX5_bestPlay_103 rfl ?_
            refine g_iand dX5_bestPlay_105 ?_
            refine g_if_eq (t := 112) dX5_bestPlay_106 (by decide) (fun c38 => ?_) (fun c38 => ?_)
            · replace h := z_ift c38 h
              refine g_aload_n dX5_bestPlay_112 rfl rfl ?_
              refine g_iload dX5_bestPlay_113 rfl ?_
              refine g_if_eq (t := 125) dX5_bestPlay_115 (by decide) (fun c39 => ?_) (fun c39 => ?_)
              · replace h := z_ift c39 h
                refine g_iload_n dX5_bestPlay_125 rfl rfl ?_
                refine g_iload dX5_bestPlay_126 rfl ?_
                refine g_if_eq (t := 135) dX5_bestPlay_128 (by decide) (fun c40 => ?_) (fun c40 => ?_)
                · replace h := z_ift c40 h
                  refine g_iload_n dX5_bestPlay_135 rfl rfl ?_
                  refine g_iload dX5_bestPlay_136 rfl ?_
                  refine g_ior dX5_bestPlay_138 ?_
                  refine g_iload_n dX5_bestPlay_139 rfl rfl ?_
                  refine g_iconst (v := (1 : Int32)) dX5_bestPlay_140 (by decide) ?_
                  refine g_isub dX5_bestPlay_141 ?_
                  refine g_iload dX5_bestPlay_142 rfl ?_
                  refine g_if_ne (t := 151) dX5_bestPlay_144 (by decide) (fun c41 => ?_) (fun c41 => ?_)
                  · replace h := z_iff c41 h
                    refine g_iconst (v := (0 : Int32)) dX5_bestPlay_151 (by decide) ?_
                    refine g_iload dX5_bestPlay_152 rfl ?_
                    refine g_iload dX5_bestPlay_154 rfl ?_
                    obtain ⟨q42, e43, h⟩ := z_bd h
                    refine g_callS (as := [.ref 61, .int x1, .int (x2 ||| ((1 : Int32) <<< (x8 &&& 31))), .int (x3 - (1 : Int32)), .int (0 : Int32), .int x5, .int x6]) (rest := []) (c := mX5_bestPlay) (k1 := k) dX5_bestPlay_156 rfl rfl rfl rfl rfl (Nat.le_of_ble_eq_true rfl) (Nat.le_of_ble_eq_true rfl) (by omega) ?_
                    refine hG _ _ _ _ _ _ _ _ _ _ e43 ?_
                    show z_G none (k + 1) mX5_bestPlay 159 [some (.ref 61), some (.int x1), some (.int x2), some (.int x3), some (.int x4), some (.int x5), some (.int x6), some (.int x7), some (.int x8), some (.int ((1 : Int32) <<< (x8 &&& 31))), some (.int x5), some (.int x6), none] [.int q42.1] q42.2 Q
                    refine g_istore (ls' := [some (.ref 61), some (.int x1), some (.int x2), some (.int x3), some (.int x4), some (.int x5), some (.int x6), some (.int x7), some (.int x8), some (.int ((1 : Int32) <<< (x8 &&& 31))), some (.int x5), some (.int x6), some (.int q42.1)]) dX5_bestPlay_159 (Nat.le_of_ble_eq_true rfl) rfl ?_
                    refine g_iload dX5_bestPlay_161 rfl ?_
                    refine g_if_eq (t := 176) dX5_bestPlay_163 (by decide) (fun c44 => ?_) (fun c44 => ?_)
                    · replace h := z_ift c44 h
                      refine g_iload dX5_bestPlay_176 rfl ?_
                      refine g_iload dX5_bestPlay_178 rfl ?_
                      refine g_min dX5_bestPlay_180 rfl (Nat.le_of_ble_eq_true rfl) ?_
                      refine g_istore (ls' := [some (.ref 61), some (.int x1), some (.int x2), some (.int x3), some (.int x4), some (.int x5), some (.int x6), some (.int (if q42.1 < x7 then q42.1 else x7)), some (.int x8), some (.int ((1 : Int32) <<< (x8 &&& 31))), some (.int x5), some (.int x6), some (.int q42.1)]) dX5_bestPlay_183 (Nat.le_of_ble_eq_true rfl) rfl ?_
                      refine g_iinc (v := x8 + (1 : Int32)) (ls' := [some (.ref 61), some (.int x1), some (.int x2), some (.int x3), some (.int x4), some (.int x5), some (.int x6), some (.int (if q42.1 < x7 then q42.1 else x7)), some (.int (x8 + (1 : Int32))), some (.int ((1 : Int32) <<< (x8 &&& 31))), some (.int x5), some (.int x6), some (.int q42.1)]) dX5_bestPlay_185 rfl rfl rfl ?_
                      refine g_goto (t := 39) dX5_bestPlay_188 (by decide) ?_
                      exact g_sub (z_sub_s (z_sub_s (z_sub_s (z_sub_s (z_sub_s (z_sub_s (z_sub_s (z_sub_s (z_sub_s (z_sub_n (z_sub_n (z_sub_n (z_sub_n z_sub_nil))))))))))))) (ih _ _ _ _ _ _ _ _ _ _ _ _ h hq)
                    · replace h := z_iff c44 h
                      refine g_iload dX5_bestPlay_166 rfl ?_
                      refine g_iload dX5_bestPlay_168 rfl ?_
                      refine g_max dX5_bestPlay_170 rfl (Nat.le_of_ble_eq_true rfl) ?_
                      refine g_goto (t := 183) dX5_bestPlay_173 (by decide) ?_
                      refine g_istore (ls' := [some (.ref 61), some (.int x1), some (.int x2), some (.int x3), some (.int x4), some (.int x5), some (.int x6), some (.int (if x7 < q42.1 then q42.1 else x7)), some (.int x8), some (.int ((1 : Int32) <<< (x8 &&& 31))), some (.int x5), some (.int x6), some (.int q42.1)]) dX5_bestPlay_183 (Nat.le_of_ble_eq_true rfl) rfl ?_
                      refine g_iinc (v := x8 + (1 : Int32)) (ls' := [some (.ref 61), some (.int x1), some (.int x2), some (.int x3), some (.int x4), some (.int x5), some (.int x6), some (.int (if x7 < q42.1 then q42.1 else x7)), some (.int (x8 + (1 : Int32))), some (.int ((1 : Int32) <<< (x8 &&& 31))), some (.int x5), some (.int x6), some (.int q42.1)]) dX5_bestPlay_185 rfl rfl rfl ?_
                      refine g_goto (t := 39) dX5_bestPlay_188 (by decide) ?_
                      exact g_sub (z_sub_s (z_sub_s (z_sub_s (z_sub_s (z_sub_s (z_sub_s (z_sub_s (z_sub_s (z_sub_s (z_sub_n (z_sub_n (z_sub_n (z_sub_n z_sub_nil))))))))))))) (ih _ _ _ _ _ _ _ _ _ _ _ _ h hq)
                  · replace h := z_ift c41 h
                    refine g_iconst (v := (1 : Int32)) dX5_bestPlay_147 (by decide) ?_
                    refine g_goto (t := 152) dX5_bestPlay_148 (by decide) ?_
                    refine g_iload dX5_bestPlay_152 rfl ?_
                    refine g_iload dX5_bestPlay_154 rfl ?_
                    obtain ⟨q45, e46, h⟩ := z_bd h
                    refine g_callS (as := [.ref 61, .int x1, .int (x2 ||| ((1 : Int32) <<< (x8 &&& 31))), .int (x3 - (1 : Int32)), .int (1 : Int32), .int x5, .int x6]) (rest := []) (c := mX5_bestPlay) (k1 := k) dX5_bestPlay_156 rfl rfl rfl rfl rfl (Nat.le_of_ble_eq_true rfl) (Nat.le_of_ble_eq_true rfl) (by omega) ?_
                    refine hG _ _ _ _ _ _ _ _ _ _ e46 ?_
                    show z_G none (k + 1) mX5_bestPlay 159 [some (.ref 61), some (.int x1), some (.int x2), some (.int x3), some (.int x4), some (.int x5), some (.int x6), some (.int x7), some (.int x8), some (.int ((1 : Int32) <<< (x8 &&& 31))), some (.int x5), some (.int x6), none] [.int q45.1] q45.2 Q
                    refine g_istore (ls' := [some (.ref 61), some (.int x1), some (.int x2), some (.int x3), some (.int x4), some (.int x5), some (.int x6), some (.int x7), some (.int x8), some (.int ((1 : Int32) <<< (x8 &&& 31))), some (.int x5), some (.int x6), some (.int q45.1)]) dX5_bestPlay_159 (Nat.le_of_ble_eq_true rfl) rfl ?_
                    refine g_iload dX5_bestPlay_161 rfl ?_
                    refine g_if_eq (t := 176) dX5_bestPlay_163 (by decide) (fun c47 => ?_) (fun c47 => ?_)
                    · replace h := z_ift c47 h
                      refine g_iload dX5_bestPlay_176 rfl ?_
                      refine g_iload dX5_bestPlay_178 rfl ?_
                      refine g_min dX5_bestPlay_180 rfl (Nat.le_of_ble_eq_true rfl) ?_
                      refine g_istore (ls' := [some (.ref 61), some (.int x1), some (.int x2), some (.int x3), some (.int x4), some (.int x5), some (.int x6), some (.int (if q45.1 < x7 then q45.1 else x7)), some (.int x8), some (.int ((1 : Int32) <<< (x8 &&& 31))), some (.int x5), some (.int x6), some (.int q45.1)]) dX5_bestPlay_183 (Nat.le_of_ble_eq_true rfl) rfl ?_
                      refine g_iinc (v := x8 + (1 : Int32)) (ls' := [some (.ref 61), some (.int x1), some (.int x2), some (.int x3), some (.int x4), some (.int x5), some (.int x6), some (.int (if q45.1 < x7 then q45.1 else x7)), some (.int (x8 + (1 : Int32))), some (.int ((1 : Int32) <<< (x8 &&& 31))), some (.int x5), some (.int x6), some (.int q45.1)]) dX5_bestPlay_185 rfl rfl rfl ?_
                      refine g_goto (t := 39) dX5_bestPlay_188 (by decide) ?_
                      exact g_sub (z_sub_s (z_sub_s (z_sub_s (z_sub_s (z_sub_s (z_sub_s (z_sub_s (z_sub_s (z_sub_s (z_sub_n (z_sub_n (z_sub_n (z_sub_n z_sub_nil))))))))))))) (ih _ _ _ _ _ _ _ _ _ _ _ _ h hq)
                    · replace h := z_iff c47 h
                      refine g_iload dX5_bestPlay_166 rfl ?_
                      refine g_iload dX5_bestPlay_168 rfl ?_
                      refine g_max dX5_bestPlay_170 rfl (Nat.le_of_ble_eq_true rfl) ?_
                      refine g_goto (t := 183) dX5_bestPlay_173 (by decide) ?_
                      refine g_istore (ls' := [some (.ref 61), some (.int x1), some (.int x2), some (.int x3), some (.int x4), some (.int x5), some (.int x6), some (.int (if x7 < q45.1 then q45.1 else x7)), some (.int x8), some (.int ((1 : Int32) <<< (x8 &&& 31))), some (.int x5), some (.int x6), some (.int q45.1)]) dX5_bestPlay_183 (Nat.le_of_ble_eq_true rfl) rfl ?_
                      refine g_iinc (v := x8 + (1 : Int32)) (ls' := [some (.ref 61), some (.int x1), some (.int x2), some (.int x3), some (.int x4), some (.int x5), some (.int x6), some (.int (if x7 < q45.1 then q45.1 else x7)), some (.int (x8 + (1 : Int32))), some (.int ((1 : Int32) <<< (x8 &&& 31))), some (.int x5), some (.int x6), some (.int q45.1)]) dX5_bestPlay_185 rfl rfl rfl ?_
                      refine g_goto (t := 39) dX5_bestPlay_188 (by decide) ?_
                      exact g_sub (z_sub_s (z_sub_s (z_sub_s (z_sub_s (z_sub_s (z_sub_s (z_sub_s (z_sub_s (z_sub_s (z_sub_n (z_sub_n (z_sub_n (z_sub_n z_sub_nil))))))))))))) (ih _ _ _ _ _ _ _ _ _ _ _ _ h hq)
                · replace h := z_iff c40 h
                  refine g_iload_n dX5_bestPlay_131 rfl rfl ?_
                  refine g_goto (t := 139) dX5_bestPlay_132 (by decide) ?_
                  refine g_iload_n dX5_bestPlay_139 rfl rfl ?_
                  refine g_iconst (v := (1 : Int32)) dX5_bestPlay_140 (by decide) ?_
                  refine g_isub dX5_bestPlay_141 ?_
                  refine g_iload dX5_bestPlay_142 rfl ?_
                  refine g_if_ne (t := 151) dX5_bestPlay_144 (by decide) (fun c48 => ?_) (fun c48 => ?_)
                  · replace h := z_iff c48 h
                    refine g_iconst (v := (0 : Int32)) dX5_bestPlay_151 (by decide) ?_
                    refine g_iload dX5_bestPlay_152 rfl ?_
                    refine g_iload dX5_bestPlay_154 rfl ?_
                    obtain ⟨q49, e50, h⟩ := z_bd h
                    refine g_callS (as := [.ref 61, .int x1, .int x2, .int (x3 - (1 : Int32)), .int (0 : Int32), .int x5, .int x6]) (rest := []) (c := mX5_bestPlay) (k1 := k) dX5_bestPlay_156 rfl rfl rfl rfl rfl (Nat.le_of_ble_eq_true rfl) (Nat.le_of_ble_eq_true rfl) (by omega) ?_
                    refine hG _ _ _ _ _ _ _ _ _ _ e50 ?_
                    show z_G none (k + 1) mX5_bestPlay 159 [some (.ref 61), some (.int x1), some (.int x2), some (.int x3), some (.int x4), some (.int x5), some (.int x6), some (.int x7), some (.int x8), some (.int ((1 : Int32) <<< (x8 &&& 31))), some (.int x5), some (.int x6), none] [.int q49.1] q49.2 Q
                    refine g_istore (ls' := [some (.ref 61), some (.int x1), some (.int x2), some (.int x3), some (.int x4), some (.int x5), some (.int x6), some (.int x7), some (.int x8), some (.int ((1 : Int32) <<< (x8 &&& 31))), some (.int x5), some (.int x6), some (.int q49.1)]) dX5_bestPlay_159 (Nat.le_of_ble_eq_true rfl) rfl ?_
                    refine g_iload dX5_bestPlay_161 rfl ?_
                    refine g_if_eq (t := 176) dX5_bestPlay_163 (by decide) (fun c51 => ?_) (fun c51 => ?_)
                    · replace h := z_ift c51 h
                      refine g_iload dX5_bestPlay_176 rfl ?_
                      refine g_iload dX5_bestPlay_178 rfl ?_
                      refine g_min dX5_bestPlay_180 rfl (Nat.le_of_ble_eq_true rfl) ?_
                      refine g_istore (ls' := [some (.ref 61), some (.int x1), some (.int x2), some (.int x3), some (.int x4), some (.int x5), some (.int x6), some (.int (if q49.1 < x7 then q49.1 else x7)), some (.int x8), some (.int ((1 : Int32) <<< (x8 &&& 31))), some (.int x5), some (.int x6), some (.int q49.1)]) dX5_bestPlay_183 (Nat.le_of_ble_eq_true rfl) rfl ?_
                      refine g_iinc (v := x8 + (1 : Int32)) (ls' := [some (.ref 61), some (.int x1), some (.int x2), some (.int x3), some (.int x4), some (.int x5), some (.int x6), some (.int (if q49.1 < x7 then q49.1 else x7)), some (.int (x8 + (1 : Int32))), some (.int ((1 : Int32) <<< (x8 &&& 31))), some (.int x5), some (.int x6), some (.int q49.1)]) dX5_bestPlay_185 rfl rfl rfl ?_
                      refine g_goto (t := 39) dX5_bestPlay_188 (by decide) ?_
                      exact g_sub (z_sub_s (z_sub_s (z_sub_s (z_sub_s (z_sub_s (z_sub_s (z_sub_s (z_sub_s (z_sub_s (z_sub_n (z_sub_n (z_sub_n (z_sub_n z_sub_nil))))))))))))) (ih _ _ _ _ _ _ _ _ _ _ _ _ h hq)
                    · replace h := z_iff c51 h
                      refine g_iload dX5_bestPlay_166 rfl ?_
                      refine g_iload dX5_bestPlay_168 rfl ?_
                      refine g_max dX5_bestPlay_170 rfl (Nat.le_of_ble_eq_true rfl) ?_
                      refine g_goto (t := 183) dX5_bestPlay_173 (by decide) ?_
                      refine g_istore (ls' := [some (.ref 61), some (.int x1), some (.int x2), some (.int x3), some (.int x4), some (.int x5), some (.int x6), some (.int (if x7 < q49.1 then q49.1 else x7)), some (.int x8), some (.int ((1 : Int32) <<< (x8 &&& 31))), some (.int x5), some (.int x6), some (.int q49.1)]) dX5_bestPlay_183 (Nat.le_of_ble_eq_true rfl) rfl ?_
                      refine g_iinc (v := x8 + (1 : Int32)) (ls' := [some (.ref 61), some (.int x1), some (.int x2), some (.int x3), some (.int x4), some (.int x5), some (.int x6), some (.int (if x7 < q49.1 then q49.1 else x7)), some (.int (x8 + (1 : Int32))), some (.int ((1 : Int32) <<< (x8 &&& 31))), some (.int x5), some (.int x6), some (.int q49.1)]) dX5_bestPlay_185 rfl rfl rfl ?_
                      refine g_goto (t := 39) dX5_bestPlay_188 (by decide) ?_
                      exact g_sub (z_sub_s (z_sub_s (z_sub_s (z_sub_s (z_sub_s (z_sub_s (z_sub_s (z_sub_s (z_sub_s (z_sub_n (z_sub_n (z_sub_n (z_sub_n z_sub_nil))))))))))))) (ih _ _ _ _ _ _ _ _ _ _ _ _ h hq)
                  · replace h := z_ift c48 h
                    refine g_iconst (v := (1 : Int32)) dX5_bestPlay_147 (by decide) ?_
                    refine g_goto (t := 152) dX5_bestPlay_148 (by decide) ?_
                    refine g_iload dX5_bestPlay_152 rfl ?_
                    refine g_iload dX5_bestPlay_154 rfl ?_
                    obtain ⟨q52, e53, h⟩ := z_bd h
                    refine g_callS (as := [.ref 61, .int x1, .int x2, .int (x3 - (1 : Int32)), .int (1 : Int32), .int x5, .int x6]) (rest := []) (c := mX5_bestPlay) (k1 := k) dX5_bestPlay_156 rfl rfl rfl rfl rfl (Nat.le_of_ble_eq_true rfl) (Nat.le_of_ble_eq_true rfl) (by omega) ?_
                    refine hG _ _ _ _ _ _ _ _ _ _ e53 ?_
                    show z_G none (k + 1) mX5_bestPlay 159 [some (.ref 61), some (.int x1), some (.int x2), some (.int x3), some (.int x4), some (.int x5), some (.int x6), some (.int x7), some (.int x8), some (.int ((1 : Int32) <<< (x8 &&& 31))), some (.int x5), some (.int x6), none] [.int q52.1] q52.2 Q
                    refine g_istore (ls' := [some (.ref 61), some (.int x1), some (.int x2), some (.int x3), some (.int x4), some (.int x5), some (.int x6), some (.int x7), some (.int x8), some (.int ((1 : Int32) <<< (x8 &&& 31))), some (.int x5), some (.int x6), some (.int q52.1)]) dX5_bestPlay_159 (Nat.le_of_ble_eq_true rfl) rfl ?_
                    refine g_iload dX5_bestPlay_161 rfl ?_
                    refine g_if_eq (t := 176) dX5_bestPlay_163 (by decide) (fun c54 => ?_) (fun c54 => ?_)
                    · replace h := z_ift c54 h
                      refine g_iload dX5_bestPlay_176 rfl ?_
                      refine g_iload dX5_bestPlay_178 rfl ?_
                      refine g_min dX5_bestPlay_180 rfl (Nat.le_of_ble_eq_true rfl) ?_
                      refine g_istore (ls' := [some (.ref 61), some (.int x1), some (.int x2), some (.int x3), some (.int x4), some (.int x5), some (.int x6), some (.int (if q52.1 < x7 then q52.1 else x7)), some (.int x8), some (.int ((1 : Int32) <<< (x8 &&& 31))), some (.int x5), some (.int x6), some (.int q52.1)]) dX5_bestPlay_183 (Nat.le_of_ble_eq_true rfl) rfl ?_
                      refine g_iinc (v := x8 + (1 : Int32)) (ls' := [some (.ref 61), some (.int x1), some (.int x2), some (.int x3), some (.int x4), some (.int x5), some (.int x6), some (.int (if q52.1 < x7 then q52.1 else x7)), some (.int (x8 + (1 : Int32))), some (.int ((1 : Int32) <<< (x8 &&& 31))), some (.int x5), some (.int x6), some (.int q52.1)]) dX5_bestPlay_185 rfl rfl rfl ?_
                      refine g_goto (t := 39) dX5_bestPlay_188 (by decide) ?_
                      exact g_sub (z_sub_s (z_sub_s (z_sub_s (z_sub_s (z_sub_s (z_sub_s (z_sub_s (z_sub_s (z_sub_s (z_sub_n (z_sub_n (z_sub_n (z_sub_n z_sub_nil))))))))))))) (ih _ _ _ _ _ _ _ _ _ _ _ _ h hq)
                    · replace h := z_iff c54 h
                      refine g_iload dX5_bestPlay_166 rfl ?_
                      refine g_iload dX5_bestPlay_168 rfl ?_
                      refine g_max dX5_bestPlay_170 rfl (Nat.le_of_ble_eq_true rfl) ?_
                      refine g_goto (t := 183) dX5_bestPlay_173 (by decide) ?_
                      refine g_istore (ls' := [some (.ref 61), some (.int x1), some (.int x2), some (.int x3), some (.int x4), some (.int x5), some (.int x6), some (.int (if x7 < q52.1 then q52.1 else x7)), some (.int x8), some (.int ((1 : Int32) <<< (x8 &&& 31))), some (.int x5), some (.int x6), some (.int q52.1)]) dX5_bestPlay_183 (Nat.le_of_ble_eq_true rfl) rfl ?_
                      refine g_iinc (v := x8 + (1 : Int32)) (ls' := [some (.ref 61), some (.int x1), some (.int x2), some (.int x3), some (.int x4), some (.int x5), some (.int x6), some (.int (if x7 < q52.1 then q52.1 else x7)), some (.int (x8 + (1 : Int32))), some (.int ((1 : Int32) <<< (x8 &&& 31))), some (.int x5), some (.int x6), some (.int q52.1)]) dX5_bestPlay_185 rfl rfl rfl ?_
                      refine g_goto (t := 39) dX5_bestPlay_188 (by decide) ?_
                      exact g_sub (z_sub_s (z_sub_s (z_sub_s (z_sub_s (z_sub_s (z_sub_s (z_sub_s (z_sub_s (z_sub_s (z_sub_n (z_sub_n (z_sub_n (z_sub_n z_sub_nil))))))))))))) (ih _ _ _ _ _ _ _ _ _ _ _ _ h hq)
              · replace h := z_iff c39 h
                refine g_iload_n dX5_bestPlay_118 rfl rfl ?_
                refine g_iload dX5_bestPlay_119 rfl ?_
                refine g_ior dX5_bestPlay_121 ?_
                refine g_goto (t := 126) dX5_bestPlay_122 (by decide) ?_
                refine g_iload dX5_bestPlay_126 rfl ?_
                refine g_if_eq (t := 135) dX5_bestPlay_128 (by decide) (fun c55 => ?_) (fun c55 => ?_)
                · replace h := z_ift c55 h
                  refine g_iload_n dX5_bestPlay_135 rfl rfl ?_
                  refine g_iload dX5_bestPlay_136 rfl ?_
                  refine g_ior dX5_bestPlay_138 ?_
                  refine g_iload_n dX5_bestPlay_139 rfl rfl ?_
                  refine g_iconst (v := (1 : Int32)) dX5_bestPlay_140 (by decide) ?_
                  refine g_isub dX5_bestPlay_141 ?_
                  refine g_iload dX5_bestPlay_142 rfl ?_
                  refine g_if_ne (t := 151) dX5_bestPlay_144 (by decide) (fun c56 => ?_) (fun c56 => ?_)
                  · replace h := z_iff c56 h
                    refine g_iconst (v := (0 : Int32)) dX5_bestPlay_151 (by decide) ?_
                    refine g_iload dX5_bestPlay_152 rfl ?_
                    refine g_iload dX5_bestPlay_154 rfl ?_
                    obtain ⟨q57, e58, h⟩ := z_bd h
                    refine g_callS (as := [.ref 61, .int (x1 ||| ((1 : Int32) <<< (x8 &&& 31))), .int (x2 ||| ((1 : Int32) <<< (x8 &&& 31))), .int (x3 - (1 : Int32)), .int (0 : Int32), .int x5, .int x6]) (rest := []) (c := mX5_bestPlay) (k1 := k) dX5_bestPlay_156 rfl rfl rfl rfl rfl (Nat.le_of_ble_eq_true rfl) (Nat.le_of_ble_eq_true rfl) (by omega) ?_
                    refine hG _ _ _ _ _ _ _ _ _ _ e58 ?_
                    show z_G none (k + 1) mX5_bestPlay 159 [some (.ref 61), some (.int x1), some (.int x2), some (.int x3), some (.int x4), some (.int x5), some (.int x6), some (.int x7), some (.int x8), some (.int ((1 : Int32) <<< (x8 &&& 31))), some (.int x5), some (.int x6), none] [.int q57.1] q57.2 Q
                    refine g_istore (ls' := [some (.ref 61), some (.int x1), some (.int x2), some (.int x3), some (.int x4), some (.int x5), some (.int x6), some (.int x7), some (.int x8), some (.int ((1 : Int32) <<< (x8 &&& 31))), some (.int x5), some (.int x6), some (.int q57.1)]) dX5_bestPlay_159 (Nat.le_of_ble_eq_true rfl) rfl ?_
                    refine g_iload dX5_bestPlay_161 rfl ?_
                    refine g_if_eq (t := 176) dX5_bestPlay_163 (by decide) (fun c59 => ?_) (fun c59 => ?_)
                    · replace h := z_ift c59 h
                      refine g_iload dX5_bestPlay_176 rfl ?_
                      refine g_iload dX5_bestPlay_178 rfl ?_
                      refine g_min dX5_bestPlay_180 rfl (Nat.le_of_ble_eq_true rfl) ?_
                      refine g_istore (ls' := [some (.ref 61), some (.int x1), some (.int x2), some (.int x3), some (.int x4), some (.int x5), some (.int x6), some (.int (if q57.1 < x7 then q57.1 else x7)), some (.int x8), some (.int ((1 : Int32) <<< (x8 &&& 31))), some (.int x5), some (.int x6), some (.int q57.1)]) dX5_bestPlay_183 (Nat.le_of_ble_eq_true rfl) rfl ?_
                      refine g_iinc (v := x8 + (1 : Int32)) (ls' := [some (.ref 61), some (.int x1), some (.int x2), some (.int x3), some (.int x4), some (.int x5), some (.int x6), some (.int (if q57.1 < x7 then q57.1 else x7)), some (.int (x8 + (1 : Int32))), some (.int ((1 : Int32) <<< (x8 &&& 31))), some (.int x5), some (.int x6), some (.int q57.1)]) dX5_bestPlay_185 rfl rfl rfl ?_
                      refine g_goto (t := 39) dX5_bestPlay_188 (by decide) ?_
                      exact g_sub (z_sub_s (z_sub_s (z_sub_s (z_sub_s (z_sub_s (z_sub_s (z_sub_s (z_sub_s (z_sub_s (z_sub_n (z_sub_n (z_sub_n (z_sub_n z_sub_nil))))))))))))) (ih _ _ _ _ _ _ _ _ _ _ _ _ h hq)
                    · replace h := z_iff c59 h
                      refine g_iload dX5_bestPlay_166 rfl ?_
                      refine g_iload dX5_bestPlay_168 rfl ?_
                      refine g_max dX5_bestPlay_170 rfl (Nat.le_of_ble_eq_true rfl) ?_
                      refine g_goto (t := 183) dX5_bestPlay_173 (by decide) ?_
                      refine g_istore (ls' := [some (.ref 61), some (.int x1), some (.int x2), some (.int x3), some (.int x4), some (.int x5), some (.int x6), some (.int (if x7 < q57.1 then q57.1 else x7)), some (.int x8), some (.int ((1 : Int32) <<< (x8 &&& 31))), some (.int x5), some (.int x6), some (.int q57.1)]) dX5_bestPlay_183 (Nat.le_of_ble_eq_true rfl) rfl ?_
                      refine g_iinc (v := x8 + (1 : Int32)) (ls' := [some (.ref 61), some (.int x1), some (.int x2), some (.int x3), some (.int x4), some (.int x5), some (.int x6), some (.int (if x7 < q57.1 then q57.1 else x7)), some (.int (x8 + (1 : Int32))), some (.int ((1 : Int32) <<< (x8 &&& 31))), some (.int x5), some (.int x6), some (.int q57.1)]) dX5_bestPlay_185 rfl rfl rfl ?_
                      refine g_goto (t := 39) dX5_bestPlay_188 (by decide) ?_
                      exact g_sub (z_sub_s (z_sub_s (z_sub_s (z_sub_s (z_sub_s (z_sub_s (z_sub_s (z_sub_s (z_sub_s (z_sub_n (z_sub_n (z_sub_n (z_sub_n z_sub_nil))))))))))))) (ih _ _ _ _ _ _ _ _ _ _ _ _ h hq)
                  · replace h := z_ift c56 h
                    refine g_iconst (v := (1 : Int32)) dX5_bestPlay_147 (by decide) ?_
                    refine g_goto (t := 152) dX5_bestPlay_148 (by decide) ?_
                    refine g_iload dX5_bestPlay_152 rfl ?_
                    refine g_iload dX5_bestPlay_154 rfl ?_
                    obtain ⟨q60, e61, h⟩ := z_bd h
                    refine g_callS (as := [.ref 61, .int (x1 ||| ((1 : Int32) <<< (x8 &&& 31))), .int (x2 ||| ((1 : Int32) <<< (x8 &&& 31))), .int (x3 - (1 : Int32)), .int (1 : Int32), .int x5, .int x6]) (rest := []) (c := mX5_bestPlay) (k1 := k) dX5_bestPlay_156 rfl rfl rfl rfl rfl (Nat.le_of_ble_eq_true rfl) (Nat.le_of_ble_eq_true rfl) (by omega) ?_
                    refine hG _ _ _ _ _ _ _ _ _ _ e61 ?_
                    show z_G none (k + 1) mX5_bestPlay 159 [some (.ref 61), some (.int x1), some (.int x2), some (.int x3), some (.int x4), some (.int x5), some (.int x6), some (.int x7), some (.int x8), some (.int ((1 : Int32) <<< (x8 &&& 31))), some (.int x5), some (.int x6), none] [.int q60.1] q60.2 Q
                    refine g_istore (ls' := [some (.ref 61), some (.int x1), some (.int x2), some (.int x3), some (.int x4), some (.int x5), some (.int x6), some (.int x7), some (.int x8), some (.int ((1 : Int32) <<< (x8 &&& 31))), some (.int x5), some (.int x6), some (.int q60.1)]) dX5_bestPlay_159 (Nat.le_of_ble_eq_true rfl) rfl ?_
                    refine g_iload dX5_bestPlay_161 rfl ?_
                    refine g_if_eq (t := 176) dX5_bestPlay_163 (by decide) (fun c62 => ?_) (fun c62 => ?_)
                    · replace h := z_ift c62 h
                      refine g_iload dX5_bestPlay_176 rfl ?_
                      refine g_iload dX5_bestPlay_178 rfl ?_
                      refine g_min dX5_bestPlay_180 rfl (Nat.le_of_ble_eq_true rfl) ?_
                      refine g_istore (ls' := [some (.ref 61), some (.int x1), some (.int x2), some (.int x3), some (.int x4), some (.int x5), some (.int x6), some (.int (if q60.1 < x7 then q60.1 else x7)), some (.int x8), some (.int ((1 : Int32) <<< (x8 &&& 31))), some (.int x5), some (.int x6), some (.int q60.1)]) dX5_bestPlay_183 (Nat.le_of_ble_eq_true rfl) rfl ?_
                      refine g_iinc (v := x8 + (1 : Int32)) (ls' := [some (.ref 61), some (.int x1), some (.int x2), some (.int x3), some (.int x4), some (.int x5), some (.int x6), some (.int (if q60.1 < x7 then q60.1 else x7)), some (.int (x8 + (1 : Int32))), some (.int ((1 : Int32) <<< (x8 &&& 31))), some (.int x5), some (.int x6), some (.int q60.1)]) dX5_bestPlay_185 rfl rfl rfl ?_
                      refine g_goto (t := 39) dX5_bestPlay_188 (by decide) ?_
                      exact g_sub (z_sub_s (z_sub_s (z_sub_s (z_sub_s (z_sub_s (z_sub_s (z_sub_s (z_sub_s (z_sub_s (z_sub_n (z_sub_n (z_sub_n (z_sub_n z_sub_nil))))))))))))) (ih _ _ _ _ _ _ _ _ _ _ _ _ h hq)
                    · replace h := z_iff c62 h
                      refine g_iload dX5_bestPlay_166 rfl ?_
                      refine g_iload dX5_bestPlay_168 rfl ?_
                      refine g_max dX5_bestPlay_170 rfl (Nat.le_of_ble_eq_true rfl) ?_
                      refine g_goto (t := 183) dX5_bestPlay_173 (by decide) ?_
                      refine g_istore (ls' := [some (.ref 61), some (.int x1), some (.int x2), some (.int x3), some (.int x4), some (.int x5), some (.int x6), some (.int (if x7 < q60.1 then q60.1 else x7)), some (.int x8), some (.int ((1 : Int32) <<< (x8 &&& 31))), some (.int x5), some (.int x6), some (.int q60.1)]) dX5_bestPlay_183 (Nat.le_of_ble_eq_true rfl) rfl ?_
                      refine g_iinc (v := x8 + (1 : Int32)) (ls' := [some (.ref 61), some (.int x1), some (.int x2), some (.int x3), some (.int x4), some (.int x5), some (.int x6), some (.int (if x7 < q60.1 then q60.1 else x7)), some (.int (x8 + (1 : Int32))), some (.int ((1 : Int32) <<< (x8 &&& 31))), some (.int x5), some (.int x6), some (.int q60.1)]) dX5_bestPlay_185 rfl rfl rfl ?_
                      refine g_goto (t := 39) dX5_bestPlay_188 (by decide) ?_
                      exact g_sub (z_sub_s (z_sub_s (z_sub_s (z_sub_s (z_sub_s (z_sub_s (z_sub_s (z_sub_s (z_sub_s (z_sub_n (z_sub_n (z_sub_n (z_sub_n z_sub_nil))))))))))))) (ih _ _ _ _ _ _ _ _ _ _ _ _ h hq)
                · replace h := z_iff c55 h
                  refine g_iload_n dX5_bestPlay_131 rfl rfl ?_
                  refine g_goto (t := 139) dX5_bestPlay_132 (by decide) ?_
                  refine g_iload_n dX5_bestPlay_139 rfl rfl ?_
                  refine g_iconst (v := (1 : Int32)) dX5_bestPlay_140 (by decide) ?_
                  refine g_isub dX5_bestPlay_141 ?_
                  refine g_iload dX5_bestPlay_142 rfl ?_
                  refine g_if_ne (t := 151) dX5_bestPlay_144 (by decide) (fun c63 => ?_) (fun c63 => ?_)
                  · replace h := z_iff c63 h
                    refine g_iconst (v := (0 : Int32)) dX5_bestPlay_151 (by decide) ?_
                    refine g_iload dX5_bestPlay_152 rfl ?_
                    refine g_iload dX5_bestPlay_154 rfl ?_
                    obtain ⟨q64, e65, h⟩ := z_bd h
                    refine g_callS (as := [.ref 61, .int (x1 ||| ((1 : Int32) <<< (x8 &&& 31))), .int x2, .int (x3 - (1 : Int32)), .int (0 : Int32), .int x5, .int x6]) (rest := []) (c := mX5_bestPlay) (k1 := k) dX5_bestPlay_156 rfl rfl rfl rfl rfl (Nat.le_of_ble_eq_true rfl) (Nat.le_of_ble_eq_true rfl) (by omega) ?_
                    refine hG _ _ _ _ _ _ _ _ _ _ e65 ?_
                    show z_G none (k + 1) mX5_bestPlay 159 [some (.ref 61), some (.int x1), some (.int x2), some (.int x3), some (.int x4), some (.int x5), some (.int x6), some (.int x7), some (.int x8), some (.int ((1 : Int32) <<< (x8 &&& 31))), some (.int x5), some (.int x6), none] [.int q64.1] q64.2 Q
                    refine g_istore (ls' := [some (.ref 61), some (.int x1), some (.int x2), some (.int x3), some (.int x4), some (.int x5), some (.int x6), some (.int x7), some (.int x8), some (.int ((1 : Int32) <<< (x8 &&& 31))), some (.int x5), some (.int x6), some (.int q64.1)]) dX5_bestPlay_159 (Nat.le_of_ble_eq_true rfl) rfl ?_
                    refine g_iload dX5_bestPlay_161 rfl ?_
                    refine g_if_eq (t := 176) dX5_bestPlay_163 (by decide) (fun c66 => ?_) (fun c66 => ?_)
                    · replace h := z_ift c66 h
                      refine g_iload dX5_bestPlay_176 rfl ?_
                      refine g_iload dX5_bestPlay_178 rfl ?_
                      refine g_min dX5_bestPlay_180 rfl (Nat.le_of_ble_eq_true rfl) ?_
                      refine g_istore (ls' := [some (.ref 61), some (.int x1), some (.int x2), some (.int x3), some (.int x4), some (.int x5), some (.int x6), some (.int (if q64.1 < x7 then q64.1 else x7)), some (.int x8), some (.int ((1 : Int32) <<< (x8 &&& 31))), some (.int x5), some (.int x6), some (.int q64.1)]) dX5_bestPlay_183 (Nat.le_of_ble_eq_true rfl) rfl ?_
                      refine g_iinc (v := x8 + (1 : Int32)) (ls' := [some (.ref 61), some (.int x1), some (.int x2), some (.int x3), some (.int x4), some (.int x5), some (.int x6), some (.int (if q64.1 < x7 then q64.1 else x7)), some (.int (x8 + (1 : Int32))), some (.int ((1 : Int32) <<< (x8 &&& 31))), some (.int x5), some (.int x6), some (.int q64.1)]) dX5_bestPlay_185 rfl rfl rfl ?_
                      refine g_goto (t := 39) dX5_bestPlay_188 (by decide) ?_
                      exact g_sub (z_sub_s (z_sub_s (z_sub_s (z_sub_s (z_sub_s (z_sub_s (z_sub_s (z_sub_s (z_sub_s (z_sub_n (z_sub_n (z_sub_n (z_sub_n z_sub_nil))))))))))))) (ih _ _ _ _ _ _ _ _ _ _ _ _ h hq)
                    · replace h := z_iff c66 h
                      refine g_iload dX5_bestPlay_166 rfl ?_
                      refine g_iload dX5_bestPlay_168 rfl ?_
                      refine g_max dX5_bestPlay_170 rfl (Nat.le_of_ble_eq_true rfl) ?_
                      refine g_goto (t := 183) dX5_bestPlay_173 (by decide) ?_
                      refine g_istore (ls' := [some (.ref 61), some (.int x1), some (.int x2), some (.int x3), some (.int x4), some (.int x5), some (.int x6), some (.int (if x7 < q64.1 then q64.1 else x7)), some (.int x8), some (.int ((1 : Int32) <<< (x8 &&& 31))), some (.int x5), some (.int x6), some (.int q64.1)]) dX5_bestPlay_183 (Nat.le_of_ble_eq_true rfl) rfl ?_
                      refine g_iinc (v := x8 + (1 : Int32)) (ls' := [some (.ref 61), some (.int x1), some (.int x2), some (.int x3), some (.int x4), some (.int x5), some (.int x6), some (.int (if x7 < q64.1 then q64.1 else x7)), some (.int (x8 + (1 : Int32))), some (.int ((1 : Int32) <<< (x8 &&& 31))), some (.int x5), some (.int x6), some (.int q64.1)]) dX5_bestPlay_185 rfl rfl rfl ?_
                      refine g_goto (t := 39) dX5_bestPlay_188 (by decide) ?_
                      exact g_sub (z_sub_s (z_sub_s (z_sub_s (z_sub_s (z_sub_s (z_sub_s (z_sub_s (z_sub_s (z_sub_s (z_sub_n (z_sub_n (z_sub_n (z_sub_n z_sub_nil))))))))))))) (ih _ _ _ _ _ _ _ _ _ _ _ _ h hq)
                  · replace h := z_ift c63 h
                    refine g_iconst (v := (1 : Int32)) dX5_bestPlay_147 (by decide) ?_
                    refine g_goto (t := 152) dX5_bestPlay_148 (by decide) ?_
                    refine g_iload dX5_bestPlay_152 rfl ?_
                    refine g_iload dX5_bestPlay_154 rfl ?_
                    obtain ⟨q67, e68, h⟩ := z_bd h
                    refine g_callS (as := [.ref 61, .int (x1 ||| ((1 : Int32) <<< (x8 &&& 31))), .int x2, .int (x3 - (1 : Int32)), .int (1 : Int32), .int x5, .int x6]) (rest := []) (c := mX5_bestPlay) (k1 := k) dX5_bestPlay_156 rfl rfl rfl rfl rfl (Nat.le_of_ble_eq_true rfl) (Nat.le_of_ble_eq_true rfl) (by omega) ?_
                    refine hG _ _ _ _ _ _ _ _ _ _ e68 ?_
                    show z_G none (k + 1) mX5_bestPlay 159 [some (.ref 61), some (.int x1), some (.int x2), some (.int x3), some (.int x4), some (.int x5), some (.int x6), some (.int x7), some (.int x8), some (.int ((1 : Int32) <<< (x8 &&& 31))), some (.int x5), some (.int x6), none] [.int q67.1] q67.2 Q
                    refine g_istore (ls' := [some (.ref 61), some (.int x1), some (.int x2), some (.int x3), some (.int x4), some (.int x5), some (.int x6), some (.int x7), some (.int x8), some (.int ((1 : Int32) <<< (x8 &&& 31))), some (.int x5), some (.int x6), some (.int q67.1)]) dX5_bestPlay_159 (Nat.le_of_ble_eq_true rfl) rfl ?_
                    refine g_iload dX5_bestPlay_161 rfl ?_
                    refine g_if_eq (t := 176) dX5_bestPlay_163 (by decide) (fun c69 => ?_) (fun c69 => ?_)
                    · replace h := z_ift c69 h
                      refine g_iload dX5_bestPlay_176 rfl ?_
                      refine g_iload dX5_bestPlay_178 rfl ?_
                      refine g_min dX5_bestPlay_180 rfl (Nat.le_of_ble_eq_true rfl) ?_
                      refine g_istore (ls' := [some (.ref 61), some (.int x1), some (.int x2), some (.int x3), some (.int x4), some (.int x5), some (.int x6), some (.int (if q67.1 < x7 then q67.1 else x7)), some (.int x8), some (.int ((1 : Int32) <<< (x8 &&& 31))), some (.int x5), some (.int x6), some (.int q67.1)]) dX5_bestPlay_183 (Nat.le_of_ble_eq_true rfl) rfl ?_
                      refine g_iinc (v := x8 + (1 : Int32)) (ls' := [some (.ref 61), some (.int x1), some (.int x2), some (.int x3), some (.int x4), some (.int x5), some (.int x6), some (.int (if q67.1 < x7 then q67.1 else x7)), some (.int (x8 + (1 : Int32))), some (.int ((1 : Int32) <<< (x8 &&& 31))), some (.int x5), some (.int x6), some (.int q67.1)]) dX5_bestPlay_185 rfl rfl rfl ?_
                      refine g_goto (t := 39) dX5_bestPlay_188 (by decide) ?_
                      exact g_sub (z_sub_s (z_sub_s (z_sub_s (z_sub_s (z_sub_s (z_sub_s (z_sub_s (z_sub_s (z_sub_s (z_sub_n (z_sub_n (z_sub_n (z_sub_n z_sub_nil))))))))))))) (ih _ _ _ _ _ _ _ _ _ _ _ _ h hq)
                    · replace h := z_iff c69 h
                      refine g_iload dX5_bestPlay_166 rfl ?_
                      refine g_iload dX5_bestPlay_168 rfl ?_
                      refine g_max dX5_bestPlay_170 rfl (Nat.le_of_ble_eq_true rfl) ?_
                      refine g_goto (t := 183) dX5_bestPlay_173 (by decide) ?_
                      refine g_istore (ls' := [some (.ref 61), some (.int x1), some (.int x2), some (.int x3), some (.int x4), some (.int x5), some (.int x6), some (.int (if x7 < q67.1 then q67.1 else x7)), some (.int x8), some (.int ((1 : Int32) <<< (x8 &&& 31))), some (.int x5), some (.int x6), some (.int q67.1)]) dX5_bestPlay_183 (Nat.le_of_ble_eq_true rfl) rfl ?_
                      refine g_iinc (v := x8 + (1 : Int32)) (ls' := [some (.ref 61), some (.int x1), some (.int x2), some (.int x3), some (.int x4), some (.int x5), some (.int x6), some (.int (if x7 < q67.1 then q67.1 else x7)), some (.int (x8 + (1 : Int32))), some (.int ((1 : Int32) <<< (x8 &&& 31))), some (.int x5), some (.int x6), some (.int q67.1)]) dX5_bestPlay_185 rfl rfl rfl ?_
                      refine g_goto (t := 39) dX5_bestPlay_188 (by decide) ?_
                      exact g_sub (z_sub_s (z_sub_s (z_sub_s (z_sub_s (z_sub_s (z_sub_s (z_sub_s (z_sub_s (z_sub_s (z_sub_n (z_sub_n (z_sub_n (z_sub_n z_sub_nil))))))))))))) (ih _ _ _ _ _ _ _ _ _ _ _ _ h hq)
            · replace h := z_iff c38 h
              refine g_goto (t := 185) dX5_bestPlay_109 (by decide) ?_
              refine g_iinc (v := x8 + (1 : Int32)) (ls' := [some (.ref 61), some (.int x1), some (.int x2), some (.int x3), some (.int x4), some (.int x5), some (.int x6), some (.int x7), some (.int (x8 + (1 : Int32))), some (.int ((1 : Int32) <<< (x8 &&& 31))), some (.int x5), some (.int x6), none]) dX5_bestPlay_185 rfl rfl rfl ?_
              refine g_goto (t := 39) dX5_bestPlay_188 (by decide) ?_
              exact g_sub (z_sub_s (z_sub_s (z_sub_s (z_sub_s (z_sub_s (z_sub_s (z_sub_s (z_sub_s (z_sub_s (z_sub_n (z_sub_n (z_sub_n (z_sub_n z_sub_nil))))))))))))) (ih _ _ _ _ _ _ _ _ _ _ _ _ h hq)
          · replace h := z_iff c37 h
            refine g_goto (t := 191) dX5_bestPlay_97 (by decide) ?_
            refine g_iload dX5_bestPlay_191 rfl ?_
            cases h
            exact g_iret dX5_bestPlay_193 rfl rfl hq
      · replace h := z_iff c2 h
        refine g_iload dX5_bestPlay_57 rfl ?_
        refine g_iload dX5_bestPlay_59 rfl ?_
        refine g_max dX5_bestPlay_61 rfl (Nat.le_of_ble_eq_true rfl) ?_
        refine g_goto (t := 69) dX5_bestPlay_64 (by decide) ?_
        refine g_istore (ls' := [some (.ref 61), some (.int x1), some (.int x2), some (.int x3), some (.int x4), some (.int x5), some (.int x6), some (.int x7), some (.int x8), some (.int ((1 : Int32) <<< (x8 &&& 31))), some (.int (if x5 < x7 then x7 else x5)), none, none]) dX5_bestPlay_69 (Nat.le_of_ble_eq_true rfl) rfl ?_
        refine g_iload dX5_bestPlay_71 rfl ?_
        refine g_if_eq (t := 81) dX5_bestPlay_73 (by decide) (fun c70 => ?_) (fun c70 => ?_)
        · replace h := z_ift c70 h
          refine g_iload dX5_bestPlay_81 rfl ?_
          refine g_iload dX5_bestPlay_83 rfl ?_
          refine g_min dX5_bestPlay_85 rfl (Nat.le_of_ble_eq_true rfl) ?_
          refine g_istore (ls' := [some (.ref 61), some (.int x1), some (.int x2), some (.int x3), some (.int x4), some (.int x5), some (.int x6), some (.int x7), some (.int x8), some (.int ((1 : Int32) <<< (x8 &&& 31))), some (.int (if x5 < x7 then x7 else x5)), some (.int (if x7 < x6 then x7 else x6)), none]) dX5_bestPlay_88 (Nat.le_of_ble_eq_true rfl) rfl ?_
          refine g_iload dX5_bestPlay_90 rfl ?_
          refine g_iload dX5_bestPlay_92 rfl ?_
          refine g_ic_lt (t := 100) dX5_bestPlay_94 (by decide) (fun c71 => ?_) (fun c71 => ?_)
          · replace h := z_ift c71 h
            refine g_iload_n dX5_bestPlay_100 rfl rfl ?_
            refine g_iload_n dX5_bestPlay_101 rfl rfl ?_
            refine g_ior dX5_bestPlay_102 ?_
            refine g_iload dX5_bestPlay_103 rfl ?_
            refine g_iand dX5_bestPlay_105 ?_
            refine g_if_eq (t := 112) dX5_bestPlay_106 (by decide) (fun c72 => ?_) (fun c72 => ?_)
            · replace h := z_ift c72 h
              refine g_aload_n dX5_bestPlay_112 rfl rfl ?_
              refine g_iload dX5_bestPlay_113 rfl ?_
              refine g_if_eq (t := 125) dX5_bestPlay_115 (by decide) (fun c73 => ?_) (fun c73 => ?_)
              · replace h := z_ift c73 h
                refine g_iload_n dX5_bestPlay_125 rfl rfl ?_
                refine g_iload dX5_bestPlay_126 rfl ?_
                refine g_if_eq (t := 135) dX5_bestPlay_128 (by decide) (fun c74 => ?_) (fun c74 => ?_)
                · replace h := z_ift c74 h
                  refine g_iload_n dX5_bestPlay_135 rfl rfl ?_
                  refine g_iload dX5_bestPlay_136 rfl ?_
                  refine g_ior dX5_bestPlay_138 ?_
                  refine g_iload_n dX5_bestPlay_139 rfl rfl ?_
                  refine g_iconst (v := (1 : Int32)) dX5_bestPlay_140 (by decide) ?_
                  refine g_isub dX5_bestPlay_141 ?_
                  refine g_iload dX5_bestPlay_142 rfl ?_
                  refine g_if_ne (t := 151) dX5_bestPlay_144 (by decide) (fun c75 => ?_) (fun c75 => ?_)
                  · replace h := z_iff c75 h
                    refine g_iconst (v := (0 : Int32)) dX5_bestPlay_151 (by decide) ?_
                    refine g_iload dX5_bestPlay_152 rfl ?_
                    refine g_iload dX5_bestPlay_154 rfl ?_
                    obtain ⟨q76, e77, h⟩ := z_bd h
                    refine g_callS (as := [.ref 61, .int x1, .int (x2 ||| ((1 : Int32) <<< (x8 &&& 31))), .int (x3 - (1 : Int32)), .int (0 : Int32), .int (if x5 < x7 then x7 else x5), .int (if x7 < x6 then x7 else x6)]) (rest := []) (c := mX5_bestPlay) (k1 := k) dX5_bestPlay_156 rfl rfl rfl rfl rfl (Nat.le_of_ble_eq_true rfl) (Nat.le_of_ble_eq_true rfl) (by omega) ?_
                    refine hG _ _ _ _ _ _ _ _ _ _ e77 ?_
                    show z_G none (k + 1) mX5_bestPlay 159 [some (.ref 61), some (.int x1), some (.int x2), some (.int x3), some (.int x4), some (.int x5), some (.int x6), some (.int x7), some (.int x8), some (.int ((1 : Int32) <<< (x8 &&& 31))), some (.int (if x5 < x7 then x7 else x5)), some (.int (if x7 < x6 then x7 else x6)), none] [.int q76.1] q76.2 Q
                    refine g_istore (ls' := [some (.ref 61), some (.int x1), some (.int x2), some (.int x3), some (.int x4), some (.int x5), some (.int x6), some (.int x7), some (.int x8), some (.int ((1 : Int32) <<< (x8 &&& 31))), some (.int (if x5 < x7 then x7 else x5)), some (.int (if x7 < x6 then x7 else x6)), some (.int q76.1)]) dX5_bestPlay_159 (Nat.le_of_ble_eq_true rfl) rfl ?_
                    refine g_iload dX5_bestPlay_161 rfl ?_
                    refine g_if_eq (t := 176) dX5_bestPlay_163 (by decide) (fun c78 => ?_) (fun c78 => ?_)
                    · replace h := z_ift c78 h
                      refine g_iload dX5_bestPlay_176 rfl ?_
                      refine g_iload dX5_bestPlay_178 rfl ?_
                      refine g_min dX5_bestPlay_180 rfl (Nat.le_of_ble_eq_true rfl) ?_
                      refine g_istore (ls' := [some (.ref 61), some (.int x1), some (.int x2), some (.int x3), some (.int x4), some (.int x5), some (.int x6), some (.int (if q76.1 < x7 then q76.1 else x7)), some (.int x8), some (.int ((1 : Int32) <<< (x8 &&& 31))), some (.int (if x5 < x7 then x7 else x5)), some (.int (if x7 < x6 then x7 else x6)), some (.int q76.1)]) dX5_bestPlay_183 (Nat.le_of_ble_eq_true rfl) rfl ?_
                      refine g_iinc (v := x8 + (1 : Int32)) (ls' := [some (.ref 61), some (.int x1), some (.int x2), some (.int x3), some (.int x4), some (.int x5), some (.int x6), some (.int (if q76.1 < x7 then q76.1 else x7)), some (.int (x8 + (1 : Int32))), some (.int ((1 : Int32) <<< (x8 &&& 31))), some (.int (if x5 < x7 then x7 else x5)), some (.int (if x7 < x6 then x7 else x6)), some (.int q76.1)]) dX5_bestPlay_185 rfl rfl rfl ?_
                      refine g_goto (t := 39) dX5_bestPlay_188 (by decide) ?_
                      exact g_sub (z_sub_s (z_sub_s (z_sub_s (z_sub_s (z_sub_s (z_sub_s (z_sub_s (z_sub_s (z_sub_s (z_sub_n (z_sub_n (z_sub_n (z_sub_n z_sub_nil))))))))))))) (ih _ _ _ _ _ _ _ _ _ _ _ _ h hq)
                    · replace h := z_iff c78 h
                      refine g_iload dX5_bestPlay_166 rfl ?_
                      refine g_iload dX5_bestPlay_168 rfl ?_
                      refine g_max dX5_bestPlay_170 rfl (Nat.le_of_ble_eq_true rfl) ?_
                      refine g_goto (t := 183) dX5_bestPlay_173 (by decide) ?_
                      refine g_istore (ls' := [some (.ref 61), some (.int x1), some (.int x2), some (.int x3), some (.int x4), some (.int x5), some (.int x6), some (.int (if x7 < q76.1 then q76.1 else x7)), some (.int x8), some (.int ((1 : Int32) <<< (x8 &&& 31))), some (.int (if x5 < x7 then x7 else x5)), some (.int (if x7 < x6 then x7 else x6)), some (.int q76.1)]) dX5_bestPlay_183 (Nat.le_of_ble_eq_true rfl) rfl ?_
                      refine g_iinc (v := x8 + (1 : Int32)) (ls' := [some (.ref 61), some (.int x1), some (.int x2), some (.int x3), some (.int x4), some (.int x5), some (.int x6), some (.int (if x7 < q76.1 then q76.1 else x7)), some (.int (x8 + (1 : Int32))), some (.int ((1 : Int32) <<< (x8 &&& 31))), some (.int (if x5 < x7 then x7 else x5)), some (.int (if x7 < x6 then x7 else x6)), some (.int q76.1)]) dX5_bestPlay_185 rfl rfl rfl ?_
                      refine g_goto (t := 39) dX5_bestPlay_188 (by decide) ?_
                      exact g_sub (z_sub_s (z_sub_s (z_sub_s (z_sub_s (z_sub_s (z_sub_s (z_sub_s (z_sub_s (z_sub_s (z_sub_n (z_sub_n (z_sub_n (z_sub_n z_sub_nil))))))))))))) (ih _ _ _ _ _ _ _ _ _ _ _ _ h hq)
                  · replace h := z_ift c75 h
                    refine g_iconst (v := (1 : Int32)) dX5_bestPlay_147 (by decide) ?_
                    refine g_goto (t := 152) dX5_bestPlay_148 (by decide) ?_
                    refine g_iload dX5_bestPlay_152 rfl ?_
                    refine g_iload dX5_bestPlay_154 rfl ?_
                    obtain ⟨q79, e80, h⟩ := z_bd h
                    refine g_callS (as := [.ref 61, .int x1, .int (x2 ||| ((1 : Int32) <<< (x8 &&& 31))), .int (x3 - (1 : Int32)), .int (1 : Int32), .int (if x5 < x7 then x7 else x5), .int (if x7 < x6 then x7 else x6)]) (rest := []) (c := mX5_bestPlay) (k1 := k) dX5_bestPlay_156 rfl rfl rfl rfl rfl (Nat.le_of_ble_eq_true rfl) (Nat.le_of_ble_eq_true rfl) (by omega) ?_
                    refine hG _ _ _ _ _ _ _ _ _ _ e80 ?_
                    show z_G none (k + 1) mX5_bestPlay 159 [some (.ref 61), some (.int x1), some (.int x2), some (.int x3), some (.int x4), some (.int x5), some (.int x6), some (.int x7), some (.int x8), some (.int ((1 : Int32) <<< (x8 &&& 31))), some (.int (if x5 < x7 then x7 else x5)), some (.int (if x7 < x6 then x7 else x6)), none] [.int q79.1] q79.2 Q
                    refine g_istore (ls' := [some (.ref 61), some (.int x1), some (.int x2), some (.int x3), some (.int x4), some (.int x5), some (.int x6), some (.int x7), some (.int x8), some (.int ((1 : Int32) <<< (x8 &&& 31))), some (.int (if x5 < x7 then x7 else x5)), some (.int (if x7 < x6 then x7 else x6)), some (.int q79.1)]) dX5_bestPlay_159 (Nat.le_of_ble_eq_true rfl) rfl ?_
                    refine g_iload dX5_bestPlay_161 rfl ?_
                    refine g_if_eq (t := 176) dX5_bestPlay_163 (by decide) (fun c81 => ?_) (fun c81 => ?_)
                    · replace h := z_ift c81 h
                      refine g_iload dX5_bestPlay_176 rfl ?_
                      refine g_iload dX5_bestPlay_178 rfl ?_
                      refine g_min dX5_bestPlay_180 rfl (Nat.le_of_ble_eq_true rfl) ?_
                      refine g_istore (ls' := [some (.ref 61), some (.int x1), some (.int x2), some (.int x3), some (.int x4), some (.int x5), some (.int x6), some (.int (if q79.1 < x7 then q79.1 else x7)), some (.int x8), some (.int ((1 : Int32) <<< (x8 &&& 31))), some (.int (if x5 < x7 then x7 else x5)), some (.int (if x7 < x6 then x7 else x6)), some (.int q79.1)]) dX5_bestPlay_183 (Nat.le_of_ble_eq_true rfl) rfl ?_
                      refine g_iinc (v := x8 + (1 : Int32)) (ls' := [some (.ref 61), some (.int x1), some (.int x2), some (.int x3), some (.int x4), some (.int x5), some (.int x6), some (.int (if q79.1 < x7 then q79.1 else x7)), some (.int (x8 + (1 : Int32))), some (.int ((1 : Int32) <<< (x8 &&& 31))), some (.int (if x5 < x7 then x7 else x5)), some (.int (if x7 < x6 then x7 else x6)), some (.int q79.1)]) dX5_bestPlay_185 rfl rfl rfl ?_
                      refine g_goto (t := 39) dX5_bestPlay_188 (by decide) ?_
                      exact g_sub (z_sub_s (z_sub_s (z_sub_s (z_sub_s (z_sub_s (z_sub_s (z_sub_s (z_sub_s (z_sub_s (z_sub_n (z_sub_n (z_sub_n (z_sub_n z_sub_nil))))))))))))) (ih _ _ _ _ _ _ _ _ _ _ _ _ h hq)
                    · replace h := z_iff c81 h
                      refine g_iload dX5_bestPlay_166 rfl ?_
                      refine g_iload dX5_bestPlay_168 rfl ?_
                      refine g_max dX5_bestPlay_170 rfl (Nat.le_of_ble_eq_true rfl) ?_
                      refine g_goto (t := 183) dX5_bestPlay_173 (by decide) ?_
                      refine g_istore (ls' := [some (.ref 61), some (.int x1), some (.int x2), some (.int x3), some (.int x4), some (.int x5), some (.int x6), some (.int (if x7 < q79.1 then q79.1 else x7)), some (.int x8), some (.int ((1 : Int32) <<< (x8 &&& 31))), some (.int (if x5 < x7 then x7 else x5)), some (.int (if x7 < x6 then x7 else x6)), some (.int q79.1)]) dX5_bestPlay_183 (Nat.le_of_ble_eq_true rfl) rfl ?_
                      refine g_iinc (v := x8 + (1 : Int32)) (ls' := [some (.ref 61), some (.int x1), some (.int x2), some (.int x3), some (.int x4), some (.int x5), some (.int x6), some (.int (if x7 < q79.1 then q79.1 else x7)), some (.int (x8 + (1 : Int32))), some (.int ((1 : Int32) <<< (x8 &&& 31))), some (.int (if x5 < x7 then x7 else x5)), some (.int (if x7 < x6 then x7 else x6)), some (.int q79.1)]) dX5_bestPlay_185 rfl rfl rfl ?_
                      refine g_goto (t := 39) dX5_bestPlay_188 (by decide) ?_
                      exact g_sub (z_sub_s (z_sub_s (z_sub_s (z_sub_s (z_sub_s (z_sub_s (z_sub_s (z_sub_s (z_sub_s (z_sub_n (z_sub_n (z_sub_n (z_sub_n z_sub_nil))))))))))))) (ih _ _ _ _ _ _ _ _ _ _ _ _ h hq)
                · replace h := z_iff c74 h
                  refine g_iload_n dX5_bestPlay_131 rfl rfl ?_
                  refine g_goto (t := 139) dX5_bestPlay_132 (by decide) ?_
                  refine g_iload_n dX5_bestPlay_139 rfl rfl ?_
                  refine g_iconst (v := (1 : Int32)) dX5_bestPlay_140 (by decide) ?_
                  refine g_isub dX5_bestPlay_141 ?_
                  refine g_iload dX5_bestPlay_142 rfl ?_
                  refine g_if_ne (t := 151) dX5_bestPlay_144 (by decide) (fun c82 => ?_) (fun c82 => ?_)
                  · replace h := z_iff c82 h
                    refine g_iconst (v := (0 : Int32)) dX5_bestPlay_151 (by decide) ?_
                    refine g_iload dX5_bestPlay_152 rfl ?_
                    refine g_iload dX5_bestPlay_154 rfl ?_
                    obtain ⟨q83, e84, h⟩ := z_bd h
                    refine g_callS (as := [.ref 61, .int x1, .int x2, .int (x3 - (1 : Int32)), .int (0 : Int32), .int (if x5 < x7 then x7 else x5), .int (if x7 < x6 then x7 else x6)]) (rest := []) (c := mX5_bestPlay) (k1 := k) dX5_bestPlay_156 rfl rfl rfl rfl rfl (Nat.le_of_ble_eq_true rfl) (Nat.le_of_ble_eq_true rfl) (by omega) ?_
                    refine hG _ _ _ _ _ _ _ _ _ _ e84 ?_
                    show z_G none (k + 1) mX5_bestPlay 159 [some (.ref 61), some (.int x1), some (.int x2), some (.int x3), some (.int x4), some (.int x5), some (.int x6), some (.int x7), some (.int x8), some (.int ((1 : Int32) <<< (x8 &&& 31))), some (.int (if x5 < x7 then x7 else x5)), some (.int (if x7 < x6 then x7 else x6)), none] [.int q83.1] q83.2 Q
                    refine g_istore (ls' := [some (.ref 61), some (.int x1), some (.int x2), some (.int x3), some (.int x4), some (.int x5), some (.int x6), some (.int x7), some (.int x8), some (.int ((1 : Int32) <<< (x8 &&& 31))), some (.int (if x5 < x7 then x7 else x5)), some (.int (if x7 < x6 then x7 else x6)), some (.int q83.1)]) dX5_bestPlay_159 (Nat.le_of_ble_eq_true rfl) rfl ?_
                    refine g_iload dX5_bestPlay_161 rfl ?_
                    refine g_if_eq (t := 176) dX5_bestPlay_163 (by decide) (fun c85 => ?_) (fun c85 => ?_)
                    · replace h := z_ift c85 h
                      refine g_iload dX5_bestPlay_176 rfl ?_
                      refine g_iload dX5_bestPlay_178 rfl ?_
                      refine g_min dX5_bestPlay_180 rfl (Nat.le_of_ble_eq_true rfl) ?_
                      refine g_istore (ls' := [some (.ref 61), some (.int x1), some (.int x2), some (.int x3), some (.int x4), some (.int x5), some (.int x6), some (.int (if q83.1 < x7 then q83.1 else x7)), some (.int x8), some (.int ((1 : Int32) <<< (x8 &&& 31))), some (.int (if x5 < x7 then x7 else x5)), some (.int (if x7 < x6 then x7 else x6)), some (.int q83.1)]) dX5_bestPlay_183 (Nat.le_of_ble_eq_true rfl) rfl ?_
                      refine g_iinc (v := x8 + (1 : Int32)) (ls' := [some (.ref 61), some (.int x1), some (.int x2), some (.int x3), some (.int x4), some (.int x5), some (.int x6), some (.int (if q83.1 < x7 then q83.1 else x7)), some (.int (x8 + (1 : Int32))), some (.int ((1 : Int32) <<< (x8 &&& 31))), some (.int (if x5 < x7 then x7 else x5)), some (.int (if x7 < x6 then x7 else x6)), some (.int q83.1)]) dX5_bestPlay_185 rfl rfl rfl ?_
                      refine g_goto (t := 39) dX5_bestPlay_188 (by decide) ?_
                      exact g_sub (z_sub_s (z_sub_s (z_sub_s (z_sub_s (z_sub_s (z_sub_s (z_sub_s (z_sub_s (z_sub_s (z_sub_n (z_sub_n (z_sub_n (z_sub_n z_sub_nil))))))))))))) (ih _ _ _ _ _ _ _ _ _ _ _ _ h hq)
                    · replace h := z_iff c85 h
                      refine g_iload dX5_bestPlay_166 rfl ?_
                      refine g_iload dX5_bestPlay_168 rfl ?_
                      refine g_max dX5_bestPlay_170 rfl (Nat.le_of_ble_eq_true rfl) ?_
                      refine g_goto (t := 183) dX5_bestPlay_173 (by decide) ?_
                      refine g_istore (ls' := [some (.ref 61), some (.int x1), some (.int x2), some (.int x3), some (.int x4), some (.int x5), some (.int x6), some (.int (if x7 < q83.1 then q83.1 else x7)), some (.int x8), some (.int ((1 : Int32) <<< (x8 &&& 31))), some (.int (if x5 < x7 then x7 else x5)), some (.int (if x7 < x6 then x7 else x6)), some (.int q83.1)]) dX5_bestPlay_183 (Nat.le_of_ble_eq_true rfl) rfl ?_
                      refine g_iinc (v := x8 + (1 : Int32)) (ls' := [some (.ref 61), some (.int x1), some (.int x2), some (.int x3), some (.int x4), some (.int x5), some (.int x6), some (.int (if x7 < q83.1 then q83.1 else x7)), some (.int (x8 + (1 : Int32))), some (.int ((1 : Int32) <<< (x8 &&& 31))), some (.int (if x5 < x7 then x7 else x5)), some (.int (if x7 < x6 then x7 else x6)), some (.int q83.1)]) dX5_bestPlay_185 rfl rfl rfl ?_
                      refine g_goto (t := 39) dX5_bestPlay_188 (by decide) ?_
                      exact g_sub (z_sub_s (z_sub_s (z_sub_s (z_sub_s (z_sub_s (z_sub_s (z_sub_s (z_sub_s (z_sub_s (z_sub_n (z_sub_n (z_sub_n (z_sub_n z_sub_nil))))))))))))) (ih _ _ _ _ _ _ _ _ _ _ _ _ h hq)
                  · replace h := z_ift c82 h
                    refine g_iconst (v := (1 : Int32)) dX5_bestPlay_147 (by decide) ?_
                    refine g_goto (t := 152) dX5_bestPlay_148 (by decide) ?_
                    refine g_iload dX5_bestPlay_152 rfl ?_
                    refine g_iload dX5_bestPlay_154 rfl ?_
                    obtain ⟨q86, e87, h⟩ := z_bd h
                    refine g_callS (as := [.ref 61, .int x1, .int x2, .int (x3 - (1 : Int32)), .int (1 : Int32), .int (if x5 < x7 then x7 else x5), .int (if x7 < x6 then x7 else x6)]) (rest := []) (c := mX5_bestPlay) (k1 := k) dX5_bestPlay_156 rfl rfl rfl rfl rfl (Nat.le_of_ble_eq_true rfl) (Nat.le_of_ble_eq_true rfl) (by omega) ?_
                    refine hG _ _ _ _ _ _ _ _ _ _ e87 ?_
                    show z_G none (k + 1) mX5_bestPlay 159 [some (.ref 61), some (.int x1), some (.int x2), some (.int x3), some (.int x4), some (.int x5), some (.int x6), some (.int x7), some (.int x8), some (.int ((1 : Int32) <<< (x8 &&& 31))), some (.int (if x5 < x7 then x7 else x5)), some (.int (if x7 < x6 then x7 else x6)), none] [.int q86.1] q86.2 Q
                    refine g_istore (ls' := [some (.ref 61), some (.int x1), some (.int x2), some (.int x3), some (.int x4), some (.int x5), some (.int x6), some (.int x7), some (.int x8), some (.int ((1 : Int32) <<< (x8 &&& 31))), some (.int (if x5 < x7 then x7 else x5)), some (.int (if x7 < x6 then x7 else x6)), some (.int q86.1)]) dX5_bestPlay_159 (Nat.le_of_ble_eq_true rfl) rfl ?_
                    refine g_iload dX5_bestPlay_161 rfl ?_
                    refine g_if_eq (t := 176) dX5_bestPlay_163 (by decide) (fun c88 => ?_) (fun c88 => ?_)
                    · replace h := z_ift c88 h
                      refine g_iload dX5_bestPlay_176 rfl ?_
                      refine g_iload dX5_bestPlay_178 rfl ?_
                      refine g_min dX5_bestPlay_180 rfl (Nat.le_of_ble_eq_true rfl) ?_
                      refine g_istore (ls' := [some (.ref 61), some (.int x1), some (.int x2), some (.int x3), some (.int x4), some (.int x5), some (.int x6), some (.int (if q86.1 < x7 then q86.1 else x7)), some (.int x8), some (.int ((1 : Int32) <<< (x8 &&& 31))), some (.int (if x5 < x7 then x7 else x5)), some (.int (if x7 < x6 then x7 else x6)), some (.int q86.1)]) dX5_bestPlay_183 (Nat.le_of_ble_eq_true rfl) rfl ?_
                      refine g_iinc (v := x8 + (1 : Int32)) (ls' := [some (.ref 61), some (.int x1), some (.int x2), some (.int x3), some (.int x4), some (.int x5), some (.int x6), some (.int (if q86.1 < x7 then q86.1 else x7)), some (.int (x8 + (1 : Int32))), some (.int ((1 : Int32) <<< (x8 &&& 31))), some (.int (if x5 < x7 then x7 else x5)), some (.int (if x7 < x6 then x7 else x6)), some (.int q86.1)]) dX5_bestPlay_185 rfl rfl rfl ?_
                      refine g_goto (t := 39) dX5_bestPlay_188 (by decide) ?_
                      exact g_sub (z_sub_s (z_sub_s (z_sub_s (z_sub_s (z_sub_s (z_sub_s (z_sub_s (z_sub_s (z_sub_s (z_sub_n (z_sub_n (z_sub_n (z_sub_n z_sub_nil))))))))))))) (ih _ _ _ _ _ _ _ _ _ _ _ _ h hq)
                    · replace h := z_iff c88 h
                      refine g_iload dX5_bestPlay_166 rfl ?_
                      refine g_iload dX5_bestPlay_168 rfl ?_
                      refine g_max dX5_bestPlay_170 rfl (Nat.le_of_ble_eq_true rfl) ?_
                      refine g_goto (t := 183) dX5_bestPlay_173 (by decide) ?_
                      refine g_istore (ls' := [some (.ref 61), some (.int x1), some (.int x2), some (.int x3), some (.int x4), some (.int x5), some (.int x6), some (.int (if x7 < q86.1 then q86.1 else x7)), some (.int x8), some (.int ((1 : Int32) <<< (x8 &&& 31))), some (.int (if x5 < x7 then x7 else x5)), some (.int (if x7 < x6 then x7 else x6)), some (.int q86.1)]) dX5_bestPlay_183 (Nat.le_of_ble_eq_true rfl) rfl ?_
                      refine g_iinc (v := x8 + (1 : Int32)) (ls' := [some (.ref 61), some (.int x1), some (.int x2), some (.int x3), some (.int x4), some (.int x5), some (.int x6), some (.int (if x7 < q86.1 then q86.1 else x7)), some (.int (x8 + (1 : Int32))), some (.int ((1 : Int32) <<< (x8 &&& 31))), some (.int (if x5 < x7 then x7 else x5)), some (.int (if x7 < x6 then x7 else x6)), some (.int q86.1)]) dX5_bestPlay_185 rfl rfl rfl ?_
                      refine g_goto (t := 39) dX5_bestPlay_188 (by decide) ?_
                      exact g_sub (z_sub_s (z_sub_s (z_sub_s (z_sub_s (z_sub_s (z_sub_s (z_sub_s (z_sub_s (z_sub_s (z_sub_n (z_sub_n (z_sub_n (z_sub_n z_sub_nil))))))))))))) (ih _ _ _ _ _ _ _ _ _ _ _ _ h hq)
              · replace h := z_iff c73 h
                refine g_iload_n dX5_bestPlay_118 rfl rfl ?_
                refine g_iload dX5_bestPlay_119 rfl ?_
                refine g_ior dX5_bestPlay_121 ?_
                refine g_goto (t := 126) dX5_bestPlay_122 (by decide) ?_
                refine g_iload dX5_bestPlay_126 rfl ?_
                refine g_if_eq (t := 135) dX5_bestPlay_128 (by decide) (fun c89 => ?_) (fun c89 => ?_)
                · replace h := z_ift c89 h
                  refine g_iload_n dX5_bestPlay_135 rfl rfl ?_
                  refine g_iload dX5_bestPlay_136 rfl ?_
                  refine g_ior dX5_bestPlay_138 ?_
                  refine g_iload_n dX5_bestPlay_139 rfl rfl ?_
                  refine g_iconst (v := (1 : Int32)) dX5_bestPlay_140 (by decide) ?_
                  refine g_isub dX5_bestPlay_141 ?_
                  refine g_iload dX5_bestPlay_142 rfl ?_
                  refine g_if_ne (t := 151) dX5_bestPlay_144 (by decide) (fun c90 => ?_) (fun c90 => ?_)
                  · replace h := z_iff c90 h
                    refine g_iconst (v := (0 : Int32)) dX5_bestPlay_151 (by decide) ?_
                    refine g_iload dX5_bestPlay_152 rfl ?_
                    refine g_iload dX5_bestPlay_154 rfl ?_
                    obtain ⟨q91, e92, h⟩ := z_bd h
                    refine g_callS (as := [.ref 61, .int (x1 ||| ((1 : Int32) <<< (x8 &&& 31))), .int (x2 ||| ((1 : Int32) <<< (x8 &&& 31))), .int (x3 - (1 : Int32)), .int (0 : Int32), .int (if x5 < x7 then x7 else x5), .int (if x7 < x6 then x7 else x6)]) (rest := []) (c := mX5_bestPlay) (k1 := k) dX5_bestPlay_156 rfl rfl rfl rfl rfl (Nat.le_of_ble_eq_true rfl) (Nat.le_of_ble_eq_true rfl) (by omega) ?_
                    refine hG _ _ _ _ _ _ _ _ _ _ e92 ?_
                    show z_G none (k + 1) mX5_bestPlay 159 [some (.ref 61), some (.int x1), some (.int x2), some (.int x3), some (.int x4), some (.int x5), some (.int x6), some (.int x7), some (.int x8), some (.int ((1 : Int32) <<< (x8 &&& 31))), some (.int (if x5 < x7 then x7 else x5)), some (.int (if x7 < x6 then x7 else x6)), none] [.int q91.1] q91.2 Q
                    refine g_istore (ls' := [some (.ref 61), some (.int x1), some (.int x2), some (.int x3), some (.int x4), some (.int x5), some (.int x6), some (.int x7), some (.int x8), some (.int ((1 : Int32) <<< (x8 &&& 31))), some (.int (if x5 < x7 then x7 else x5)), some (.int (if x7 < x6 then x7 else x6)), some (.int q91.1)]) dX5_bestPlay_159 (Nat.le_of_ble_eq_true rfl) rfl ?_
                    refine g_iload dX5_bestPlay_161 rfl ?_
                    refine g_if_eq (t := 176) dX5_bestPlay_163 (by decide) (fun c93 => ?_) (fun c93 => ?_)
                    · replace h := z_ift c93 h
                      refine g_iload dX5_bestPlay_176 rfl ?_
                      refine g_iload dX5_bestPlay_178 rfl ?_
                      refine g_min dX5_bestPlay_180 rfl (Nat.le_of_ble_eq_true rfl) ?_
                      refine g_istore (ls' := [some (.ref 61), some (.int x1), some (.int x2), some (.int x3), some (.int x4), some (.int x5), some (.int x6), some (.int (if q91.1 < x7 then q91.1 else x7)), some (.int x8), some (.int ((1 : Int32) <<< (x8 &&& 31))), some (.int (if x5 < x7 then x7 else x5)), some (.int (if x7 < x6 then x7 else x6)), some (.int q91.1)]) dX5_bestPlay_183 (Nat.le_of_ble_eq_true rfl) rfl ?_
                      refine g_iinc (v := x8 + (1 : Int32)) (ls' := [some (.ref 61), some (.int x1), some (.int x2), some (.int x3), some (.int x4), some (.int x5), some (.int x6), some (.int (if q91.1 < x7 then q91.1 else x7)), some (.int (x8 + (1 : Int32))), some (.int ((1 : Int32) <<< (x8 &&& 31))), some (.int (if x5 < x7 then x7 else x5)), some (.int (if x7 < x6 then x7 else x6)), some (.int q91.1)]) dX5_bestPlay_185 rfl rfl rfl ?_
                      refine g_goto (t := 39) dX5_bestPlay_188 (by decide) ?_
                      exact g_sub (z_sub_s (z_sub_s (z_sub_s (z_sub_s (z_sub_s (z_sub_s (z_sub_s (z_sub_s (z_sub_s (z_sub_n (z_sub_n (z_sub_n (z_sub_n z_sub_nil))))))))))))) (ih _ _ _ _ _ _ _ _ _ _ _ _ h hq)
                    · replace h := z_iff c93 h
                      refine g_iload dX5_bestPlay_166 rfl ?_
                      refine g_iload dX5_bestPlay_168 rfl ?_
                      refine g_max dX5_bestPlay_170 rfl (Nat.le_of_ble_eq_true rfl) ?_
                      refine g_goto (t := 183) dX5_bestPlay_173 (by decide) ?_
                      refine g_istore (ls' := [some (.ref 61), some (.int x1), some (.int x2), some (.int x3), some (.int x4), some (.int x5), some (.int x6), some (.int (if x7 < q91.1 then q91.1 else x7)), some (.int x8), some (.int ((1 : Int32) <<< (x8 &&& 31))), some (.int (if x5 < x7 then x7 else x5)), some (.int (if x7 < x6 then x7 else x6)), some (.int q91.1)]) dX5_bestPlay_183 (Nat.le_of_ble_eq_true rfl) rfl ?_
                      refine g_iinc (v := x8 + (1 : Int32)) (ls' := [some (.ref 61), some (.int x1), some (.int x2), some (.int x3), some (.int x4), some (.int x5), some (.int x6), some (.int (if x7 < q91.1 then q91.1 else x7)), some (.int (x8 + (1 : Int32))), some (.int ((1 : Int32) <<< (x8 &&& 31))), some (.int (if x5 < x7 then x7 else x5)), some (.int (if x7 < x6 then x7 else x6)), some (.int q91.1)]) dX5_bestPlay_185 rfl rfl rfl ?_
                      refine g_goto (t := 39) dX5_bestPlay_188 (by decide) ?_
                      exact g_sub (z_sub_s (z_sub_s (z_sub_s (z_sub_s (z_sub_s (z_sub_s (z_sub_s (z_sub_s (z_sub_s (z_sub_n (z_sub_n (z_sub_n (z_sub_n z_sub_nil))))))))))))) (ih _ _ _ _ _ _ _ _ _ _ _ _ h hq)
                  · replace h := z_ift c90 h
                    refine g_iconst (v := (1 : Int32)) dX5_bestPlay_147 (by decide) ?_
                    refine g_goto (t := 152) dX5_bestPlay_148 (by decide) ?_
                    refine g_iload dX5_bestPlay_152 rfl ?_
                    refine g_iload dX5_bestPlay_154 rfl ?_
                    obtain ⟨q94, e95, h⟩ := z_bd h
                    refine g_callS (as := [.ref 61, .int (x1 ||| ((1 : Int32) <<< (x8 &&& 31))), .int (x2 ||| ((1 : Int32) <<< (x8 &&& 31))), .int (x3 - (1 : Int32)), .int (1 : Int32), .int (if x5 < x7 then x7 else x5), .int (if x7 < x6 then x7 else x6)]) (rest := []) (c := mX5_bestPlay) (k1 := k) dX5_bestPlay_156 rfl rfl rfl rfl rfl (Nat.le_of_ble_eq_true rfl) (Nat.le_of_ble_eq_true rfl) (by omega) ?_
                    refine hG _ _ _ _ _ _ _ _ _ _ e95 ?_
                    show z_G none (k + 1) mX5_bestPlay 159 [some (.ref 61), some (.int x1), some (.int x2), some (.int x3), some (.int x4), some (.int x5), some (.int x6), some (.int x7), some (.int x8), some (.int ((1 : Int32) <<< (x8 &&& 31))), some (.int (if x5 < x7 then x7 else x5)), some (.int (if x7 < x6 then x7 else x6)), none] [.int q94.1] q94.2 Q
                    refine g_istore (ls' := [some (.ref 61), some (.int x1), some (.int x2), some (.int x3), some (.int x4), some (.int x5), some (.int x6), some (.int x7), some (.int x8), some (.int ((1 : Int32) <<< (x8 &&& 31))), some (.int (if x5 < x7 then x7 else x5)), some (.int (if x7 < x6 then x7 else x6)), some (.int q94.1)]) dX5_bestPlay_159 (Nat.le_of_ble_eq_true rfl) rfl ?_
                    refine g_iload dX5_bestPlay_161 rfl ?_
                    refine g_if_eq (t := 176) dX5_bestPlay_163 (by decide) (fun c96 => ?_) (fun c96 => ?_)
                    · replace h := z_ift c96 h
                      refine g_iload dX5_bestPlay_176 rfl ?_
                      refine g_iload dX5_bestPlay_178 rfl ?_
                      refine g_min dX5_bestPlay_180 rfl (Nat.le_of_ble_eq_true rfl) ?_
                      refine g_istore (ls' := [some (.ref 61), some (.int x1), some (.int x2), some (.int x3), some (.int x4), some (.int x5), some (.int x6), some (.int (if q94.1 < x7 then q94.1 else x7)), some (.int x8), some (.int ((1 : Int32) <<< (x8 &&& 31))), some (.int (if x5 < x7 then x7 else x5)), some (.int (if x7 < x6 then x7 else x6)), some (.int q94.1)]) dX5_bestPlay_183 (Nat.le_of_ble_eq_true rfl) rfl ?_
                      refine g_iinc (v := x8 + (1 : Int32)) (ls' := [some (.ref 61), some (.int x1), some (.int x2), some (.int x3), some (.int x4), some (.int x5), some (.int x6), some (.int (if q94.1 < x7 then q94.1 else x7)), some (.int (x8 + (1 : Int32))), some (.int ((1 : Int32) <<< (x8 &&& 31))), some (.int (if x5 < x7 then x7 else x5)), some (.int (if x7 < x6 then x7 else x6)), some (.int q94.1)]) dX5_bestPlay_185 rfl rfl rfl ?_
                      refine g_goto (t := 39) dX5_bestPlay_188 (by decide) ?_
                      exact g_sub (z_sub_s (z_sub_s (z_sub_s (z_sub_s (z_sub_s (z_sub_s (z_sub_s (z_sub_s (z_sub_s (z_sub_n (z_sub_n (z_sub_n (z_sub_n z_sub_nil))))))))))))) (ih _ _ _ _ _ _ _ _ _ _ _ _ h hq)
                    · replace h := z_iff c96 h
                      refine g_iload dX5_bestPlay_166 rfl ?_
                      refine g_iload dX5_bestPlay_168 rfl ?_
                      refine g_max dX5_bestPlay_170 rfl (Nat.le_of_ble_eq_true rfl) ?_
                      refine g_goto (t := 183) dX5_bestPlay_173 (by decide) ?_
                      refine g_istore (ls' := [some (.ref 61), some (.int x1), some (.int x2), some (.int x3), some (.int x4), some (.int x5), some (.int x6), some (.int (if x7 < q94.1 then q94.1 else x7)), some (.int x8), some (.int ((1 : Int32) <<< (x8 &&& 31))), some (.int (if x5 < x7 then x7 else x5)), some (.int (if x7 < x6 then x7 else x6)), some (.int q94.1)]) dX5_bestPlay_183 (Nat.le_of_ble_eq_true rfl) rfl ?_
                      refine g_iinc (v := x8 + (1 : Int32)) (ls' := [some (.ref 61), some (.int x1), some (.int x2), some (.int x3), some (.int x4), some (.int x5), some (.int x6), some (.int (if x7 < q94.1 then q94.1 else x7)), some (.int (x8 + (1 : Int32))), some (.int ((1 : Int32) <<< (x8 &&& 31))), some (.int (if x5 < x7 then x7 else x5)), some (.int (if x7 < x6 then x7 else x6)), some (.int q94.1)]) dX5_bestPlay_185 rfl rfl rfl ?_
                      refine g_goto (t := 39) dX5_bestPlay_188 (by decide) ?_
                      exact g_sub (z_sub_s (z_sub_s (z_sub_s (z_sub_s (z_sub_s (z_sub_s (z_sub_s (z_sub_s (z_sub_s (z_sub_n (z_sub_n (z_sub_n (z_sub_n z_sub_nil))))))))))))) (ih _ _ _ _ _ _ _ _ _ _ _ _ h hq)
                · replace h := z_iff c89 h
                  refine g_iload_n dX5_bestPlay_131 rfl rfl ?_
                  refine g_goto (t := 139) dX5_bestPlay_132 (by decide) ?_
                  refine g_iload_n dX5_bestPlay_139 rfl rfl ?_
                  refine g_iconst (v := (1 : Int32)) dX5_bestPlay_140 (by decide) ?_
                  refine g_isub dX5_bestPlay_141 ?_
                  refine g_iload dX5_bestPlay_142 rfl ?_
                  refine g_if_ne (t := 151) dX5_bestPlay_144 (by decide) (fun c97 => ?_) (fun c97 => ?_)
                  · replace h := z_iff c97 h
                    refine g_iconst (v := (0 : Int32)) dX5_bestPlay_151 (by decide) ?_
                    refine g_iload dX5_bestPlay_152 rfl ?_
                    refine g_iload dX5_bestPlay_154 rfl ?_
                    obtain ⟨q98, e99, h⟩ := z_bd h
                    refine g_callS (as := [.ref 61, .int (x1 ||| ((1 : Int32) <<< (x8 &&& 31))), .int x2, .int (x3 - (1 : Int32)), .int (0 : Int32), .int (if x5 < x7 then x7 else x5), .int (if x7 < x6 then x7 else x6)]) (rest := []) (c := mX5_bestPlay) (k1 := k) dX5_bestPlay_156 rfl rfl rfl rfl rfl (Nat.le_of_ble_eq_true rfl) (Nat.le_of_ble_eq_true rfl) (by omega) ?_
                    refine hG _ _ _ _ _ _ _ _ _ _ e99 ?_
                    show z_G none (k + 1) mX5_bestPlay 159 [some (.ref 61), some (.int x1), some (.int x2), some (.int x3), some (.int x4), some (.int x5), some (.int x6), some (.int x7), some (.int x8), some (.int ((1 : Int32) <<< (x8 &&& 31))), some (.int (if x5 < x7 then x7 else x5)), some (.int (if x7 < x6 then x7 else x6)), none] [.int q98.1] q98.2 Q
                    refine g_istore (ls' := [some (.ref 61), some (.int x1), some (.int x2), some (.int x3), some (.int x4), some (.int x5), some (.int x6), some (.int x7), some (.int x8), some (.int ((1 : Int32) <<< (x8 &&& 31))), some (.int (if x5 < x7 then x7 else x5)), some (.int (if x7 < x6 then x7 else x6)), some (.int q98.1)]) dX5_bestPlay_159 (Nat.le_of_ble_eq_true rfl) rfl ?_
                    refine g_iload dX5_bestPlay_161 rfl ?_
                    refine g_if_eq (t := 176) dX5_bestPlay_163 (by decide) (fun c100 => ?_) (fun c100 => ?_)
                    · replace h := z_ift c100 h
                      refine g_iload dX5_bestPlay_176 rfl ?_
                      refine g_iload dX5_bestPlay_178 rfl ?_
                      refine g_min dX5_bestPlay_180 rfl (Nat.le_of_ble_eq_true rfl) ?_
                      refine g_istore (ls' := [some (.ref 61), some (.int x1), some (.int x2), some (.int x3), some (.int x4), some (.int x5), some (.int x6), some (.int (if q98.1 < x7 then q98.1 else x7)), some (.int x8), some (.int ((1 : Int32) <<< (x8 &&& 31))), some (.int (if x5 < x7 then x7 else x5)), some (.int (if x7 < x6 then x7 else x6)), some (.int q98.1)]) dX5_bestPlay_183 (Nat.le_of_ble_eq_true rfl) rfl ?_
                      refine g_iinc (v := x8 + (1 : Int32)) (ls' := [some (.ref 61), some (.int x1), some (.int x2), some (.int x3), some (.int x4), some (.int x5), some (.int x6), some (.int (if q98.1 < x7 then q98.1 else x7)), some (.int (x8 + (1 : Int32))), some (.int ((1 : Int32) <<< (x8 &&& 31))), some (.int (if x5 < x7 then x7 else x5)), some (.int (if x7 < x6 then x7 else x6)), some (.int q98.1)]) dX5_bestPlay_185 rfl rfl rfl ?_
                      refine g_goto (t := 39) dX5_bestPlay_188 (by decide) ?_
                      exact g_sub (z_sub_s (z_sub_s (z_sub_s (z_sub_s (z_sub_s (z_sub_s (z_sub_s (z_sub_s (z_sub_s (z_sub_n (z_sub_n (z_sub_n (z_sub_n z_sub_nil))))))))))))) (ih _ _ _ _ _ _ _ _ _ _ _ _ h hq)
                    · replace h := z_iff c100 h
                      refine g_iload dX5_bestPlay_166 rfl ?_
                      refine g_iload dX5_bestPlay_168 rfl ?_
                      refine g_max dX5_bestPlay_170 rfl (Nat.le_of_ble_eq_true rfl) ?_
                      refine g_goto (t := 183) dX5_bestPlay_173 (by decide) ?_
                      refine g_istore (ls' := [some (.ref 61), some (.int x1), some (.int x2), some (.int x3), some (.int x4), some (.int x5), some (.int x6), some (.int (if x7 < q98.1 then q98.1 else x7)), some (.int x8), some (.int ((1 : Int32) <<< (x8 &&& 31))), some (.int (if x5 < x7 then x7 else x5)), some (.int (if x7 < x6 then x7 else x6)), some (.int q98.1)]) dX5_bestPlay_183 (Nat.le_of_ble_eq_true rfl) rfl ?_
                      refine g_iinc (v := x8 + (1 : Int32)) (ls' := [some (.ref 61), some (.int x1), some (.int x2), some (.int x3), some (.int x4), some (.int x5), some (.int x6), some (.int (if x7 < q98.1 then q98.1 else x7)), some (.int (x8 + (1 : Int32))), some (.int ((1 : Int32) <<< (x8 &&& 31))), some (.int (if x5 < x7 then x7 else x5)), some (.int (if x7 < x6 then x7 else x6)), some (.int q98.1)]) dX5_bestPlay_185 rfl rfl rfl ?_
                      refine g_goto (t := 39) dX5_bestPlay_188 (by decide) ?_
                      exact g_sub (z_sub_s (z_sub_s (z_sub_s (z_sub_s (z_sub_s (z_sub_s (z_sub_s (z_sub_s (z_sub_s (z_sub_n (z_sub_n (z_sub_n (z_sub_n z_sub_nil))))))))))))) (ih _ _ _ _ _ _ _ _ _ _ _ _ h hq)
                  · replace h := z_ift c97 h
                    refine g_iconst (v := (1 : Int32)) dX5_bestPlay_147 (by decide) ?_
                    refine g_goto (t := 152) dX5_bestPlay_148 (by decide) ?_
                    refine g_iload dX5_bestPlay_152 rfl ?_
                    refine g_iload dX5_bestPlay_154 rfl ?_
                    obtain ⟨q101, e102, h⟩ := z_bd h
                    refine g_callS (as := [.ref 61, .int (x1 ||| ((1 : Int32) <<< (x8 &&& 31))), .int x2, .int (x3 - (1 : Int32)), .int (1 : Int32), .int (if x5 < x7 then x7 else x5), .int (if x7 < x6 then x7 else x6)]) (rest := []) (c := mX5_bestPlay) (k1 := k) dX5_bestPlay_156 rfl rfl rfl rfl rfl (Nat.le_of_ble_eq_true rfl) (Nat.le_of_ble_eq_true rfl) (by omega) ?_
                    refine hG _ _ _ _ _ _ _ _ _ _ e102 ?_
                    show z_G none (k + 1) mX5_bestPlay 159 [some (.ref 61), some (.int x1), some (.int x2), some (.int x3), some (.int x4), some (.int x5), some (.int x6), some (.int x7), some (.int x8), some (.int ((1 : Int32) <<< (x8 &&& 31))), some (.int (if x5 < x7 then x7 else x5)), some (.int (if x7 < x6 then x7 else x6)), none] [.int q101.1] q101.2 Q
                    refine g_istore (ls' := [some (.ref 61), some (.int x1), some (.int x2), some (.int x3), some (.int x4), some (.int x5), some (.int x6), some (.int x7), some (.int x8), some (.int ((1 : Int32) <<< (x8 &&& 31))), some (.int (if x5 < x7 then x7 else x5)), some (.int (if x7 < x6 then x7 else x6)), some (.int q101.1)]) dX5_bestPlay_159 (Nat.le_of_ble_eq_true rfl) rfl ?_
                    refine g_iload dX5_bestPlay_161 rfl ?_
                    refine g_if_eq (t := 176) dX5_bestPlay_163 (by decide) (fun c103 => ?_) (fun c103 => ?_)
                    · replace h := z_ift c103 h
                      refine g_iload dX5_bestPlay_176 rfl ?_
                      refine g_iload dX5_bestPlay_178 rfl ?_
                      refine g_min dX5_bestPlay_180 rfl (Nat.le_of_ble_eq_true rfl) ?_
                      refine g_istore (ls' := [some (.ref 61), some (.int x1), some (.int x2), some (.int x3), some (.int x4), some (.int x5), some (.int x6), some (.int (if q101.1 < x7 then q101.1 else x7)), some (.int x8), some (.int ((1 : Int32) <<< (x8 &&& 31))), some (.int (if x5 < x7 then x7 else x5)), some (.int (if x7 < x6 then x7 else x6)), some (.int q101.1)]) dX5_bestPlay_183 (Nat.le_of_ble_eq_true rfl) rfl ?_
                      refine g_iinc (v := x8 + (1 : Int32)) (ls' := [some (.ref 61), some (.int x1), some (.int x2), some (.int x3), some (.int x4), some (.int x5), some (.int x6), some (.int (if q101.1 < x7 then q101.1 else x7)), some (.int (x8 + (1 : Int32))), some (.int ((1 : Int32) <<< (x8 &&& 31))), some (.int (if x5 < x7 then x7 else x5)), some (.int (if x7 < x6 then x7 else x6)), some (.int q101.1)]) dX5_bestPlay_185 rfl rfl rfl ?_
                      refine g_goto (t := 39) dX5_bestPlay_188 (by decide) ?_
                      exact g_sub (z_sub_s (z_sub_s (z_sub_s (z_sub_s (z_sub_s (z_sub_s (z_sub_s (z_sub_s (z_sub_s (z_sub_n (z_sub_n (z_sub_n (z_sub_n z_sub_nil))))))))))))) (ih _ _ _ _ _ _ _ _ _ _ _ _ h hq)
                    · replace h := z_iff c103 h
                      refine g_iload dX5_bestPlay_166 rfl ?_
                      refine g_iload dX5_bestPlay_168 rfl ?_
                      refine g_max dX5_bestPlay_170 rfl (Nat.le_of_ble_eq_true rfl) ?_
                      refine g_goto (t := 183) dX5_bestPlay_173 (by decide) ?_
                      refine g_istore (ls' := [some (.ref 61), some (.int x1), some (.int x2), some (.int x3), some (.int x4), some (.int x5), some (.int x6), some (.int (if x7 < q101.1 then q101.1 else x7)), some (.int x8), some (.int ((1 : Int32) <<< (x8 &&& 31))), some (.int (if x5 < x7 then x7 else x5)), some (.int (if x7 < x6 then x7 else x6)), some (.int q101.1)]) dX5_bestPlay_183 (Nat.le_of_ble_eq_true rfl) rfl ?_
                      refine g_iinc (v := x8 + (1 : Int32)) (ls' := [some (.ref 61), some (.int x1), some (.int x2), some (.int x3), some (.int x4), some (.int x5), some (.int x6), some (.int (if x7 < q101.1 then q101.1 else x7)), some (.int (x8 + (1 : Int32))), some (.int ((1 : Int32) <<< (x8 &&& 31))), some (.int (if x5 < x7 then x7 else x5)), some (.int (if x7 < x6 then x7 else x6)), some (.int q101.1)]) dX5_bestPlay_185 rfl rfl rfl ?_
                      refine g_goto (t := 39) dX5_bestPlay_188 (by decide) ?_
                      exact g_sub (z_sub_s (z_sub_s (z_sub_s (z_sub_s (z_sub_s (z_sub_s (z_sub_s (z_sub_s (z_sub_s (z_sub_n (z_sub_n (z_sub_n (z_sub_n z_sub_nil))))))))))))) (ih _ _ _ _ _ _ _ _ _ _ _ _ h hq)
            · replace h := z_iff c72 h
              refine g_goto (t := 185) dX5_bestPlay_109 (by decide) ?_
              refine g_iinc (v := x8 + (1 : Int32)) (ls' := [some (.ref 61), some (.int x1), some (.int x2), some (.int x3), some (.int x4), some (.int x5), some (.int x6), some (.int x7), some (.int (x8 + (1 : Int32))), some (.int ((1 : Int32) <<< (x8 &&& 31))), some (.int (if x5 < x7 then x7 else x5)), some (.int (if x7 < x6 then x7 else x6)), none]) dX5_bestPlay_185 rfl rfl rfl ?_
              refine g_goto (t := 39) dX5_bestPlay_188 (by decide) ?_
              exact g_sub (z_sub_s (z_sub_s (z_sub_s (z_sub_s (z_sub_s (z_sub_s (z_sub_s (z_sub_s (z_sub_s (z_sub_n (z_sub_n (z_sub_n (z_sub_n z_sub_nil))))))))))))) (ih _ _ _ _ _ _ _ _ _ _ _ _ h hq)
          · replace h := z_iff c71 h
            refine g_goto (t := 191) dX5_bestPlay_97 (by decide) ?_
            refine g_iload dX5_bestPlay_191 rfl ?_
            cases h
            exact g_iret dX5_bestPlay_193 rfl rfl hq
        · replace h := z_iff c70 h
          refine g_iload dX5_bestPlay_76 rfl ?_
          refine g_goto (t := 88) dX5_bestPlay_78 (by decide) ?_
          refine g_istore (ls' := [some (.ref 61), some (.int x1), some (.int x2), some (.int x3), some (.int x4), some (.int x5), some (.int x6), some (.int x7), some (.int x8), some (.int ((1 : Int32) <<< (x8 &&& 31))), some (.int (if x5 < x7 then x7 else x5)), some (.int x6), none]) dX5_bestPlay_88 (Nat.le_of_ble_eq_true rfl) rfl ?_
          refine g_iload dX5_bestPlay_90 rfl ?_
          refine g_iload dX5_bestPlay_92 rfl ?_
          refine g_ic_lt (t := 100) dX5_bestPlay_94 (by decide) (fun c104 => ?_) (fun c104 => ?_)
          · replace h := z_ift c104 h
            refine g_iload_n dX5_bestPlay_100 rfl rfl ?_
            refine g_iload_n dX5_bestPlay_101 rfl rfl ?_
            refine g_ior dX5_bestPlay_102 ?_
            refine g_iload dX5_bestPlay_103 rfl ?_
            refine g_iand dX5_bestPlay_105 ?_
            refine g_if_eq (t := 112) dX5_bestPlay_106 (by decide) (fun c105 => ?_) (fun c105 => ?_)
            · replace h := z_ift c105 h
              refine g_aload_n dX5_bestPlay_112 rfl rfl ?_
              refine g_iload dX5_bestPlay_113 rfl ?_
              refine g_if_eq (t := 125) dX5_bestPlay_115 (by decide) (fun c106 => ?_) (fun c106 => ?_)
              · replace h := z_ift c106 h
                refine g_iload_n dX5_bestPlay_125 rfl rfl ?_
                refine g_iload dX5_bestPlay_126 rfl ?_
                refine g_if_eq (t := 135) dX5_bestPlay_128 (by decide) (fun c107 => ?_) (fun c107 => ?_)
                · replace h := z_ift c107 h
                  refine g_iload_n dX5_bestPlay_135 rfl rfl ?_
                  refine g_iload dX5_bestPlay_136 rfl ?_
                  refine g_ior dX5_bestPlay_138 ?_
                  refine g_iload_n dX5_bestPlay_139 rfl rfl ?_
                  refine g_iconst (v := (1 : Int32)) dX5_bestPlay_140 (by decide) ?_
                  refine g_isub dX5_bestPlay_141 ?_
                  refine g_iload dX5_bestPlay_142 rfl ?_
                  refine g_if_ne (t := 151) dX5_bestPlay_144 (by decide) (fun c108 => ?_) (fun c108 => ?_)
                  · replace h := z_iff c108 h
                    refine g_iconst (v := (0 : Int32)) dX5_bestPlay_151 (by decide) ?_
                    refine g_iload dX5_bestPlay_152 rfl ?_
                    refine g_iload dX5_bestPlay_154 rfl ?_
                    obtain ⟨q109, e110, h⟩ := z_bd h
                    refine g_callS (as := [.ref 61, .int x1, .int (x2 ||| ((1 : Int32) <<< (x8 &&& 31))), .int (x3 - (1 : Int32)), .int (0 : Int32), .int (if x5 < x7 then x7 else x5), .int x6]) (rest := []) (c := mX5_bestPlay) (k1 := k) dX5_bestPlay_156 rfl rfl rfl rfl rfl (Nat.le_of_ble_eq_true rfl) (Nat.le_of_ble_eq_true rfl) (by omega) ?_
                    refine hG _ _ _ _ _ _ _ _ _ _ e110 ?_
                    show z_G none (k + 1) mX5_bestPlay 159 [some (.ref 61), some (.int x1), some (.int x2), some (.int x3), some (.int x4), some (.int x5), some (.int x6), some (.int x7), some (.int x8), some (.int ((1 : Int32) <<< (x8 &&& 31))), some (.int (if x5 < x7 then x7 else x5)), some (.int x6), none] [.int q109.1] q109.2 Q
                    refine g_istore (ls' := [some (.ref 61), some (.int x1), some (.int x2), some (.int x3), some (.int x4), some (.int x5), some (.int x6), some (.int x7), some (.int x8), some (.int ((1 : Int32) <<< (x8 &&& 31))), some (.int (if x5 < x7 then x7 else x5)), some (.int x6), some (.int q109.1)]) dX5_bestPlay_159 (Nat.le_of_ble_eq_true rfl) rfl ?_
                    refine g_iload dX5_bestPlay_161 rfl ?_
                    refine g_if_eq (t := 176) dX5_bestPlay_163 (by decide) (fun c111 => ?_) (fun c111 => ?_)
                    · replace h := z_ift c111 h
                      refine g_iload dX5_bestPlay_176 rfl ?_
                      refine g_iload dX5_bestPlay_178 rfl ?_
                      refine g_min dX5_bestPlay_180 rfl (Nat.le_of_ble_eq_true rfl) ?_
                      refine g_istore (ls' := [some (.ref 61), some (.int x1), some (.int x2), some (.int x3), some (.int x4), some (.int x5), some (.int x6), some (.int (if q109.1 < x7 then q109.1 else x7)), some (.int x8), some (.int ((1 : Int32) <<< (x8 &&& 31))), some (.int (if x5 < x7 then x7 else x5)), some (.int x6), some (.int q109.1)]) dX5_bestPlay_183 (Nat.le_of_ble_eq_true rfl) rfl ?_
                      refine g_iinc (v := x8 + (1 : Int32)) (ls' := [some (.ref 61), some (.int x1), some (.int x2), some (.int x3), some (.int x4), some (.int x5), some (.int x6), some (.int (if q109.1 < x7 then q109.1 else x7)), some (.int (x8 + (1 : Int32))), some (.int ((1 : Int32) <<< (x8 &&& 31))), some (.int (if x5 < x7 then x7 else x5)), some (.int x6), some (.int q109.1)]) dX5_bestPlay_185 rfl rfl rfl ?_
                      refine g_goto (t := 39) dX5_bestPlay_188 (by decide) ?_
                      exact g_sub (z_sub_s (z_sub_s (z_sub_s (z_sub_s (z_sub_s (z_sub_s (z_sub_s (z_sub_s (z_sub_s (z_sub_n (z_sub_n (z_sub_n (z_sub_n z_sub_nil))))))))))))) (ih _ _ _ _ _ _ _ _ _ _ _ _ h hq)
                    · replace h := z_iff c111 h
                      refine g_iload dX5_bestPlay_166 rfl ?_
                      refine g_iload dX5_bestPlay_168 rfl ?_
                      refine g_max dX5_bestPlay_170 rfl (Nat.le_of_ble_eq_true rfl) ?_
                      refine g_goto (t := 183) dX5_bestPlay_173 (by decide) ?_
                      refine g_istore (ls' := [some (.ref 61), some (.int x1), some (.int x2), some (.int x3), some (.int x4), some (.int x5), some (.int x6), some (.int (if x7 < q109.1 then q109.1 else x7)), some (.int x8), some (.int ((1 : Int32) <<< (x8 &&& 31))), some (.int (if x5 < x7 then x7 else x5)), some (.int x6), some (.int q109.1)]) dX5_bestPlay_183 (Nat.le_of_ble_eq_true rfl) rfl ?_
                      refine g_iinc (v := x8 + (1 : Int32)) (ls' := [some (.ref 61), some (.int x1), some (.int x2), some (.int x3), some (.int x4), some (.int x5), some (.int x6), some (.int (if x7 < q109.1 then q109.1 else x7)), some (.int (x8 + (1 : Int32))), some (.int ((1 : Int32) <<< (x8 &&& 31))), some (.int (if x5 < x7 then x7 else x5)), some (.int x6), some (.int q109.1)]) dX5_bestPlay_185 rfl rfl rfl ?_
                      refine g_goto (t := 39) dX5_bestPlay_188 (by decide) ?_
                      exact g_sub (z_sub_s (z_sub_s (z_sub_s (z_sub_s (z_sub_s (z_sub_s (z_sub_s (z_sub_s (z_sub_s (z_sub_n (z_sub_n (z_sub_n (z_sub_n z_sub_nil))))))))))))) (ih _ _ _ _ _ _ _ _ _ _ _ _ h hq)
                  · replace h := z_ift c108 h
                    refine g_iconst (v := (1 : Int32)) dX5_bestPlay_147 (by decide) ?_
                    refine g_goto (t := 152) dX5_bestPlay_148 (by decide) ?_
                    refine g_iload dX5_bestPlay_152 rfl ?_
                    refine g_iload dX5_bestPlay_154 rfl ?_
                    obtain ⟨q112, e113, h⟩ := z_bd h
                    refine g_callS (as := [.ref 61, .int x1, .int (x2 ||| ((1 : Int32) <<< (x8 &&& 31))), .int (x3 - (1 : Int32)), .int (1 : Int32), .int (if x5 < x7 then x7 else x5), .int x6]) (rest := []) (c := mX5_bestPlay) (k1 := k) dX5_bestPlay_156 rfl rfl rfl rfl rfl (Nat.le_of_ble_eq_true rfl) (Nat.le_of_ble_eq_true rfl) (by omega) ?_
                    refine hG _ _ _ _ _ _ _ _ _ _ e113 ?_
                    show z_G none (k + 1) mX5_bestPlay 159 [some (.ref 61), some (.int x1), some (.int x2), some (.int x3), some (.int x4), some (.int x5), some (.int x6), some (.int x7), some (.int x8), some (.int ((1 : Int32) <<< (x8 &&& 31))), some (.int (if x5 < x7 then x7 else x5)), some (.int x6), none] [.int q112.1] q112.2 Q
                    refine g_istore (ls' := [some (.ref 61), some (.int x1), some (.int x2), some (.int x3), some (.int x4), some (.int x5), some (.int x6), some (.int x7), some (.int x8), some (.int ((1 : Int32) <<< (x8 &&& 31))), some (.int (if x5 < x7 then x7 else x5)), some (.int x6), some (.int q112.1)]) dX5_bestPlay_159 (Nat.le_of_ble_eq_true rfl) rfl ?_
                    refine g_iload dX5_bestPlay_161 rfl ?_
                    refine g_if_eq (t := 176) dX5_bestPlay_163 (by decide) (fun c114 => ?_) (fun c114 => ?_)
                    · replace h := z_ift c114 h
                      refine g_iload dX5_bestPlay_176 rfl ?_
                      refine g_iload dX5_bestPlay_178 rfl ?_
                      refine g_min dX5_bestPlay_180 rfl (Nat.le_of_ble_eq_true rfl) ?_
                      refine g_istore (ls' := [some (.ref 61), some (.int x1), some (.int x2), some (.int x3), some (.int x4), some (.int x5), some (.int x6), some (.int (if q112.1 < x7 then q112.1 else x7)), some (.int x8), some (.int ((1 : Int32) <<< (x8 &&& 31))), some (.int (if x5 < x7 then x7 else x5)), some (.int x6), some (.int q112.1)]) dX5_bestPlay_183 (Nat.le_of_ble_eq_true rfl) rfl ?_
                      refine g_iinc (v := x8 + (1 : Int32)) (ls' := [some (.ref 61), some (.int x1), some (.int x2), some (.int x3), some (.int x4), some (.int x5), some (.int x6), some (.int (if q112.1 < x7 then q112.1 else x7)), some (.int (x8 + (1 : Int32))), some (.int ((1 : Int32) <<< (x8 &&& 31))), some (.int (if x5 < x7 then x7 else x5)), some (.int x6), some (.int q112.1)]) dX5_bestPlay_185 rfl rfl rfl ?_
                      refine g_goto (t := 39) dX5_bestPlay_188 (by decide) ?_
                      exact g_sub (z_sub_s (z_sub_s (z_sub_s (z_sub_s (z_sub_s (z_sub_s (z_sub_s (z_sub_s (z_sub_s (z_sub_n (z_sub_n (z_sub_n (z_sub_n z_sub_nil))))))))))))) (ih _ _ _ _ _ _ _ _ _ _ _ _ h hq)
                    · replace h := z_iff c114 h
                      refine g_iload dX5_bestPlay_166 rfl ?_
                      refine g_iload dX5_bestPlay_168 rfl ?_
                      refine g_max dX5_bestPlay_170 rfl (Nat.le_of_ble_eq_true rfl) ?_
                      refine g_goto (t := 183) dX5_bestPlay_173 (by decide) ?_
                      refine g_istore (ls' := [some (.ref 61), some (.int x1), some (.int x2), some (.int x3), some (.int x4), some (.int x5), some (.int x6), some (.int (if x7 < q112.1 then q112.1 else x7)), some (.int x8), some (.int ((1 : Int32) <<< (x8 &&& 31))), some (.int (if x5 < x7 then x7 else x5)), some (.int x6), some (.int q112.1)]) dX5_bestPlay_183 (Nat.le_of_ble_eq_true rfl) rfl ?_
                      refine g_iinc (v := x8 + (1 : Int32)) (ls' := [some (.ref 61), some (.int x1), some (.int x2), some (.int x3), some (.int x4), some (.int x5), some (.int x6), some (.int (if x7 < q112.1 then q112.1 else x7)), some (.int (x8 + (1 : Int32))), some (.int ((1 : Int32) <<< (x8 &&& 31))), some (.int (if x5 < x7 then x7 else x5)), some (.int x6), some (.int q112.1)]) dX5_bestPlay_185 rfl rfl rfl ?_
                      refine g_goto (t := 39) dX5_bestPlay_188 (by decide) ?_
                      exact g_sub (z_sub_s (z_sub_s (z_sub_s (z_sub_s (z_sub_s (z_sub_s (z_sub_s (z_sub_s (z_sub_s (z_sub_n (z_sub_n (z_sub_n (z_sub_n z_sub_nil))))))))))))) (ih _ _ _ _ _ _ _ _ _ _ _ _ h hq)
                · replace h := z_iff c107 h
                  refine g_iload_n dX5_bestPlay_131 rfl rfl ?_
                  refine g_goto (t := 139) dX5_bestPlay_132 (by decide) ?_
                  refine g_iload_n dX5_bestPlay_139 rfl rfl ?_
                  refine g_iconst (v := (1 : Int32)) dX5_bestPlay_140 (by decide) ?_
                  refine g_isub dX5_bestPlay_141 ?_
                  refine g_iload dX5_bestPlay_142 rfl ?_
                  refine g_if_ne (t := 151) dX5_bestPlay_144 (by decide) (fun c115 => ?_) (fun c115 => ?_)
                  · replace h := z_iff c115 h
                    refine g_iconst (v := (0 : Int32)) dX5_bestPlay_151 (by decide) ?_
                    refine g_iload dX5_bestPlay_152 rfl ?_
                    refine g_iload dX5_bestPlay_154 rfl ?_
                    obtain ⟨q116, e117, h⟩ := z_bd h
                    refine g_callS (as := [.ref 61, .int x1, .int x2, .int (x3 - (1 : Int32)), .int (0 : Int32), .int (if x5 < x7 then x7 else x5), .int x6]) (rest := []) (c := mX5_bestPlay) (k1 := k) dX5_bestPlay_156 rfl rfl rfl rfl rfl (Nat.le_of_ble_eq_true rfl) (Nat.le_of_ble_eq_true rfl) (by omega) ?_
                    refine hG _ _ _ _ _ _ _ _ _ _ e117 ?_
                    show z_G none (k + 1) mX5_bestPlay 159 [some (.ref 61), some (.int x1), some (.int x2), some (.int x3), some (.int x4), some (.int x5), some (.int x6), some (.int x7), some (.int x8), some (.int ((1 : Int32) <<< (x8 &&& 31))), some (.int (if x5 < x7 then x7 else x5)), some (.int x6), none] [.int q116.1] q116.2 Q
                    refine g_istore (ls' := [some (.ref 61), some (.int x1), some (.int x2), some (.int x3), some (.int x4), some (.int x5), some (.int x6), some (.int x7), some (.int x8), some (.int ((1 : Int32) <<< (x8 &&& 31))), some (.int (if x5 < x7 then x7 else x5)), some (.int x6), some (.int q116.1)]) dX5_bestPlay_159 (Nat.le_of_ble_eq_true rfl) rfl ?_
                    refine g_iload dX5_bestPlay_161 rfl ?_
                    refine g_if_eq (t := 176) dX5_bestPlay_163 (by decide) (fun c118 => ?_) (fun c118 => ?_)
                    · replace h := z_ift c118 h
                      refine g_iload dX5_bestPlay_176 rfl ?_
                      refine g_iload dX5_bestPlay_178 rfl ?_
                      refine g_min dX5_bestPlay_180 rfl (Nat.le_of_ble_eq_true rfl) ?_
                      refine g_istore (ls' := [some (.ref 61), some (.int x1), some (.int x2), some (.int x3), some (.int x4), some (.int x5), some (.int x6), some (.int (if q116.1 < x7 then q116.1 else x7)), some (.int x8), some (.int ((1 : Int32) <<< (x8 &&& 31))), some (.int (if x5 < x7 then x7 else x5)), some (.int x6), some (.int q116.1)]) dX5_bestPlay_183 (Nat.le_of_ble_eq_true rfl) rfl ?_
                      refine g_iinc (v := x8 + (1 : Int32)) (ls' := [some (.ref 61), some (.int x1), some (.int x2), some (.int x3), some (.int x4), some (.int x5), some (.int x6), some (.int (if q116.1 < x7 then q116.1 else x7)), some (.int (x8 + (1 : Int32))), some (.int ((1 : Int32) <<< (x8 &&& 31))), some (.int (if x5 < x7 then x7 else x5)), some (.int x6), some (.int q116.1)]) dX5_bestPlay_185 rfl rfl rfl ?_
                      refine g_goto (t := 39) dX5_bestPlay_188 (by decide) ?_
                      exact g_sub (z_sub_s (z_sub_s (z_sub_s (z_sub_s (z_sub_s (z_sub_s (z_sub_s (z_sub_s (z_sub_s (z_sub_n (z_sub_n (z_sub_n (z_sub_n z_sub_nil))))))))))))) (ih _ _ _ _ _ _ _ _ _ _ _ _ h hq)
                    · replace h := z_iff c118 h
                      refine g_iload dX5_bestPlay_166 rfl ?_
                      refine g_iload dX5_bestPlay_168 rfl ?_
                      refine g_max dX5_bestPlay_170 rfl (Nat.le_of_ble_eq_true rfl) ?_
                      refine g_goto (t := 183) dX5_bestPlay_173 (by decide) ?_
                      refine g_istore (ls' := [some (.ref 61), some (.int x1), some (.int x2), some (.int x3), some (.int x4), some (.int x5), some (.int x6), some (.int (if x7 < q116.1 then q116.1 else x7)), some (.int x8), some (.int ((1 : Int32) <<< (x8 &&& 31))), some (.int (if x5 < x7 then x7 else x5)), some (.int x6), some (.int q116.1)]) dX5_bestPlay_183 (Nat.le_of_ble_eq_true rfl) rfl ?_
                      refine g_iinc (v := x8 + (1 : Int32)) (ls' := [some (.ref 61), some (.int x1), some (.int x2), some (.int x3), some (.int x4), some (.int x5), some (.int x6), some (.int (if x7 < q116.1 then q116.1 else x7)), some (.int (x8 + (1 : Int32))), some (.int ((1 : Int32) <<< (x8 &&& 31))), some (.int (if x5 < x7 then x7 else x5)), some (.int x6), some (.int q116.1)]) dX5_bestPlay_185 rfl rfl rfl ?_
                      refine g_goto (t := 39) dX5_bestPlay_188 (by decide) ?_
                      exact g_sub (z_sub_s (z_sub_s (z_sub_s (z_sub_s (z_sub_s (z_sub_s (z_sub_s (z_sub_s (z_sub_s (z_sub_n (z_sub_n (z_sub_n (z_sub_n z_sub_nil))))))))))))) (ih _ _ _ _ _ _ _ _ _ _ _ _ h hq)
                  · replace h := z_ift c115 h
                    refine g_iconst (v := (1 : Int32)) dX5_bestPlay_147 (by decide) ?_
                    refine g_goto (t := 152) dX5_bestPlay_148 (by decide) ?_
                    refine g_iload dX5_bestPlay_152 rfl ?_
                    refine g_iload dX5_bestPlay_154 rfl ?_
                    obtain ⟨q119, e120, h⟩ := z_bd h
                    refine g_callS (as := [.ref 61, .int x1, .int x2, .int (x3 - (1 : Int32)), .int (1 : Int32), .int (if x5 < x7 then x7 else x5), .int x6]) (rest := []) (c := mX5_bestPlay) (k1 := k) dX5_bestPlay_156 rfl rfl rfl rfl rfl (Nat.le_of_ble_eq_true rfl) (Nat.le_of_ble_eq_true rfl) (by omega) ?_
                    refine hG _ _ _ _ _ _ _ _ _ _ e120 ?_
                    show z_G none (k + 1) mX5_bestPlay 159 [some (.ref 61), some (.int x1), some (.int x2), some (.int x3), some (.int x4), some (.int x5), some (.int x6), some (.int x7), some (.int x8), some (.int ((1 : Int32) <<< (x8 &&& 31))), some (.int (if x5 < x7 then x7 else x5)), some (.int x6), none] [.int q119.1] q119.2 Q
                    refine g_istore (ls' := [some (.ref 61), some (.int x1), some (.int x2), some (.int x3), some (.int x4), some (.int x5), some (.int x6), some (.int x7), some (.int x8), some (.int ((1 : Int32) <<< (x8 &&& 31))), some (.int (if x5 < x7 then x7 else x5)), some (.int x6), some (.int q119.1)]) dX5_bestPlay_159 (Nat.le_of_ble_eq_true rfl) rfl ?_
                    refine g_iload dX5_bestPlay_161 rfl ?_
                    refine g_if_eq (t := 176) dX5_bestPlay_163 (by decide) (fun c121 => ?_) (fun c121 => ?_)
                    · replace h := z_ift c121 h
                      refine g_iload dX5_bestPlay_176 rfl ?_
                      refine g_iload dX5_bestPlay_178 rfl ?_
                      refine g_min dX5_bestPlay_180 rfl (Nat.le_of_ble_eq_true rfl) ?_
                      refine g_istore (ls' := [some (.ref 61), some (.int x1), some (.int x2), some (.int x3), some (.int x4), some (.int x5), some (.int x6), some (.int (if q119.1 < x7 then q119.1 else x7)), some (.int x8), some (.int ((1 : Int32) <<< (x8 &&& 31))), some (.int (if x5 < x7 then x7 else x5)), some (.int x6), some (.int q119.1)]) dX5_bestPlay_183 (Nat.le_of_ble_eq_true rfl) rfl ?_
                      refine g_iinc (v := x8 + (1 : Int32)) (ls' := [some (.ref 61), some (.int x1), some (.int x2), some (.int x3), some (.int x4), some (.int x5), some (.int x6), some (.int (if q119.1 < x7 then q119.1 else x7)), some (.int (x8 + (1 : Int32))), some (.int ((1 : Int32) <<< (x8 &&& 31))), some (.int (if x5 < x7 then x7 else x5)), some (.int x6), some (.int q119.1)]) dX5_bestPlay_185 rfl rfl rfl ?_
                      refine g_goto (t := 39) dX5_bestPlay_188 (by decide) ?_
                      exact g_sub (z_sub_s (z_sub_s (z_sub_s (z_sub_s (z_sub_s (z_sub_s (z_sub_s (z_sub_s (z_sub_s (z_sub_n (z_sub_n (z_sub_n (z_sub_n z_sub_nil))))))))))))) (ih _ _ _ _ _ _ _ _ _ _ _ _ h hq)
                    · replace h := z_iff c121 h
                      refine g_iload dX5_bestPlay_166 rfl ?_
                      refine g_iload dX5_bestPlay_168 rfl ?_
                      refine g_max dX5_bestPlay_170 rfl (Nat.le_of_ble_eq_true rfl) ?_
                      refine g_goto (t := 183) dX5_bestPlay_173 (by decide) ?_
                      refine g_istore (ls' := [some (.ref 61), some (.int x1), some (.int x2), some (.int x3), some (.int x4), some (.int x5), some (.int x6), some (.int (if x7 < q119.1 then q119.1 else x7)), some (.int x8), some (.int ((1 : Int32) <<< (x8 &&& 31))), some (.int (if x5 < x7 then x7 else x5)), some (.int x6), some (.int q119.1)]) dX5_bestPlay_183 (Nat.le_of_ble_eq_true rfl) rfl ?_
                      refine g_iinc (v := x8 + (1 : Int32)) (ls' := [some (.ref 61), some (.int x1), some (.int x2), some (.int x3), some (.int x4), some (.int x5), some (.int x6), some (.int (if x7 < q119.1 then q119.1 else x7)), some (.int (x8 + (1 : Int32))), some (.int ((1 : Int32) <<< (x8 &&& 31))), some (.int (if x5 < x7 then x7 else x5)), some (.int x6), some (.int q119.1)]) dX5_bestPlay_185 rfl rfl rfl ?_
                      refine g_goto (t := 39) dX5_bestPlay_188 (by decide) ?_
                      exact g_sub (z_sub_s (z_sub_s (z_sub_s (z_sub_s (z_sub_s (z_sub_s (z_sub_s (z_sub_s (z_sub_s (z_sub_n (z_sub_n (z_sub_n (z_sub_n z_sub_nil))))))))))))) (ih _ _ _ _ _ _ _ _ _ _ _ _ h hq)
              · replace h := z_iff c106 h
                refine g_iload_n dX5_bestPlay_118 rfl rfl ?_
                refine g_iload dX5_bestPlay_119 rfl ?_
                refine g_ior dX5_bestPlay_121 ?_
                refine g_goto (t := 126) dX5_bestPlay_122 (by decide) ?_
                refine g_iload dX5_bestPlay_126 rfl ?_
                refine g_if_eq (t := 135) dX5_bestPlay_128 (by decide) (fun c122 => ?_) (fun c122 => ?_)
                · replace h := z_ift c122 h
                  refine g_iload_n dX5_bestPlay_135 rfl rfl ?_
                  refine g_iload dX5_bestPlay_136 rfl ?_
                  refine g_ior dX5_bestPlay_138 ?_
                  refine g_iload_n dX5_bestPlay_139 rfl rfl ?_
                  refine g_iconst (v := (1 : Int32)) dX5_bestPlay_140 (by decide) ?_
                  refine g_isub dX5_bestPlay_141 ?_
                  refine g_iload dX5_bestPlay_142 rfl ?_
                  refine g_if_ne (t := 151) dX5_bestPlay_144 (by decide) (fun c123 => ?_) (fun c123 => ?_)
                  · replace h := z_iff c123 h
                    refine g_iconst (v := (0 : Int32)) dX5_bestPlay_151 (by decide) ?_
                    refine g_iload dX5_bestPlay_152 rfl ?_
                    refine g_iload dX5_bestPlay_154 rfl ?_
                    obtain ⟨q124, e125, h⟩ := z_bd h
                    refine g_callS (as := [.ref 61, .int (x1 ||| ((1 : Int32) <<< (x8 &&& 31))), .int (x2 ||| ((1 : Int32) <<< (x8 &&& 31))), .int (x3 - (1 : Int32)), .int (0 : Int32), .int (if x5 < x7 then x7 else x5), .int x6]) (rest := []) (c := mX5_bestPlay) (k1 := k) dX5_bestPlay_156 rfl rfl rfl rfl rfl (Nat.le_of_ble_eq_true rfl) (Nat.le_of_ble_eq_true rfl) (by omega) ?_
                    refine hG _ _ _ _ _ _ _ _ _ _ e125 ?_
                    show z_G none (k + 1) mX5_bestPlay 159 [some (.ref 61), some (.int x1), some (.int x2), some (.int x3), some (.int x4), some (.int x5), some (.int x6), some (.int x7), some (.int x8), some (.int ((1 : Int32) <<< (x8 &&& 31))), some (.int (if x5 < x7 then x7 else x5)), some (.int x6), none] [.int q124.1] q124.2 Q
                    refine g_istore (ls' := [some (.ref 61), some (.int x1), some (.int x2), some (.int x3), some (.int x4), some (.int x5), some (.int x6), some (.int x7), some (.int x8), some (.int ((1 : Int32) <<< (x8 &&& 31))), some (.int (if x5 < x7 then x7 else x5)), some (.int x6), some (.int q124.1)]) dX5_bestPlay_159 (Nat.le_of_ble_eq_true rfl) rfl ?_
                    refine g_iload dX5_bestPlay_161 rfl ?_
                    refine g_if_eq (t := 176) dX5_bestPlay_163 (by decide) (fun c126 => ?_) (fun c126 => ?_)
                    · replace h := z_ift c126 h
                      refine g_iload dX5_bestPlay_176 rfl ?_
                      refine g_iload dX5_bestPlay_178 rfl ?_
                      refine g_min dX5_bestPlay_180 rfl (Nat.le_of_ble_eq_true rfl) ?_
                      refine g_istore (ls' := [some (.ref 61), some (.int x1), some (.int x2), some (.int x3), some (.int x4), some (.int x5), some (.int x6), some (.int (if q124.1 < x7 then q124.1 else x7)), some (.int x8), some (.int ((1 : Int32) <<< (x8 &&& 31))), some (.int (if x5 < x7 then x7 else x5)), some (.int x6), some (.int q124.1)]) dX5_bestPlay_183 (Nat.le_of_ble_eq_true rfl) rfl ?_
                      refine g_iinc (v := x8 + (1 : Int32)) (ls' := [some (.ref 61), some (.int x1), some (.int x2), some (.int x3), some (.int x4), some (.int x5), some (.int x6), some (.int (if q124.1 < x7 then q124.1 else x7)), some (.int (x8 + (1 : Int32))), some (.int ((1 : Int32) <<< (x8 &&& 31))), some (.int (if x5 < x7 then x7 else x5)), some (.int x6), some (.int q124.1)]) dX5_bestPlay_185 rfl rfl rfl ?_
                      refine g_goto (t := 39) dX5_bestPlay_188 (by decide) ?_
                      exact g_sub (z_sub_s (z_sub_s (z_sub_s (z_sub_s (z_sub_s (z_sub_s (z_sub_s (z_sub_s (z_sub_s (z_sub_n (z_sub_n (z_sub_n (z_sub_n z_sub_nil))))))))))))) (ih _ _ _ _ _ _ _ _ _ _ _ _ h hq)
                    · replace h := z_iff c126 h
                      refine g_iload dX5_bestPlay_166 rfl ?_
                      refine g_iload dX5_bestPlay_168 rfl ?_
                      refine g_max dX5_bestPlay_170 rfl (Nat.le_of_ble_eq_true rfl) ?_
                      refine g_goto (t := 183) dX5_bestPlay_173 (by decide) ?_
                      refine g_istore (ls' := [some (.ref 61), some (.int x1), some (.int x2), some (.int x3), some (.int x4), some (.int x5), some (.int x6), some (.int (if x7 < q124.1 then q124.1 else x7)), some (.int x8), some (.int ((1 : Int32) <<< (x8 &&& 31))), some (.int (if x5 < x7 then x7 else x5)), some (.int x6), some (.int q124.1)]) dX5_bestPlay_183 (Nat.le_of_ble_eq_true rfl) rfl ?_
                      refine g_iinc (v := x8 + (1 : Int32)) (ls' := [some (.ref 61), some (.int x1), some (.int x2), some (.int x3), some (.int x4), some (.int x5), some (.int x6), some (.int (if x7 < q124.1 then q124.1 else x7)), some (.int (x8 + (1 : Int32))), some (.int ((1 : Int32) <<< (x8 &&& 31))), some (.int (if x5 < x7 then x7 else x5)), some (.int x6), some (.int q124.1)]) dX5_bestPlay_185 rfl rfl rfl ?_
                      refine g_goto (t := 39) dX5_bestPlay_188 (by decide) ?_
                      exact g_sub (z_sub_s (z_sub_s (z_sub_s (z_sub_s (z_sub_s (z_sub_s (z_sub_s (z_sub_s (z_sub_s (z_sub_n (z_sub_n (z_sub_n (z_sub_n z_sub_nil))))))))))))) (ih _ _ _ _ _ _ _ _ _ _ _ _ h hq)
                  · replace h := z_ift c123 h
                    refine g_iconst (v := (1 : Int32)) dX5_bestPlay_147 (by decide) ?_
                    refine g_goto (t := 152) dX5_bestPlay_148 (by decide) ?_
                    refine g_iload dX5_bestPlay_152 rfl ?_
                    refine g_iload dX5_bestPlay_154 rfl ?_
                    obtain ⟨q127, e128, h⟩ := z_bd h
                    refine g_callS (as := [.ref 61, .int (x1 ||| ((1 : Int32) <<< (x8 &&& 31))), .int (x2 ||| ((1 : Int32) <<< (x8 &&& 31))), .int (x3 - (1 : Int32)), .int (1 : Int32), .int (if x5 < x7 then x7 else x5), .int x6]) (rest := []) (c := mX5_bestPlay) (k1 := k) dX5_bestPlay_156 rfl rfl rfl rfl rfl (Nat.le_of_ble_eq_true rfl) (Nat.le_of_ble_eq_true rfl) (by omega) ?_
                    refine hG _ _ _ _ _ _ _ _ _ _ e128 ?_
                    show z_G none (k + 1) mX5_bestPlay 159 [some (.ref 61), some (.int x1), some (.int x2), some (.int x3), some (.int x4), some (.int x5), some (.int x6), some (.int x7), some (.int x8), some (.int ((1 : Int32) <<< (x8 &&& 31))), some (.int (if x5 < x7 then x7 else x5)), some (.int x6), none] [.int q127.1] q127.2 Q
                    refine g_istore (ls' := [some (.ref 61), some (.int x1), some (.int x2), some (.int x3), some (.int x4), some (.int x5), some (.int x6), some (.int x7), some (.int x8), some (.int ((1 : Int32) <<< (x8 &&& 31))), some (.int (if x5 < x7 then x7 else x5)), some (.int x6), some (.int q127.1)]) dX5_bestPlay_159 (Nat.le_of_ble_eq_true rfl) rfl ?_
                    refine g_iload dX5_bestPlay_161 rfl ?_
                    refine g_if_eq (t := 176) dX5_bestPlay_163 (by decide) (fun c129 => ?_) (fun c129 => ?_)
                    · replace h := z_ift c129 h
                      refine g_iload dX5_bestPlay_176 rfl ?_
                      refine g_iload dX5_bestPlay_178 rfl ?_
                      refine g_min dX5_bestPlay_180 rfl (Nat.le_of_ble_eq_true rfl) ?_
                      refine g_istore (ls' := [some (.ref 61), some (.int x1), some (.int x2), some (.int x3), some (.int x4), some (.int x5), some (.int x6), some (.int (if q127.1 < x7 then q127.1 else x7)), some (.int x8), some (.int ((1 : Int32) <<< (x8 &&& 31))), some (.int (if x5 < x7 then x7 else x5)), some (.int x6), some (.int q127.1)]) dX5_bestPlay_183 (Nat.le_of_ble_eq_true rfl) rfl ?_
                      refine g_iinc (v := x8 + (1 : Int32)) (ls' := [some (.ref 61), some (.int x1), some (.int x2), some (.int x3), some (.int x4), some (.int x5), some (.int x6), some (.int (if q127.1 < x7 then q127.1 else x7)), some (.int (x8 + (1 : Int32))), some (.int ((1 : Int32) <<< (x8 &&& 31))), some (.int (if x5 < x7 then x7 else x5)), some (.int x6), some (.int q127.1)]) dX5_bestPlay_185 rfl rfl rfl ?_
                      refine g_goto (t := 39) dX5_bestPlay_188 (by decide) ?_
                      exact g_sub (z_sub_s (z_sub_s (z_sub_s (z_sub_s (z_sub_s (z_sub_s (z_sub_s (z_sub_s (z_sub_s (z_sub_n (z_sub_n (z_sub_n (z_sub_n z_sub_nil))))))))))))) (ih _ _ _ _ _ _ _ _ _ _ _ _ h hq)
                    · replace h := z_iff c129 h
                      refine g_iload dX5_bestPlay_166 rfl ?_
                      refine g_iload dX5_bestPlay_168 rfl ?_
                      refine g_max dX5_bestPlay_170 rfl (Nat.le_of_ble_eq_true rfl) ?_
                      refine g_goto (t := 183) dX5_bestPlay_173 (by decide) ?_
                      refine g_istore (ls' := [some (.ref 61), some (.int x1), some (.int x2), some (.int x3), some (.int x4), some (.int x5), some (.int x6), some (.int (if x7 < q127.1 then q127.1 else x7)), some (.int x8), some (.int ((1 : Int32) <<< (x8 &&& 31))), some (.int (if x5 < x7 then x7 else x5)), some (.int x6), some (.int q127.1)]) dX5_bestPlay_183 (Nat.le_of_ble_eq_true rfl) rfl ?_
                      refine g_iinc (v := x8 + (1 : Int32)) (ls' := [some (.ref 61), some (.int x1), some (.int x2), some (.int x3), some (.int x4), some (.int x5), some (.int x6), some (.int (if x7 < q127.1 then q127.1 else x7)), some (.int (x8 + (1 : Int32))), some (.int ((1 : Int32) <<< (x8 &&& 31))), some (.int (if x5 < x7 then x7 else x5)), some (.int x6), some (.int q127.1)]) dX5_bestPlay_185 rfl rfl rfl ?_
                      refine g_goto (t := 39) dX5_bestPlay_188 (by decide) ?_
                      exact g_sub (z_sub_s (z_sub_s (z_sub_s (z_sub_s (z_sub_s (z_sub_s (z_sub_s (z_sub_s (z_sub_s (z_sub_n (z_sub_n (z_sub_n (z_sub_n z_sub_nil))))))))))))) (ih _ _ _ _ _ _ _ _ _ _ _ _ h hq)
                · replace h := z_iff c122 h
                  refine g_iload_n dX5_bestPlay_131 rfl rfl ?_
                  refine g_goto (t := 139) dX5_bestPlay_132 (by decide) ?_
                  refine g_iload_n dX5_bestPlay_139 rfl rfl ?_
                  refine g_iconst (v := (1 : Int32)) dX5_bestPlay_140 (by decide) ?_
                  refine g_isub dX5_bestPlay_141 ?_
                  refine g_iload dX5_bestPlay_142 rfl ?_
                  refine g_if_ne (t := 151) dX5_bestPlay_144 (by decide) (fun c130 => ?_) (fun c130 => ?_)
                  · replace h := z_iff c130 h
                    refine g_iconst (v := (0 : Int32)) dX5_bestPlay_151 (by decide) ?_
                    refine g_iload dX5_bestPlay_152 rfl ?_
                    refine g_iload dX5_bestPlay_154 rfl ?_
                    obtain ⟨q131, e132, h⟩ := z_bd h
                    refine g_callS (as := [.ref 61, .int (x1 ||| ((1 : Int32) <<< (x8 &&& 31))), .int x2, .int (x3 - (1 : Int32)), .int (0 : Int32), .int (if x5 < x7 then x7 else x5), .int x6]) (rest := []) (c := mX5_bestPlay) (k1 := k) dX5_bestPlay_156 rfl rfl rfl rfl rfl (Nat.le_of_ble_eq_true rfl) (Nat.le_of_ble_eq_true rfl) (by omega) ?_
                    refine hG _ _ _ _ _ _ _ _ _ _ e132 ?_
                    show z_G none (k + 1) mX5_bestPlay 159 [some (.ref 61), some (.int x1), some (.int x2), some (.int x3), some (.int x4), some (.int x5), some (.int x6), some (.int x7), some (.int x8), some (.int ((1 : Int32) <<< (x8 &&& 31))), some (.int (if x5 < x7 then x7 else x5)), some (.int x6), none] [.int q131.1] q131.2 Q
                    refine g_istore (ls' := [some (.ref 61), some (.int x1), some (.int x2), some (.int x3), some (.int x4), some (.int x5), some (.int x6), some (.int x7), some (.int x8), some (.int ((1 : Int32) <<< (x8 &&& 31))), some (.int (if x5 < x7 then x7 else x5)), some (.int x6), some (.int q131.1)]) dX5_bestPlay_159 (Nat.le_of_ble_eq_true rfl) rfl ?_
                    refine g_iload dX5_bestPlay_161 rfl ?_
                    refine g_if_eq (t := 176) dX5_bestPlay_163 (by decide) (fun c133 => ?_) (fun c133 => ?_)
                    · replace h := z_ift c133 h
                      refine g_iload dX5_bestPlay_176 rfl ?_
                      refine g_iload dX5_bestPlay_178 rfl ?_
                      refine g_min dX5_bestPlay_180 rfl (Nat.le_of_ble_eq_true rfl) ?_
                      refine g_istore (ls' := [some (.ref 61), some (.int x1), some (.int x2), some (.int x3), some (.int x4), some (.int x5), some (.int x6), some (.int (if q131.1 < x7 then q131.1 else x7)), some (.int x8), some (.int ((1 : Int32) <<< (x8 &&& 31))), some (.int (if x5 < x7 then x7 else x5)), some (.int x6), some (.int q131.1)]) dX5_bestPlay_183 (Nat.le_of_ble_eq_true rfl) rfl ?_
                      refine g_iinc (v := x8 + (1 : Int32)) (ls' := [some (.ref 61), some (.int x1), some (.int x2), some (.int x3), some (.int x4), some (.int x5), some (.int x6), some (.int (if q131.1 < x7 then q131.1 else x7)), some (.int (x8 + (1 : Int32))), some (.int ((1 : Int32) <<< (x8 &&& 31))), some (.int (if x5 < x7 then x7 else x5)), some (.int x6), some (.int q131.1)]) dX5_bestPlay_185 rfl rfl rfl ?_
                      refine g_goto (t := 39) dX5_bestPlay_188 (by decide) ?_
                      exact g_sub (z_sub_s (z_sub_s (z_sub_s (z_sub_s (z_sub_s (z_sub_s (z_sub_s (z_sub_s (z_sub_s (z_sub_n (z_sub_n (z_sub_n (z_sub_n z_sub_nil))))))))))))) (ih _ _ _ _ _ _ _ _ _ _ _ _ h hq)
                    · replace h := z_iff c133 h
                      refine g_iload dX5_bestPlay_166 rfl ?_
                      refine g_iload dX5_bestPlay_168 rfl ?_
                      refine g_max dX5_bestPlay_170 rfl (Nat.le_of_ble_eq_true rfl) ?_
                      refine g_goto (t := 183) dX5_bestPlay_173 (by decide) ?_
                      refine g_istore (ls' := [some (.ref 61), some (.int x1), some (.int x2), some (.int x3), some (.int x4), some (.int x5), some (.int x6), some (.int (if x7 < q131.1 then q131.1 else x7)), some (.int x8), some (.int ((1 : Int32) <<< (x8 &&& 31))), some (.int (if x5 < x7 then x7 else x5)), some (.int x6), some (.int q131.1)]) dX5_bestPlay_183 (Nat.le_of_ble_eq_true rfl) rfl ?_
                      refine g_iinc (v := x8 + (1 : Int32)) (ls' := [some (.ref 61), some (.int x1), some (.int x2), some (.int x3), some (.int x4), some (.int x5), some (.int x6), some (.int (if x7 < q131.1 then q131.1 else x7)), some (.int (x8 + (1 : Int32))), some (.int ((1 : Int32) <<< (x8 &&& 31))), some (.int (if x5 < x7 then x7 else x5)), some (.int x6), some (.int q131.1)]) dX5_bestPlay_185 rfl rfl rfl ?_
                      refine g_goto (t := 39) dX5_bestPlay_188 (by decide) ?_
                      exact g_sub (z_sub_s (z_sub_s (z_sub_s (z_sub_s (z_sub_s (z_sub_s (z_sub_s (z_sub_s (z_sub_s (z_sub_n (z_sub_n (z_sub_n (z_sub_n z_sub_nil))))))))))))) (ih _ _ _ _ _ _ _ _ _ _ _ _ h hq)
                  · replace h := z_ift c130 h
                    refine g_iconst (v := (1 : Int32)) dX5_bestPlay_147 (by decide) ?_
                    refine g_goto (t := 152) dX5_bestPlay_148 (by decide) ?_
                    refine g_iload dX5_bestPlay_152 rfl ?_
                    refine g_iload dX5_bestPlay_154 rfl ?_
                    obtain ⟨q134, e135, h⟩ := z_bd h
                    refine g_callS (as := [.ref 61, .int (x1 ||| ((1 : Int32) <<< (x8 &&& 31))), .int x2, .int (x3 - (1 : Int32)), .int (1 : Int32), .int (if x5 < x7 then x7 else x5), .int x6]) (rest := []) (c := mX5_bestPlay) (k1 := k) dX5_bestPlay_156 rfl rfl rfl rfl rfl (Nat.le_of_ble_eq_true rfl) (Nat.le_of_ble_eq_true rfl) (by omega) ?_
                    refine hG _ _ _ _ _ _ _ _ _ _ e135 ?_
                    show z_G none (k + 1) mX5_bestPlay 159 [some (.ref 61), some (.int x1), some (.int x2), some (.int x3), some (.int x4), some (.int x5), some (.int x6), some (.int x7), some (.int x8), some (.int ((1 : Int32) <<< (x8 &&& 31))), some (.int (if x5 < x7 then x7 else x5)), some (.int x6), none] [.int q134.1] q134.2 Q
                    refine g_istore (ls' := [some (.ref 61), some (.int x1), some (.int x2), some (.int x3), some (.int x4), some (.int x5), some (.int x6), some (.int x7), some (.int x8), some (.int ((1 : Int32) <<< (x8 &&& 31))), some (.int (if x5 < x7 then x7 else x5)), some (.int x6), some (.int q134.1)]) dX5_bestPlay_159 (Nat.le_of_ble_eq_true rfl) rfl ?_
                    refine g_iload dX5_bestPlay_161 rfl ?_
                    refine g_if_eq (t := 176) dX5_bestPlay_163 (by decide) (fun c136 => ?_) (fun c136 => ?_)
                    · replace h := z_ift c136 h
                      refine g_iload dX5_bestPlay_176 rfl ?_
                      refine g_iload dX5_bestPlay_178 rfl ?_
                      refine g_min dX5_bestPlay_180 rfl (Nat.le_of_ble_eq_true rfl) ?_
                      refine g_istore (ls' := [some (.ref 61), some (.int x1), some (.int x2), some (.int x3), some (.int x4), some (.int x5), some (.int x6), some (.int (if q134.1 < x7 then q134.1 else x7)), some (.int x8), some (.int ((1 : Int32) <<< (x8 &&& 31))), some (.int (if x5 < x7 then x7 else x5)), some (.int x6), some (.int q134.1)]) dX5_bestPlay_183 (Nat.le_of_ble_eq_true rfl) rfl ?_
                      refine g_iinc (v := x8 + (1 : Int32)) (ls' := [some (.ref 61), some (.int x1), some (.int x2), some (.int x3), some (.int x4), some (.int x5), some (.int x6), some (.int (if q134.1 < x7 then q134.1 else x7)), some (.int (x8 + (1 : Int32))), some (.int ((1 : Int32) <<< (x8 &&& 31))), some (.int (if x5 < x7 then x7 else x5)), some (.int x6), some (.int q134.1)]) dX5_bestPlay_185 rfl rfl rfl ?_
                      refine g_goto (t := 39) dX5_bestPlay_188 (by decide) ?_
                      exact g_sub (z_sub_s (z_sub_s (z_sub_s (z_sub_s (z_sub_s (z_sub_s (z_sub_s (z_sub_s (z_sub_s (z_sub_n (z_sub_n (z_sub_n (z_sub_n z_sub_nil))))))))))))) (ih _ _ _ _ _ _ _ _ _ _ _ _ h hq)
                    · replace h := z_iff c136 h
                      refine g_iload dX5_bestPlay_166 rfl ?_
                      refine g_iload dX5_bestPlay_168 rfl ?_
                      refine g_max dX5_bestPlay_170 rfl (Nat.le_of_ble_eq_true rfl) ?_
                      refine g_goto (t := 183) dX5_bestPlay_173 (by decide) ?_
                      refine g_istore (ls' := [some (.ref 61), some (.int x1), some (.int x2), some (.int x3), some (.int x4), some (.int x5), some (.int x6), some (.int (if x7 < q134.1 then q134.1 else x7)), some (.int x8), some (.int ((1 : Int32) <<< (x8 &&& 31))), some (.int (if x5 < x7 then x7 else x5)), some (.int x6), some (.int q134.1)]) dX5_bestPlay_183 (Nat.le_of_ble_eq_true rfl) rfl ?_
                      refine g_iinc (v := x8 + (1 : Int32)) (ls' := [some (.ref 61), some (.int x1), some (.int x2), some (.int x3), some (.int x4), some (.int x5), some (.int x6), some (.int (if x7 < q134.1 then q134.1 else x7)), some (.int (x8 + (1 : Int32))), some (.int ((1 : Int32) <<< (x8 &&& 31))), some (.int (if x5 < x7 then x7 else x5)), some (.int x6), some (.int q134.1)]) dX5_bestPlay_185 rfl rfl rfl ?_
                      refine g_goto (t := 39) dX5_bestPlay_188 (by decide) ?_
                      exact g_sub (z_sub_s (z_sub_s (z_sub_s (z_sub_s (z_sub_s (z_sub_s (z_sub_s (z_sub_s (z_sub_s (z_sub_n (z_sub_n (z_sub_n (z_sub_n z_sub_nil))))))))))))) (ih _ _ _ _ _ _ _ _ _ _ _ _ h hq)
            · replace h := z_iff c105 h
              refine g_goto (t := 185) dX5_bestPlay_109 (by decide) ?_
              refine g_iinc (v := x8 + (1 : Int32)) (ls' := [some (.ref 61), some (.int x1), some (.int x2), some (.int x3), some (.int x4), some (.int x5), some (.int x6), some (.int x7), some (.int (x8 + (1 : Int32))), some (.int ((1 : Int32) <<< (x8 &&& 31))), some (.int (if x5 < x7 then x7 else x5)), some (.int x6), none]) dX5_bestPlay_185 rfl rfl rfl ?_
              refine g_goto (t := 39) dX5_bestPlay_188 (by decide) ?_
              exact g_sub (z_sub_s (z_sub_s (z_sub_s (z_sub_s (z_sub_s (z_sub_s (z_sub_s (z_sub_s (z_sub_s (z_sub_n (z_sub_n (z_sub_n (z_sub_n z_sub_nil))))))))))))) (ih _ _ _ _ _ _ _ _ _ _ _ _ h hq)
          · replace h := z_iff c104 h
            refine g_goto (t := 191) dX5_bestPlay_97 (by decide) ?_
            refine g_iload dX5_bestPlay_191 rfl ?_
            cases h
            exact g_iret dX5_bestPlay_193 rfl rfl hq
def Fb_X5_bestPlay (w : Nat) (G : z_Mem → Int32 → Int32 → Int32 → Int32 → Int32 → Int32 → Option (Int32 × z_Mem)) (M : z_Mem) (a1 : Int32) (a2 : Int32) (a3 : Int32) (a4 : Int32) (a5 : Int32) (a6 : Int32) : Option (Int32 × z_Mem) :=
  if (0 : Int32) < a3 then
  if a4 = (0 : Int32) then
  (G M a1 a2 (a3 - (1 : Int32)) (1 : Int32) a5 a6).bind fun q141 =>
  L_X5_bestPlay w G w q141.2 a1 a2 a3 a4 a5 a6 q141.1 (0 : Int32)
  else
  (G M a1 a2 (a3 - (1 : Int32)) (0 : Int32) a5 a6).bind fun q139 =>
  L_X5_bestPlay w G w q139.2 a1 a2 a3 a4 a5 a6 q139.1 (0 : Int32)
  else
  (F_X5_leadOf w M a1 a2).bind fun q143 =>
  some (q143.1, q143.2)
set_option maxHeartbeats 4000000 in
theorem Ab_X5_bestPlay {w : Nat} {G : z_Mem → Int32 → Int32 → Int32 → Int32 → Int32 → Int32 → Option (Int32 × z_Mem)} {k : Nat} (hk0 : 1 ≤ k) (hG : ∀ (M : z_Mem) (a1 : Int32) (a2 : Int32) (a3 : Int32) (a4 : Int32) (a5 : Int32) (a6 : Int32) (r : Int32) (M' : z_Mem) (Q : Option Value → z_Mem → Prop), G M a1 a2 a3 a4 a5 a6 = some (r, M') → Q (some (.int r)) M' → z_Cl k mX5_bestPlay [.ref 61, .int a1, .int a2, .int a3, .int a4, .int a5, .int a6] M Q) {M : z_Mem} {a1 : Int32} {a2 : Int32} {a3 : Int32} {a4 : Int32} {a5 : Int32} {a6 : Int32} {r : Int32} {M' : z_Mem} {Q : Option Value → z_Mem → Prop} (h : Fb_X5_bestPlay w G M a1 a2 a3 a4 a5 a6 = some (r, M')) (hq : Q (some (.int r)) M') : z_Cl (k + 1) mX5_bestPlay [.ref 61, .int a1, .int a2, .int a3, .int a4, .int a5, .int a6] M Q := by
  refine g_in (ls := [some (.ref 61), some (.int a1), some (.int a2), some (.int a3), some (.int a4), some (.int a5), some (.int a6), none, none, none, none, none, none]) rfl ?_
  unfold Fb_X5_bestPlay at h
  refine g_iload_n dX5_bestPlay_0 rfl rfl ?_
  refine g_if_gt (t := 11) dX5_bestPlay_1 (by decide) (fun c137 => ?_) (fun c137 => ?_)
  · replace h := z_ift c137 h
    refine g_aload_n dX5_bestPlay_11 rfl rfl ?_
    refine g_iload_n dX5_bestPlay_12 rfl rfl ?_
    refine g_iload_n dX5_bestPlay_13 rfl rfl ?_
    refine g_iload_n dX5_bestPlay_14 rfl rfl ?_
    refine g_iconst (v := (1 : Int32)) dX5_bestPlay_15 (by decide) ?_
    refine g_isub dX5_bestPlay_16 ?_
    refine g_iload dX5_bestPlay_17 rfl ?_
    refine g_if_ne (t := 26) dX5_bestPlay_19 (by decide) (fun c138 => ?_) (fun c138 => ?_)
    · replace h := z_iff c138 h
      refine g_iconst (v := (0 : Int32)) dX5_bestPlay_26 (by decide) ?_
      refine g_iload dX5_bestPlay_27 rfl ?_
      refine g_iload dX5_bestPlay_29 rfl ?_
      obtain ⟨q139, e140, h⟩ := z_bd h
      refine g_callS (as := [.ref 61, .int a1, .int a2, .int (a3 - (1 : Int32)), .int (0 : Int32), .int a5, .int a6]) (rest := []) (c := mX5_bestPlay) (k1 := k) dX5_bestPlay_31 rfl rfl rfl rfl rfl (Nat.le_of_ble_eq_true rfl) (Nat.le_of_ble_eq_true rfl) (by omega) ?_
      refine hG _ _ _ _ _ _ _ _ _ _ e140 ?_
      show z_G none (k + 1) mX5_bestPlay 34 [some (.ref 61), some (.int a1), some (.int a2), some (.int a3), some (.int a4), some (.int a5), some (.int a6), none, none, none, none, none, none] [.int q139.1] q139.2 Q
      refine g_istore (ls' := [some (.ref 61), some (.int a1), some (.int a2), some (.int a3), some (.int a4), some (.int a5), some (.int a6), some (.int q139.1), none, none, none, none, none]) dX5_bestPlay_34 (Nat.le_of_ble_eq_true rfl) rfl ?_
      refine g_iconst (v := (0 : Int32)) dX5_bestPlay_36 (by decide) ?_
      refine g_istore (ls' := [some (.ref 61), some (.int a1), some (.int a2), some (.int a3), some (.int a4), some (.int a5), some (.int a6), some (.int q139.1), some (.int (0 : Int32)), none, none, none, none]) dX5_bestPlay_37 (Nat.le_of_ble_eq_true rfl) rfl ?_
      exact g_sub (z_sub_s (z_sub_s (z_sub_s (z_sub_s (z_sub_s (z_sub_s (z_sub_s (z_sub_s (z_sub_s (z_sub_n (z_sub_n (z_sub_n (z_sub_n z_sub_nil))))))))))))) ((AL_X5_bestPlay (w := w) hk0 hG w) _ _ _ _ _ _ _ _ _ _ _ _ h hq)
    · replace h := z_ift c138 h
      refine g_iconst (v := (1 : Int32)) dX5_bestPlay_22 (by decide) ?_
      refine g_goto (t := 27) dX5_bestPlay_23 (by decide) ?_
      refine g_iload dX5_bestPlay_27 rfl ?_
      refine g_iload dX5_bestPlay_29 rfl ?_
      obtain ⟨q141, e142, h⟩ := z_bd h
      refine g_callS (as := [.ref 61, .int a1, .int a2, .int (a3 - (1 : Int32)), .int (1 : Int32), .int a5, .int a6]) (rest := []) (c := mX5_bestPlay) (k1 := k) dX5_bestPlay_31 rfl rfl rfl rfl rfl (Nat.le_of_ble_eq_true rfl) (Nat.le_of_ble_eq_true rfl) (by omega) ?_
      refine hG _ _ _ _ _ _ _ _ _ _ e142 ?_
      show z_G none (k + 1) mX5_bestPlay 34 [some (.ref 61), some (.int a1), some (.int a2), some (.int a3), some (.int a4), some (.int a5), some (.int a6), none, none, none, none, none, none] [.int q141.1] q141.2 Q
      refine g_istore (ls' := [some (.ref 61), some (.int a1), some (.int a2), some (.int a3), some (.int a4), some (.int a5), some (.int a6), some (.int q141.1), none, none, none, none, none]) dX5_bestPlay_34 (Nat.le_of_ble_eq_true rfl) rfl ?_
      refine g_iconst (v := (0 : Int32)) dX5_bestPlay_36 (by decide) ?_
      refine g_istore (ls' := [some (.ref 61), some (.int a1), some (.int a2), some (.int a3), some (.int a4), some (.int a5), some (.int a6), some (.int q141.1), some (.int (0 : Int32)), none, none, none, none]) dX5_bestPlay_37 (Nat.le_of_ble_eq_true rfl) rfl ?_
      exact g_sub (z_sub_s (z_sub_s (z_sub_s (z_sub_s (z_sub_s (z_sub_s (z_sub_s (z_sub_s (z_sub_s (z_sub_n (z_sub_n (z_sub_n (z_sub_n z_sub_nil))))))))))))) ((AL_X5_bestPlay (w := w) hk0 hG w) _ _ _ _ _ _ _ _ _ _ _ _ h hq)
  · replace h := z_iff c137 h
    refine g_aload_n dX5_bestPlay_4 rfl rfl ?_
    refine g_iload_n dX5_bestPlay_5 rfl rfl ?_
    refine g_iload_n dX5_bestPlay_6 rfl rfl ?_
    obtain ⟨q143, e144, h⟩ := z_bd h
    refine g_callV (a := 59) (as := [.int a1, .int a2]) (rest := []) (c := mX5_leadOf) (k1 := 1) dX5_bestPlay_7 rfl rfl rfl sh_59 rfl rfl (Nat.le_of_ble_eq_true rfl) (Nat.le_of_ble_eq_true rfl) (by omega) ?_
    refine A_X5_leadOf e144 ?_
    show z_G none (k + 1) mX5_bestPlay 10 [some (.ref 61), some (.int a1), some (.int a2), some (.int a3), some (.int a4), some (.int a5), some (.int a6), none, none, none, none, none, none] [.int q143.1] q143.2 Q
    cases h
    exact g_iret dX5_bestPlay_10 rfl rfl hq
def F_X5_bestPlay (w : Nat) : Nat → z_Mem → Int32 → Int32 → Int32 → Int32 → Int32 → Int32 → Option (Int32 × z_Mem)
  | 0, _, _, _, _, _, _, _ => none
  | n + 1, M, a1, a2, a3, a4, a5, a6 => Fb_X5_bestPlay w (F_X5_bestPlay w n) M a1 a2 a3 a4 a5 a6
theorem A_X5_bestPlay {w : Nat} : ∀ (n : Nat) (M : z_Mem) (a1 : Int32) (a2 : Int32) (a3 : Int32) (a4 : Int32) (a5 : Int32) (a6 : Int32) (r : Int32) (M' : z_Mem) (Q : Option Value → z_Mem → Prop), F_X5_bestPlay w n M a1 a2 a3 a4 a5 a6 = some (r, M') → Q (some (.int r)) M' → z_Cl (n + 1) mX5_bestPlay [.ref 61, .int a1, .int a2, .int a3, .int a4, .int a5, .int a6] M Q := by
  intro n
  induction n with
  | zero => intro M a1 a2 a3 a4 a5 a6 r M' Q h; rw [F_X5_bestPlay] at h; cases h
  | succ n ih =>
    intro M a1 a2 a3 a4 a5 a6 r M' Q h hq
    rw [F_X5_bestPlay] at h
    rw [show n + 1 + 1 = (n + 1) + 1 by omega]
    exact Ab_X5_bestPlay (G := F_X5_bestPlay w n) (k := n + 1) (by omega) ih h hq
theorem dX12_plays_0 : decode cX12_plays 0 = .ok (.iload_n 1, 1) := by decide +kernel
theorem dX12_plays_1 : decode cX12_plays 1 = .ok (.iload_n 2, 1) := by decide +kernel
theorem dX12_plays_2 : decode cX12_plays 2 = .ok (.if_icmp .ne 47, 3) := by decide +kernel
theorem dX12_plays_5 : decode cX12_plays 5 = .ok (.aload_n 0, 1) := by decide +kernel
theorem dX12_plays_6 : decode cX12_plays 6 = .ok (.getfield 35, 3) := by decide +kernel
theorem dX12_plays_9 : decode cX12_plays 9 = .ok (.bipush 8, 2) := by decide +kernel
theorem dX12_plays_11 : decode cX12_plays 11 = .ok (.iaload, 1) := by decide +kernel
theorem dX12_plays_12 : decode cX12_plays 12 = .ok (.ifCond .ne 14, 3) := by decide +kernel
theorem dX12_plays_15 : decode cX12_plays 15 = .ok (.sipush 4095, 3) := by decide +kernel
theorem dX12_plays_18 : decode cX12_plays 18 = .ok (.iload 4, 2) := by decide +kernel
theorem dX12_plays_20 : decode cX12_plays 20 = .ok (.iconst (-1), 1) := by decide +kernel
theorem dX12_plays_21 : decode cX12_plays 21 = .ok (.ixor, 1) := by decide +kernel
theorem dX12_plays_22 : decode cX12_plays 22 = .ok (.iand, 1) := by decide +kernel
theorem dX12_plays_23 : decode cX12_plays 23 = .ok (.goto 4, 3) := by decide +kernel
theorem dX12_plays_26 : decode cX12_plays 26 = .ok (.iload_n 3, 1) := by decide +kernel
theorem dX12_plays_27 : decode cX12_plays 27 = .ok (.istore 5, 2) := by decide +kernel
theorem dX12_plays_29 : decode cX12_plays 29 = .ok (.aload_n 0, 1) := by decide +kernel
theorem dX12_plays_30 : decode cX12_plays 30 = .ok (.getfield 44, 3) := by decide +kernel
theorem dX12_plays_33 : decode cX12_plays 33 = .ok (.iload 5, 2) := by decide +kernel
theorem dX12_plays_35 : decode cX12_plays 35 = .ok (.iaload, 1) := by decide +kernel
theorem dX12_plays_36 : decode cX12_plays 36 = .ok (.aload_n 0, 1) := by decide +kernel
theorem dX12_plays_37 : decode cX12_plays 37 = .ok (.getfield 44, 3) := by decide +kernel
theorem dX12_plays_40 : decode cX12_plays 40 = .ok (.sipush 4096, 3) := by decide +kernel
theorem dX12_plays_43 : decode cX12_plays 43 = .ok (.iload 5, 2) := by decide +kernel
theorem dX12_plays_45 : decode cX12_plays 45 = .ok (.iadd, 1) := by decide +kernel
theorem dX12_plays_46 : decode cX12_plays 46 = .ok (.iaload, 1) := by decide +kernel
theorem dX12_plays_47 : decode cX12_plays 47 = .ok (.isub, 1) := by decide +kernel
theorem dX12_plays_48 : decode cX12_plays 48 = .ok (.ireturn, 1) := by decide +kernel
theorem dX12_plays_49 : decode cX12_plays 49 = .ok (.iload_n 1, 1) := by decide +kernel
theorem dX12_plays_50 : decode cX12_plays 50 = .ok (.iconst 2, 1) := by decide +kernel
theorem dX12_plays_51 : decode cX12_plays 51 = .ok (.irem, 1) := by decide +kernel
theorem dX12_plays_52 : decode cX12_plays 52 = .ok (.ifCond .ne 7, 3) := by decide +kernel
theorem dX12_plays_55 : decode cX12_plays 55 = .ok (.iconst 1, 1) := by decide +kernel
theorem dX12_plays_56 : decode cX12_plays 56 = .ok (.goto 4, 3) := by decide +kernel
theorem dX12_plays_59 : decode cX12_plays 59 = .ok (.iconst 0, 1) := by decide +kernel
theorem dX12_plays_60 : decode cX12_plays 60 = .ok (.istore 5, 2) := by decide +kernel
theorem dX12_plays_62 : decode cX12_plays 62 = .ok (.iconst 0, 1) := by decide +kernel
theorem dX12_plays_63 : decode cX12_plays 63 = .ok (.istore 6, 2) := by decide +kernel
theorem dX12_plays_65 : decode cX12_plays 65 = .ok (.iconst (-1), 1) := by decide +kernel
theorem dX12_plays_66 : decode cX12_plays 66 = .ok (.istore 7, 2) := by decide +kernel
theorem dX12_plays_68 : decode cX12_plays 68 = .ok (.iconst 0, 1) := by decide +kernel
theorem dX12_plays_69 : decode cX12_plays 69 = .ok (.istore 8, 2) := by decide +kernel
theorem dX12_plays_71 : decode cX12_plays 71 = .ok (.iload 8, 2) := by decide +kernel
theorem dX12_plays_73 : decode cX12_plays 73 = .ok (.bipush 12, 2) := by decide +kernel
theorem dX12_plays_75 : decode cX12_plays 75 = .ok (.if_icmp .gt 124, 3) := by decide +kernel
theorem dX12_plays_78 : decode cX12_plays 78 = .ok (.iload 8, 2) := by decide +kernel
theorem dX12_plays_80 : decode cX12_plays 80 = .ok (.bipush 12, 2) := by decide +kernel
theorem dX12_plays_82 : decode cX12_plays 82 = .ok (.if_icmp .ge 18, 3) := by decide +kernel
theorem dX12_plays_85 : decode cX12_plays 85 = .ok (.iload_n 3, 1) := by decide +kernel
theorem dX12_plays_86 : decode cX12_plays 86 = .ok (.iload 4, 2) := by decide +kernel
theorem dX12_plays_88 : decode cX12_plays 88 = .ok (.ior, 1) := by decide +kernel
theorem dX12_plays_89 : decode cX12_plays 89 = .ok (.iload 8, 2) := by decide +kernel
theorem dX12_plays_91 : decode cX12_plays 91 = .ok (.invokestatic 96, 3) := by decide +kernel
theorem dX12_plays_94 : decode cX12_plays 94 = .ok (.ifCond .eq 6, 3) := by decide +kernel
theorem dX12_plays_97 : decode cX12_plays 97 = .ok (.goto 96, 3) := by decide +kernel
theorem dX12_plays_100 : decode cX12_plays 100 = .ok (.iload 8, 2) := by decide +kernel
theorem dX12_plays_102 : decode cX12_plays 102 = .ok (.bipush 12, 2) := by decide +kernel
theorem dX12_plays_104 : decode cX12_plays 104 = .ok (.if_icmp .ge 10, 3) := by decide +kernel
theorem dX12_plays_107 : decode cX12_plays 107 = .ok (.iconst 1, 1) := by decide +kernel
theorem dX12_plays_108 : decode cX12_plays 108 = .ok (.iload 8, 2) := by decide +kernel
theorem dX12_plays_110 : decode cX12_plays 110 = .ok (.ishl, 1) := by decide +kernel
theorem dX12_plays_111 : decode cX12_plays 111 = .ok (.goto 4, 3) := by decide +kernel
theorem dX12_plays_114 : decode cX12_plays 114 = .ok (.iconst 0, 1) := by decide +kernel
theorem dX12_plays_115 : decode cX12_plays 115 = .ok (.istore 9, 2) := by decide +kernel
theorem dX12_plays_117 : decode cX12_plays 117 = .ok (.iload 5, 2) := by decide +kernel
theorem dX12_plays_119 : decode cX12_plays 119 = .ok (.ifCond .eq 20, 3) := by decide +kernel
theorem dX12_plays_122 : decode cX12_plays 122 = .ok (.aload_n 0, 1) := by decide +kernel
theorem dX12_plays_123 : decode cX12_plays 123 = .ok (.iload_n 1, 1) := by decide +kernel
theorem dX12_plays_124 : decode cX12_plays 124 = .ok (.iconst 1, 1) := by decide +kernel
theorem dX12_plays_125 : decode cX12_plays 125 = .ok (.iadd, 1) := by decide +kernel
theorem dX12_plays_126 : decode cX12_plays 126 = .ok (.iload_n 2, 1) := by decide +kernel
theorem dX12_plays_127 : decode cX12_plays 127 = .ok (.iload_n 3, 1) := by decide +kernel
theorem dX12_plays_128 : decode cX12_plays 128 = .ok (.iload 9, 2) := by decide +kernel
theorem dX12_plays_130 : decode cX12_plays 130 = .ok (.ior, 1) := by decide +kernel
theorem dX12_plays_131 : decode cX12_plays 131 = .ok (.iload 4, 2) := by decide +kernel
theorem dX12_plays_133 : decode cX12_plays 133 = .ok (.invokevirtual 461, 3) := by decide +kernel
theorem dX12_plays_136 : decode cX12_plays 136 = .ok (.goto 17, 3) := by decide +kernel
theorem dX12_plays_139 : decode cX12_plays 139 = .ok (.aload_n 0, 1) := by decide +kernel
theorem dX12_plays_140 : decode cX12_plays 140 = .ok (.iload_n 1, 1) := by decide +kernel
theorem dX12_plays_141 : decode cX12_plays 141 = .ok (.iconst 1, 1) := by decide +kernel
theorem dX12_plays_142 : decode cX12_plays 142 = .ok (.iadd, 1) := by decide +kernel
theorem dX12_plays_143 : decode cX12_plays 143 = .ok (.iload_n 2, 1) := by decide +kernel
theorem dX12_plays_144 : decode cX12_plays 144 = .ok (.iload_n 3, 1) := by decide +kernel
theorem dX12_plays_145 : decode cX12_plays 145 = .ok (.iload 4, 2) := by decide +kernel
theorem dX12_plays_147 : decode cX12_plays 147 = .ok (.iload 9, 2) := by decide +kernel
theorem dX12_plays_149 : decode cX12_plays 149 = .ok (.ior, 1) := by decide +kernel
theorem dX12_plays_150 : decode cX12_plays 150 = .ok (.invokevirtual 461, 3) := by decide +kernel
theorem dX12_plays_153 : decode cX12_plays 153 = .ok (.istore 10, 2) := by decide +kernel
theorem dX12_plays_155 : decode cX12_plays 155 = .ok (.iload 7, 2) := by decide +kernel
theorem dX12_plays_157 : decode cX12_plays 157 = .ok (.ifCond .lt 28, 3) := by decide +kernel
theorem dX12_plays_160 : decode cX12_plays 160 = .ok (.iload 5, 2) := by decide +kernel
theorem dX12_plays_162 : decode cX12_plays 162 = .ok (.ifCond .eq 13, 3) := by decide +kernel
theorem dX12_plays_165 : decode cX12_plays 165 = .ok (.iload 10, 2) := by decide +kernel
theorem dX12_plays_167 : decode cX12_plays 167 = .ok (.iload 6, 2) := by decide +kernel
theorem dX12_plays_169 : decode cX12_plays 169 = .ok (.if_icmp .gt 16, 3) := by decide +kernel
theorem dX12_plays_172 : decode cX12_plays 172 = .ok (.goto 21, 3) := by decide +kernel
theorem dX12_plays_175 : decode cX12_plays 175 = .ok (.iload 10, 2) := by decide +kernel
theorem dX12_plays_177 : decode cX12_plays 177 = .ok (.iload 6, 2) := by decide +kernel
theorem dX12_plays_179 : decode cX12_plays 179 = .ok (.if_icmp .lt 6, 3) := by decide +kernel
theorem dX12_plays_182 : decode cX12_plays 182 = .ok (.goto 11, 3) := by decide +kernel
theorem dX12_plays_185 : decode cX12_plays 185 = .ok (.iload 10, 2) := by decide +kernel
theorem dX12_plays_187 : decode cX12_plays 187 = .ok (.istore 6, 2) := by decide +kernel
theorem dX12_plays_189 : decode cX12_plays 189 = .ok (.iload 8, 2) := by decide +kernel
theorem dX12_plays_191 : decode cX12_plays 191 = .ok (.istore 7, 2) := by decide +kernel
theorem dX12_plays_193 : decode cX12_plays 193 = .ok (.iinc 8 1, 3) := by decide +kernel
theorem dX12_plays_196 : decode cX12_plays 196 = .ok (.goto (-125), 3) := by decide +kernel
theorem dX12_plays_199 : decode cX12_plays 199 = .ok (.iload_n 1, 1) := by decide +kernel
theorem dX12_plays_200 : decode cX12_plays 200 = .ok (.ifCond .ne 9, 3) := by decide +kernel
theorem dX12_plays_203 : decode cX12_plays 203 = .ok (.aload_n 0, 1) := by decide +kernel
theorem dX12_plays_204 : decode cX12_plays 204 = .ok (.iload 7, 2) := by decide +kernel
theorem dX12_plays_206 : decode cX12_plays 206 = .ok (.putfield 465, 3) := by decide +kernel
theorem dX12_plays_209 : decode cX12_plays 209 = .ok (.iload 6, 2) := by decide +kernel
theorem dX12_plays_211 : decode cX12_plays 211 = .ok (.ireturn, 1) := by decide +kernel
def L_X12_plays (w : Nat) (G : z_Mem → Int32 → Int32 → Int32 → Int32 → Option (Int32 × z_Mem)) : Nat → z_Mem → Int32 → Int32 → Int32 → Int32 → Int32 → Int32 → Int32 → Int32 → Option (Int32 × z_Mem)
  | 0, _, _, _, _, _, _, _, _, _ => none
  | c + 1, M, x1, x2, x3, x4, x5, x6, x7, x8 =>
    if (12 : Int32) < x8 then
    if x1 = (0 : Int32) then
    some (x6, (z_wI M 137 28 x7))
    else
    some (x6, M)
    else
    if (12 : Int32) ≤ x8 then
    if (12 : Int32) ≤ x8 then
    if x5 = (0 : Int32) then
    (G M (x1 + (1 : Int32)) x2 x3 (x4 ||| (0 : Int32))).bind fun q6 =>
    if x7 < (0 : Int32) then
    L_X12_plays w G c q6.2 x1 x2 x3 x4 x5 q6.1 x8 (x8 + (1 : Int32))
    else
    if x5 = (0 : Int32) then
    if q6.1 < x6 then
    L_X12_plays w G c q6.2 x1 x2 x3 x4 x5 q6.1 x8 (x8 + (1 : Int32))
    else
    L_X12_plays w G c q6.2 x1 x2 x3 x4 x5 x6 x7 (x8 + (1 : Int32))
    else
    if x6 < q6.1 then
    L_X12_plays w G c q6.2 x1 x2 x3 x4 x5 q6.1 x8 (x8 + (1 : Int32))
    else
    L_X12_plays w G c q6.2 x1 x2 x3 x4 x5 x6 x7 (x8 + (1 : Int32))
    else
    (G M (x1 + (1 : Int32)) x2 (x3 ||| (0 : Int32)) x4).bind fun q12 =>
    if x7 < (0 : Int32) then
    L_X12_plays w G c q12.2 x1 x2 x3 x4 x5 q12.1 x8 (x8 + (1 : Int32))
    else
    if x5 = (0 : Int32) then
    if q12.1 < x6 then
    L_X12_plays w G c q12.2 x1 x2 x3 x4 x5 q12.1 x8 (x8 + (1 : Int32))
    else
    L_X12_plays w G c q12.2 x1 x2 x3 x4 x5 x6 x7 (x8 + (1 : Int32))
    else
    if x6 < q12.1 then
    L_X12_plays w G c q12.2 x1 x2 x3 x4 x5 q12.1 x8 (x8 + (1 : Int32))
    else
    L_X12_plays w G c q12.2 x1 x2 x3 x4 x5 x6 x7 (x8 + (1 : Int32))
    else
    if x5 = (0 : Int32) then
    (G M (x1 + (1 : Int32)) x2 x3 (x4 ||| ((1 : Int32) <<< (x8 &&& 31)))).bind fun q19 =>
    if x7 < (0 : Int32) then
    L_X12_plays w G c q19.2 x1 x2 x3 x4 x5 q19.1 x8 (x8 + (1 : Int32))
    else
    if x5 = (0 : Int32) then
    if q19.1 < x6 then
    L_X12_plays w G c q19.2 x1 x2 x3 x4 x5 q19.1 x8 (x8 + (1 : Int32))
    else
    L_X12_plays w G c q19.2 x1 x2 x3 x4 x5 x6 x7 (x8 + (1 : Int32))
    else
    if x6 < q19.1 then
    L_X12_plays w G c q19.2 x1 x2 x3 x4 x5 q19.1 x8 (x8 + (1 : Int32))
    else
    L_X12_plays w G c q19.2 x1 x2 x3 x4 x5 x6 x7 (x8 + (1 : Int32))
    else
    (G M (x1 + (1 : Int32)) x2 (x3 ||| ((1 : Int32) <<< (x8 &&& 31))) x4).bind fun q25 =>
    if x7 < (0 : Int32) then
    L_X12_plays w G c q25.2 x1 x2 x3 x4 x5 q25.1 x8 (x8 + (1 : Int32))
    else
    if x5 = (0 : Int32) then
    if q25.1 < x6 then
    L_X12_plays w G c q25.2 x1 x2 x3 x4 x5 q25.1 x8 (x8 + (1 : Int32))
    else
    L_X12_plays w G c q25.2 x1 x2 x3 x4 x5 x6 x7 (x8 + (1 : Int32))
    else
    if x6 < q25.1 then
    L_X12_plays w G c q25.2 x1 x2 x3 x4 x5 q25.1 x8 (x8 + (1 : Int32))
    else
    L_X12_plays w G c q25.2 x1 x2 x3 x4 x5 x6 x7 (x8 + (1 : Int32))
    else
    (F_X12_has w M (x3 ||| x4) x8).bind fun q31 =>
    if q31.1 = true then
    L_X12_plays w G c q31.2 x1 x2 x3 x4 x5 x6 x7 (x8 + (1 : Int32))
    else
    if (12 : Int32) ≤ x8 then
    if x5 = (0 : Int32) then
    (G q31.2 (x1 + (1 : Int32)) x2 x3 (x4 ||| (0 : Int32))).bind fun q36 =>
    if x7 < (0 : Int32) then
    L_X12_plays w G c q36.2 x1 x2 x3 x4 x5 q36.1 x8 (x8 + (1 : Int32))
    else
    if x5 = (0 : Int32) then
    if q36.1 < x6 then
    L_X12_plays w G c q36.2 x1 x2 x3 x4 x5 q36.1 x8 (x8 + (1 : Int32))
    else
    L_X12_plays w G c q36.2 x1 x2 x3 x4 x5 x6 x7 (x8 + (1 : Int32))
    else
    if x6 < q36.1 then
    L_X12_plays w G c q36.2 x1 x2 x3 x4 x5 q36.1 x8 (x8 + (1 : Int32))
    else
    L_X12_plays w G c q36.2 x1 x2 x3 x4 x5 x6 x7 (x8 + (1 : Int32))
    else
    (G q31.2 (x1 + (1 : Int32)) x2 (x3 ||| (0 : Int32)) x4).bind fun q42 =>
    if x7 < (0 : Int32) then
    L_X12_plays w G c q42.2 x1 x2 x3 x4 x5 q42.1 x8 (x8 + (1 : Int32))
    else
    if x5 = (0 : Int32) then
    if q42.1 < x6 then
    L_X12_plays w G c q42.2 x1 x2 x3 x4 x5 q42.1 x8 (x8 + (1 : Int32))
    else
    L_X12_plays w G c q42.2 x1 x2 x3 x4 x5 x6 x7 (x8 + (1 : Int32))
    else
    if x6 < q42.1 then
    L_X12_plays w G c q42.2 x1 x2 x3 x4 x5 q42.1 x8 (x8 + (1 : Int32))
    else
    L_X12_plays w G c q42.2 x1 x2 x3 x4 x5 x6 x7 (x8 + (1 : Int32))
    else
    if x5 = (0 : Int32) then
    (G q31.2 (x1 + (1 : Int32)) x2 x3 (x4 ||| ((1 : Int32) <<< (x8 &&& 31)))).bind fun q49 =>
    if x7 < (0 : Int32) then
    L_X12_plays w G c q49.2 x1 x2 x3 x4 x5 q49.1 x8 (x8 + (1 : Int32))
    else
    if x5 = (0 : Int32) then
    if q49.1 < x6 then
    L_X12_plays w G c q49.2 x1 x2 x3 x4 x5 q49.1 x8 (x8 + (1 : Int32))
    else
    L_X12_plays w G c q49.2 x1 x2 x3 x4 x5 x6 x7 (x8 + (1 : Int32))
    else
    if x6 < q49.1 then
    L_X12_plays w G c q49.2 x1 x2 x3 x4 x5 q49.1 x8 (x8 + (1 : Int32))
    else
    L_X12_plays w G c q49.2 x1 x2 x3 x4 x5 x6 x7 (x8 + (1 : Int32))
    else
    (G q31.2 (x1 + (1 : Int32)) x2 (x3 ||| ((1 : Int32) <<< (x8 &&& 31))) x4).bind fun q55 =>
    if x7 < (0 : Int32) then
    L_X12_plays w G c q55.2 x1 x2 x3 x4 x5 q55.1 x8 (x8 + (1 : Int32))
    else
    if x5 = (0 : Int32) then
    if q55.1 < x6 then
    L_X12_plays w G c q55.2 x1 x2 x3 x4 x5 q55.1 x8 (x8 + (1 : Int32))
    else
    L_X12_plays w G c q55.2 x1 x2 x3 x4 x5 x6 x7 (x8 + (1 : Int32))
    else
    if x6 < q55.1 then
    L_X12_plays w G c q55.2 x1 x2 x3 x4 x5 q55.1 x8 (x8 + (1 : Int32))
    else
    L_X12_plays w G c q55.2 x1 x2 x3 x4 x5 x6 x7 (x8 + (1 : Int32))
set_option maxHeartbeats 4000000 in
theorem AL_X12_plays {w : Nat} {G : z_Mem → Int32 → Int32 → Int32 → Int32 → Option (Int32 × z_Mem)} {k : Nat} (hk0 : 0 ≤ k) (hG : ∀ (M : z_Mem) (a1 : Int32) (a2 : Int32) (a3 : Int32) (a4 : Int32) (r : Int32) (M' : z_Mem) (Q : Option Value → z_Mem → Prop), G M a1 a2 a3 a4 = some (r, M') → Q (some (.int r)) M' → z_Cl k mX12_plays [.ref 139, .int a1, .int a2, .int a3, .int a4] M Q) : ∀ (c : Nat), (∀ (M : z_Mem) (x1 : Int32) (x2 : Int32) (x3 : Int32) (x4 : Int32) (x5 : Int32) (x6 : Int32) (x7 : Int32) (x8 : Int32) (r : Int32) (M' : z_Mem) (Q : Option Value → z_Mem → Prop), L_X12_plays w G c M x1 x2 x3 x4 x5 x6 x7 x8 = some (r, M') → Q (some (.int r)) M' → z_G none (k + 1) mX12_plays 71 [some (.ref 139), some (.int x1), some (.int x2), some (.int x3), some (.int x4), some (.int x5), some (.int x6), some (.int x7), some (.int x8), none, none] [] M Q) := by
  intro c
  induction c with
  | zero => exact (fun M x1 x2 x3 x4 x5 x6 x7 x8 r M' Q h hq => by rw [L_X12_plays] at h; cases h)
  | succ c ih =>
    intro M x1 x2 x3 x4 x5 x6 x7 x8 r M' Q h hq
    rw [L_X12_plays] at h
    refine g_iload dX12_plays_71 rfl ?_
    refine g_bipush (v := (12 : Int32)) dX12_plays_73 (by decide) ?_
    refine g_ic_gt (t := 199) dX12_plays_75 (by decide) (fun c1 => ?_) (fun c1 => ?_)
    · replace h := z_ift c1 h
      refine g_iload_n dX12_plays_199 rfl rfl ?_
      refine g_if_ne (t := 209) dX12_plays_200 (by decide) (fun c2 => ?_) (fun c2 => ?_)
      · replace h := z_iff c2 h
        refine g_iload dX12_plays_209 rfl ?_
        cases h
        exact g_iret dX12_plays_211 rfl rfl hq
      · replace h := z_ift c2 h
        refine g_aload_n dX12_plays_203 rfl rfl ?_
        refine g_iload dX12_plays_204 rfl ?_
        refine g_putI (a := 137) dX12_plays_206 f_12_465 sh_137 rfl rfl rfl ?_
        refine g_iload dX12_plays_209 rfl ?_
        cases h
        exact g_iret dX12_plays_211 rfl rfl hq
    · replace h := z_iff c1 h
      refine g_iload dX12_plays_78 rfl ?_
      refine g_bipush (v := (12 : Int32)) dX12_plays_80 (by decide) ?_
      refine g_ic_ge (t := 100) dX12_plays_82 (by decide) (fun c3 => ?_) (fun c3 => ?_)
      · replace h := z_ift c3 h
        refine g_iload dX12_plays_100 rfl ?_
        refine g_bipush (v := (12 : Int32)) dX12_plays_102 (by decide) ?_
        refine g_ic_ge (t := 114) dX12_plays_104 (by decide) (fun c4 => ?_) (fun c4 => ?_)
        · replace h := z_ift c4 h
          refine g_iconst (v := (0 : Int32)) dX12_plays_114 (by decide) ?_
          refine g_istore (ls' := [some (.ref 139), some (.int x1), some (.int x2), some (.int x3), some (.int x4), some (.int x5), some (.int x6), some (.int x7), some (.int x8), some (.int (0 : Int32)), none]) dX12_plays_115 (Nat.le_of_ble_eq_true rfl) rfl ?_
          refine g_iload dX12_plays_117 rfl ?_
          refine g_if_eq (t := 139) dX12_plays_119 (by decide) (fun c5 => ?_) (fun c5 => ?_)
          · replace h := z_ift c5 h
            refine g_aload_n dX12_plays_139 rfl rfl ?_
            refine g_iload_n dX12_plays_140 rfl rfl ?_
            refine g_iconst (v := (1 : Int32)) dX12_plays_141 (by decide) ?_
            refine g_iadd dX12_plays_142 ?_
            refine g_iload_n dX12_plays_143 rfl rfl ?_
            refine g_iload_n dX12_plays_144 rfl rfl ?_
            refine g_iload dX12_plays_145 rfl ?_
            refine g_iload dX12_plays_147 rfl ?_
            refine g_ior dX12_plays_149 ?_
            obtain ⟨q6, e7, h⟩ := z_bd h
            refine g_callV (a := 137) (as := [.int (x1 + (1 : Int32)), .int x2, .int x3, .int (x4 ||| (0 : Int32))]) (rest := []) (c := mX12_plays) (k1 := k) dX12_plays_150 rfl rfl rfl sh_137 rfl rfl (Nat.le_of_ble_eq_true rfl) (Nat.le_of_ble_eq_true rfl) (by omega) ?_
            refine hG _ _ _ _ _ _ _ _ e7 ?_
            show z_G none (k + 1) mX12_plays 153 [some (.ref 139), some (.int x1), some (.int x2), some (.int x3), some (.int x4), some (.int x5), some (.int x6), some (.int x7), some (.int x8), some (.int (0 : Int32)), none] [.int q6.1] q6.2 Q
            refine g_istore (ls' := [some (.ref 139), some (.int x1), some (.int x2), some (.int x3), some (.int x4), some (.int x5), some (.int x6), some (.int x7), some (.int x8), some (.int (0 : Int32)), some (.int q6.1)]) dX12_plays_153 (Nat.le_of_ble_eq_true rfl) rfl ?_
            refine g_iload dX12_plays_155 rfl ?_
            refine g_if_lt (t := 185) dX12_plays_157 (by decide) (fun c8 => ?_) (fun c8 => ?_)
            · replace h := z_ift c8 h
              refine g_iload dX12_plays_185 rfl ?_
              refine g_istore (ls' := [some (.ref 139), some (.int x1), some (.int x2), some (.int x3), some (.int x4), some (.int x5), some (.int q6.1), some (.int x7), some (.int x8), some (.int (0 : Int32)), some (.int q6.1)]) dX12_plays_187 (Nat.le_of_ble_eq_true rfl) rfl ?_
              refine g_iload dX12_plays_189 rfl ?_
              refine g_istore (ls' := [some (.ref 139), some (.int x1), some (.int x2), some (.int x3), some (.int x4), some (.int x5), some (.int q6.1), some (.int x8), some (.int x8), some (.int (0 : Int32)), some (.int q6.1)]) dX12_plays_191 (Nat.le_of_ble_eq_true rfl) rfl ?_
              refine g_iinc (v := x8 + (1 : Int32)) (ls' := [some (.ref 139), some (.int x1), some (.int x2), some (.int x3), some (.int x4), some (.int x5), some (.int q6.1), some (.int x8), some (.int (x8 + (1 : Int32))), some (.int (0 : Int32)), some (.int q6.1)]) dX12_plays_193 rfl rfl rfl ?_
              refine g_goto (t := 71) dX12_plays_196 (by decide) ?_
              exact g_sub (z_sub_s (z_sub_s (z_sub_s (z_sub_s (z_sub_s (z_sub_s (z_sub_s (z_sub_s (z_sub_s (z_sub_n (z_sub_n z_sub_nil))))))))))) (ih _ _ _ _ _ _ _ _ _ _ _ _ h hq)
            · replace h := z_iff c8 h
              refine g_iload dX12_plays_160 rfl ?_
              refine g_if_eq (t := 175) dX12_plays_162 (by decide) (fun c9 => ?_) (fun c9 => ?_)
              · replace h := z_ift c9 h
                refine g_iload dX12_plays_175 rfl ?_
                refine g_iload dX12_plays_177 rfl ?_
                refine g_ic_lt (t := 185) dX12_plays_179 (by decide) (fun c10 => ?_) (fun c10 => ?_)
                · replace h := z_ift c10 h
                  refine g_iload dX12_plays_185 rfl ?_
                  refine g_istore (ls' := [some (.ref 139), some (.int x1), some (.int x2), some (.int x3), some (.int x4), some (.int x5), some (.int q6.1), some (.int x7), some (.int x8), some (.int (0 : Int32)), some (.int q6.1)]) dX12_plays_187 (Nat.le_of_ble_eq_true rfl) rfl ?_
                  refine g_iload dX12_plays_189 rfl ?_
                  refine g_istore (ls' := [some (.ref 139), some (.int x1), some (.int x2), some (.int x3), some (.int x4), some (.int x5), some (.int q6.1), some (.int x8), some (.int x8), some (.int (0 : Int32)), some (.int q6.1)]) dX12_plays_191 (Nat.le_of_ble_eq_true rfl) rfl ?_
                  refine g_iinc (v := x8 + (1 : Int32)) (ls' := [some (.ref 139), some (.int x1), some (.int x2), some (.int x3), some (.int x4), some (.int x5), some (.int q6.1), some (.int x8), some (.int (x8 + (1 : Int32))), some (.int (0 : Int32)), some (.int q6.1)]) dX12_plays_193 rfl rfl rfl ?_
                  refine g_goto (t := 71) dX12_plays_196 (by decide) ?_
                  exact g_sub (z_sub_s (z_sub_s (z_sub_s (z_sub_s (z_sub_s (z_sub_s (z_sub_s (z_sub_s (z_sub_s (z_sub_n (z_sub_n z_sub_nil))))))))))) (ih _ _ _ _ _ _ _ _ _ _ _ _ h hq)
                · replace h := z_iff c10 h
                  refine g_goto (t := 193) dX12_plays_182 (by decide) ?_
                  refine g_iinc (v := x8 + (1 : Int32)) (ls' := [some (.ref 139), some (.int x1), some (.int x2), some (.int x3), some (.int x4), some (.int x5), some (.int x6), some (.int x7), some (.int (x8 + (1 : Int32))), some (.int (0 : Int32)), some (.int q6.1)]) dX12_plays_193 rfl rfl rfl ?_
                  refine g_goto (t := 71) dX12_plays_196 (by decide) ?_
                  exact g_sub (z_sub_s (z_sub_s (z_sub_s (z_sub_s (z_sub_s (z_sub_s (z_sub_s (z_sub_s (z_sub_s (z_sub_n (z_sub_n z_sub_nil))))))))))) (ih _ _ _ _ _ _ _ _ _ _ _ _ h hq)
              · replace h := z_iff c9 h
                refine g_iload dX12_plays_165 rfl ?_
                refine g_iload dX12_plays_167 rfl ?_
                refine g_ic_gt (t := 185) dX12_plays_169 (by decide) (fun c11 => ?_) (fun c11 => ?_)
                · replace h := z_ift c11 h
                  refine g_iload dX12_plays_185 rfl ?_
                  refine g_istore (ls' := [some (.ref 139), some (.int x1), some (.int x2), some (.int x3), some (.int x4), some (.int x5), some (.int q6.1), some (.int x7), some (.int x8), some (.int (0 : Int32)), some (.int q6.1)]) dX12_plays_187 (Nat.le_of_ble_eq_true rfl) rfl ?_
                  refine g_iload dX12_plays_189 rfl ?_
                  refine g_istore (ls' := [some (.ref 139), some (.int x1), some (.int x2), some (.int x3), some (.int x4), some (.int x5), some (.int q6.1), some (.int x8), some (.int x8), some (.int (0 : Int32)), some (.int q6.1)]) dX12_plays_191 (Nat.le_of_ble_eq_true rfl) rfl ?_
                  refine g_iinc (v := x8 + (1 : Int32)) (ls' := [some (.ref 139), some (.int x1), some (.int x2), some (.int x3), some (.int x4), some (.int x5), some (.int q6.1), some (.int x8), some (.int (x8 + (1 : Int32))), some (.int (0 : Int32)), some (.int q6.1)]) dX12_plays_193 rfl rfl rfl ?_
                  refine g_goto (t := 71) dX12_plays_196 (by decide) ?_
                  exact g_sub (z_sub_s (z_sub_s (z_sub_s (z_sub_s (z_sub_s (z_sub_s (z_sub_s (z_sub_s (z_sub_s (z_sub_n (z_sub_n z_sub_nil))))))))))) (ih _ _ _ _ _ _ _ _ _ _ _ _ h hq)
                · replace h := z_iff c11 h
                  refine g_goto (t := 193) dX12_plays_172 (by decide) ?_
                  refine g_iinc (v := x8 + (1 : Int32)) (ls' := [some (.ref 139), some (.int x1), some (.int x2), some (.int x3), some (.int x4), some (.int x5), some (.int x6), some (.int x7), some (.int (x8 + (1 : Int32))), some (.int (0 : Int32)), some (.int q6.1)]) dX12_plays_193 rfl rfl rfl ?_
                  refine g_goto (t := 71) dX12_plays_196 (by decide) ?_
                  exact g_sub (z_sub_s (z_sub_s (z_sub_s (z_sub_s (z_sub_s (z_sub_s (z_sub_s (z_sub_s (z_sub_s (z_sub_n (z_sub_n z_sub_nil))))))))))) (ih _ _ _ _ _ _ _ _ _ _ _ _ h hq)
          · replace h := z_iff c5 h
            refine g_aload_n dX12_plays_122 rfl rfl ?_
            refine g_iload_n dX12_plays_123 rfl rfl ?_
            refine g_iconst (v := (1 : Int32)) dX12_plays_124 (by decide) ?_
            refine g_iadd dX12_plays_125 ?_
            refine g_iload_n dX12_plays_126 rfl rfl ?_
            refine g_iload_n dX12_plays_127 rfl rfl ?_
            refine g_iload dX12_plays_128 rfl ?_
            refine g_ior dX12_plays_130 ?_
            refine g_iload dX12_plays_131 rfl ?_
            obtain ⟨q12, e13, h⟩ := z_bd h
            refine g_callV (a := 137) (as := [.int (x1 + (1 : Int32)), .int x2, .int (x3 ||| (0 : Int32)), .int x4]) (rest := []) (c := mX12_plays) (k1 := k) dX12_plays_133 rfl rfl rfl sh_137 rfl rfl (Nat.le_of_ble_eq_true rfl) (Nat.le_of_ble_eq_true rfl) (by omega) ?_
            refine hG _ _ _ _ _ _ _ _ e13 ?_
            show z_G none (k + 1) mX12_plays 136 [some (.ref 139), some (.int x1), some (.int x2), some (.int x3), some (.int x4), some (.int x5), some (.int x6), some (.int x7), some (.int x8), some (.int (0 : Int32)), none] [.int q12.1] q12.2 Q
            refine g_goto (t := 153) dX12_plays_136 (by decide) ?_
            refine g_istore (ls' := [some (.ref 139), some (.int x1), some (.int x2), some (.int x3), some (.int x4), some (.int x5), some (.int x6), some (.int x7), some (.int x8), some (.int (0 : Int32)), some (.int q12.1)]) dX12_plays_153 (Nat.le_of_ble_eq_true rfl) rfl ?_
            refine g_iload dX12_plays_155 rfl ?_
            refine g_if_lt (t := 185) dX12_plays_157 (by decide) (fun c14 => ?_) (fun c14 => ?_)
            · replace h := z_ift c14 h
              refine g_iload dX12_plays_185 rfl ?_
              refine g_istore (ls' := [some (.ref 139), some (.int x1), some (.int x2), some (.int x3), some (.int x4), some (.int x5), some (.int q12.1), some (.int x7), some (.int x8), some (.int (0 : Int32)), some (.int q12.1)]) dX12_plays_187 (Nat.le_of_ble_eq_true rfl) rfl ?_
              refine g_iload dX12_plays_189 rfl ?_
              refine g_istore (ls' := [some (.ref 139), some (.int x1), some (.int x2), some (.int x3), some (.int x4), some (.int x5), some (.int q12.1), some (.int x8), some (.int x8), some (.int (0 : Int32)), some (.int q12.1)]) dX12_plays_191 (Nat.le_of_ble_eq_true rfl) rfl ?_
              refine g_iinc (v := x8 + (1 : Int32)) (ls' := [some (.ref 139), some (.int x1), some (.int x2), some (.int x3), some (.int x4), some (.int x5), some (.int q12.1), some (.int x8), some (.int (x8 + (1 : Int32))), some (.int (0 : Int32)), some (.int q12.1)]) dX12_plays_193 rfl rfl rfl ?_
              refine g_goto (t := 71) dX12_plays_196 (by decide) ?_
              exact g_sub (z_sub_s (z_sub_s (z_sub_s (z_sub_s (z_sub_s (z_sub_s (z_sub_s (z_sub_s (z_sub_s (z_sub_n (z_sub_n z_sub_nil))))))))))) (ih _ _ _ _ _ _ _ _ _ _ _ _ h hq)
            · replace h := z_iff c14 h
              refine g_iload dX12_plays_160 rfl ?_
              refine g_if_eq (t := 175) dX12_plays_162 (by decide) (fun c15 => ?_) (fun c15 => ?_)
              · replace h := z_ift c15 h
                refine g_iload dX12_plays_175 rfl ?_
                refine g_iload dX12_plays_177 rfl ?_
                refine g_ic_lt (t := 185) dX12_plays_179 (by decide) (fun c16 => ?_) (fun c16 => ?_)
                · replace h := z_ift c16 h
                  refine g_iload dX12_plays_185 rfl ?_
                  refine g_istore (ls' := [some (.ref 139), some (.int x1), some (.int x2), some (.int x3), some (.int x4), some (.int x5), some (.int q12.1), some (.int x7), some (.int x8), some (.int (0 : Int32)), some (.int q12.1)]) dX12_plays_187 (Nat.le_of_ble_eq_true rfl) rfl ?_
                  refine g_iload dX12_plays_189 rfl ?_
                  refine g_istore (ls' := [some (.ref 139), some (.int x1), some (.int x2), some (.int x3), some (.int x4), some (.int x5), some (.int q12.1), some (.int x8), some (.int x8), some (.int (0 : Int32)), some (.int q12.1)]) dX12_plays_191 (Nat.le_of_ble_eq_true rfl) rfl ?_
                  refine g_iinc (v := x8 + (1 : Int32)) (ls' := [some (.ref 139), some (.int x1), some (.int x2), some (.int x3), some (.int x4), some (.int x5), some (.int q12.1), some (.int x8), some (.int (x8 + (1 : Int32))), some (.int (0 : Int32)), some (.int q12.1)]) dX12_plays_193 rfl rfl rfl ?_
                  refine g_goto (t := 71) dX12_plays_196 (by decide) ?_
                  exact g_sub (z_sub_s (z_sub_s (z_sub_s (z_sub_s (z_sub_s (z_sub_s (z_sub_s (z_sub_s (z_sub_s (z_sub_n (z_sub_n z_sub_nil))))))))))) (ih _ _ _ _ _ _ _ _ _ _ _ _ h hq)
                · replace h := z_iff c16 h
                  refine g_goto (t := 193) dX12_plays_182 (by decide) ?_
                  refine g_iinc (v := x8 + (1 : Int32)) (ls' := [some (.ref 139), some (.int x1), some (.int x2), some (.int x3), some (.int x4), some (.int x5), some (.int x6), some (.int x7), some (.int (x8 + (1 : Int32))), some (.int (0 : Int32)), some (.int q12.1)]) dX12_plays_193 rfl rfl rfl ?_
                  refine g_goto (t := 71) dX12_plays_196 (by decide) ?_
                  exact g_sub (z_sub_s (z_sub_s (z_sub_s (z_sub_s (z_sub_s (z_sub_s (z_sub_s (z_sub_s (z_sub_s (z_sub_n (z_sub_n z_sub_nil))))))))))) (ih _ _ _ _ _ _ _ _ _ _ _ _ h hq)
              · replace h := z_iff c15 h
                refine g_iload dX12_plays_165 rfl ?_
                refine g_iload dX12_plays_167 rfl ?_
                refine g_ic_gt (t := 185) dX12_plays_169 (by decide) (fun c17 => ?_) (fun c17 => ?_)
                · replace h := z_ift c17 h
                  refine g_iload dX12_plays_185 rfl ?_
                  refine g_istore (ls' := [some (.ref 139), some (.int x1), some (.int x2), some (.int x3), some (.int x4), some (.int x5), some (.int q12.1), some (.int x7), some (.int x8), some (.int (0 : Int32)), some (.int q12.1)]) dX12_plays_187 (Nat.le_of_ble_eq_true rfl) rfl ?_
                  refine g_iload dX12_plays_189 rfl ?_
                  refine g_istore (ls' := [some (.ref 139), some (.int x1), some (.int x2), some (.int x3), some (.int x4), some (.int x5), some (.int q12.1), some (.int x8), some (.int x8), some (.int (0 : Int32)), some (.int q12.1)]) dX12_plays_191 (Nat.le_of_ble_eq_true rfl) rfl ?_
                  refine g_iinc (v := x8 + (1 : Int32)) (ls' := [some (.ref 139), some (.int x1), some (.int x2), some (.int x3), some (.int x4), some (.int x5), some (.int q12.1), some (.int x8), some (.int (x8 + (1 : Int32))), some (.int (0 : Int32)), some (.int q12.1)]) dX12_plays_193 rfl rfl rfl ?_
                  refine g_goto (t := 71) dX12_plays_196 (by decide) ?_
                  exact g_sub (z_sub_s (z_sub_s (z_sub_s (z_sub_s (z_sub_s (z_sub_s (z_sub_s (z_sub_s (z_sub_s (z_sub_n (z_sub_n z_sub_nil))))))))))) (ih _ _ _ _ _ _ _ _ _ _ _ _ h hq)
                · replace h := z_iff c17 h
                  refine g_goto (t := 193) dX12_plays_172 (by decide) ?_
                  refine g_iinc (v := x8 + (1 : Int32)) (ls' := [some (.ref 139), some (.int x1), some (.int x2), some (.int x3), some (.int x4), some (.int x5), some (.int x6), some (.int x7), some (.int (x8 + (1 : Int32))), some (.int (0 : Int32)), some (.int q12.1)]) dX12_plays_193 rfl rfl rfl ?_
                  refine g_goto (t := 71) dX12_plays_196 (by decide) ?_
                  exact g_sub (z_sub_s (z_sub_s (z_sub_s (z_sub_s (z_sub_s (z_sub_s (z_sub_s (z_sub_s (z_sub_s (z_sub_n (z_sub_n z_sub_nil))))))))))) (ih _ _ _ _ _ _ _ _ _ _ _ _ h hq)
        · replace h := z_iff c4 h
          refine g_iconst (v := (1 : Int32)) dX12_plays_107 (by decide) ?_
          refine g_iload dX12_plays_108 rfl ?_
          refine g_ishl dX12_plays_110 ?_
          refine g_goto (t := 115) dX12_plays_111 (by decide) ?_
          refine g_istore (ls' := [some (.ref 139), some (.int x1), some (.int x2), some (.int x3), some (.int x4), some (.int x5), some (.int x6), some (.int x7), some (.int x8), some (.int ((1 : Int32) <<< (x8 &&& 31))), none]) dX12_plays_115 (Nat.le_of_ble_eq_true rfl) rfl ?_
          refine g_iload dX12_plays_117 rfl ?_
          refine g_if_eq (t := 139) dX12_plays_119 (by decide) (fun c18 => ?_) (fun c18 => ?_)
          · replace h := z_ift c18 h
            refine g_aload_n dX12_plays_139 rfl rfl ?_
            refine g_iload_n dX12_plays_140 rfl rfl ?_
            refine g_iconst (v := (1 : Int32)) dX12_plays_141 (by decide) ?_
            refine g_iadd dX12_plays_142 ?_
            refine g_iload_n dX12_plays_143 rfl rfl ?_
            refine g_iload_n dX12_plays_144 rfl rfl ?_
            refine g_iload dX12_plays_145 rfl ?_
            refine g_iload dX12_plays_147 rfl ?_
            refine g_ior dX12_plays_149 ?_
            obtain ⟨q19, e20, h⟩ := z_bd h
            refine g_callV (a := 137) (as := [.int (x1 + (1 : Int32)), .int x2, .int x3, .int (x4 ||| ((1 : Int32) <<< (x8 &&& 31)))]) (rest := []) (c := mX12_plays) (k1 := k) dX12_plays_150 rfl rfl rfl sh_137 rfl rfl (Nat.le_of_ble_eq_true rfl) (Nat.le_of_ble_eq_true rfl) (by omega) ?_
            refine hG _ _ _ _ _ _ _ _ e20 ?_
            show z_G none (k + 1) mX12_plays 153 [some (.ref 139), some (.int x1), some (.int x2), some (.int x3), some (.int x4), some (.int x5), some (.int x6), some (.int x7), some (.int x8), some (.int ((1 : Int32) <<< (x8 &&& 31))), none] [.int q19.1] q19.2 Q
            refine g_istore (ls' := [some (.ref 139), some (.int x1), some (.int x2), some (.int x3), some (.int x4), some (.int x5), some (.int x6), some (.int x7), some (.int x8), some (.int ((1 : Int32) <<< (x8 &&& 31))), some (.int q19.1)]) dX12_plays_153 (Nat.le_of_ble_eq_true rfl) rfl ?_
            refine g_iload dX12_plays_155 rfl ?_
            refine g_if_lt (t := 185) dX12_plays_157 (by decide) (fun c21 => ?_) (fun c21 => ?_)
            · replace h := z_ift c21 h
              refine g_iload dX12_plays_185 rfl ?_
              refine g_istore (ls' := [some (.ref 139), some (.int x1), some (.int x2), some (.int x3), some (.int x4), some (.int x5), some (.int q19.1), some (.int x7), some (.int x8), some (.int ((1 : Int32) <<< (x8 &&& 31))), some (.int q19.1)]) dX12_plays_187 (Nat.le_of_ble_eq_true rfl) rfl ?_
              refine g_iload dX12_plays_189 rfl ?_
              refine g_istore (ls' := [some (.ref 139), some (.int x1), some (.int x2), some (.int x3), some (.int x4), some (.int x5), some (.int q19.1), some (.int x8), some (.int x8), some (.int ((1 : Int32) <<< (x8 &&& 31))), some (.int q19.1)]) dX12_plays_191 (Nat.le_of_ble_eq_true rfl) rfl ?_
              refine g_iinc (v := x8 + (1 : Int32)) (ls' := [some (.ref 139), some (.int x1), some (.int x2), some (.int x3), some (.int x4), some (.int x5), some (.int q19.1), some (.int x8), some (.int (x8 + (1 : Int32))), some (.int ((1 : Int32) <<< (x8 &&& 31))), some (.int q19.1)]) dX12_plays_193 rfl rfl rfl ?_
              refine g_goto (t := 71) dX12_plays_196 (by decide) ?_
              exact g_sub (z_sub_s (z_sub_s (z_sub_s (z_sub_s (z_sub_s (z_sub_s (z_sub_s (z_sub_s (z_sub_s (z_sub_n (z_sub_n z_sub_nil))))))))))) (ih _ _ _ _ _ _ _ _ _ _ _ _ h hq)
            · replace h := z_iff c21 h
              refine g_iload dX12_plays_160 rfl ?_
              refine g_if_eq (t := 175) dX12_plays_162 (by decide) (fun c22 => ?_) (fun c22 => ?_)
              · replace h := z_ift c22 h
                refine g_iload dX12_plays_175 rfl ?_
                refine g_iload dX12_plays_177 rfl ?_
                refine g_ic_lt (t := 185) dX12_plays_179 (by decide) (fun c23 => ?_) (fun c23 => ?_)
                · replace h := z_ift c23 h
                  refine g_iload dX12_plays_185 rfl ?_
                  refine g_istore (ls' := [some (.ref 139), some (.int x1), some (.int x2), some (.int x3), some (.int x4), some (.int x5), some (.int q19.1), some (.int x7), some (.int x8), some (.int ((1 : Int32) <<< (x8 &&& 31))), some (.int q19.1)]) dX12_plays_187 (Nat.le_of_ble_eq_true rfl) rfl ?_
                  refine g_iload dX12_plays_189 rfl ?_
                  refine g_istore (ls' := [some (.ref 139), some (.int x1), some (.int x2), some (.int x3), some (.int x4), some (.int x5), some (.int q19.1), some (.int x8), some (.int x8), some (.int ((1 : Int32) <<< (x8 &&& 31))), some (.int q19.1)]) dX12_plays_191 (Nat.le_of_ble_eq_true rfl) rfl ?_
                  refine g_iinc (v := x8 + (1 : Int32)) (ls' := [some (.ref 139), some (.int x1), some (.int x2), some (.int x3), some (.int x4), some (.int x5), some (.int q19.1), some (.int x8), some (.int (x8 + (1 : Int32))), some (.int ((1 : Int32) <<< (x8 &&& 31))), some (.int q19.1)]) dX12_plays_193 rfl rfl rfl ?_
                  refine g_goto (t := 71) dX12_plays_196 (by decide) ?_
                  exact g_sub (z_sub_s (z_sub_s (z_sub_s (z_sub_s (z_sub_s (z_sub_s (z_sub_s (z_sub_s (z_sub_s (z_sub_n (z_sub_n z_sub_nil))))))))))) (ih _ _ _ _ _ _ _ _ _ _ _ _ h hq)
                · replace h := z_iff c23 h
                  refine g_goto (t := 193) dX12_plays_182 (by decide) ?_
                  refine g_iinc (v := x8 + (1 : Int32)) (ls' := [some (.ref 139), some (.int x1), some (.int x2), some (.int x3), some (.int x4), some (.int x5), some (.int x6), some (.int x7), some (.int (x8 + (1 : Int32))), some (.int ((1 : Int32) <<< (x8 &&& 31))), some (.int q19.1)]) dX12_plays_193 rfl rfl rfl ?_
                  refine g_goto (t := 71) dX12_plays_196 (by decide) ?_
                  exact g_sub (z_sub_s (z_sub_s (z_sub_s (z_sub_s (z_sub_s (z_sub_s (z_sub_s (z_sub_s (z_sub_s (z_sub_n (z_sub_n z_sub_nil))))))))))) (ih _ _ _ _ _ _ _ _ _ _ _ _ h hq)
              · replace h := z_iff c22 h
                refine g_iload dX12_plays_165 rfl ?_
                refine g_iload dX12_plays_167 rfl ?_
                refine g_ic_gt (t := 185) dX12_plays_169 (by decide) (fun c24 => ?_) (fun c24 => ?_)
                · replace h := z_ift c24 h
                  refine g_iload dX12_plays_185 rfl ?_
                  refine g_istore (ls' := [some (.ref 139), some (.int x1), some (.int x2), some (.int x3), some (.int x4), some (.int x5), some (.int q19.1), some (.int x7), some (.int x8), some (.int ((1 : Int32) <<< (x8 &&& 31))), some (.int q19.1)]) dX12_plays_187 (Nat.le_of_ble_eq_true rfl) rfl ?_
                  refine g_iload dX12_plays_189 rfl ?_
                  refine g_istore (ls' := [some (.ref 139), some (.int x1), some (.int x2), some (.int x3), some (.int x4), some (.int x5), some (.int q19.1), some (.int x8), some (.int x8), some (.int ((1 : Int32) <<< (x8 &&& 31))), some (.int q19.1)]) dX12_plays_191 (Nat.le_of_ble_eq_true rfl) rfl ?_
                  refine g_iinc (v := x8 + (1 : Int32)) (ls' := [some (.ref 139), some (.int x1), some (.int x2), some (.int x3), some (.int x4), some (.int x5), some (.int q19.1), some (.int x8), some (.int (x8 + (1 : Int32))), some (.int ((1 : Int32) <<< (x8 &&& 31))), some (.int q19.1)]) dX12_plays_193 rfl rfl rfl ?_
                  refine g_goto (t := 71) dX12_plays_196 (by decide) ?_
                  exact g_sub (z_sub_s (z_sub_s (z_sub_s (z_sub_s (z_sub_s (z_sub_s (z_sub_s (z_sub_s (z_sub_s (z_sub_n (z_sub_n z_sub_nil))))))))))) (ih _ _ _ _ _ _ _ _ _ _ _ _ h hq)
                · replace h := z_iff c24 h
                  refine g_goto (t := 193) dX12_plays_172 (by decide) ?_
                  refine g_iinc (v := x8 + (1 : Int32)) (ls' := [some (.ref 139), some (.int x1), some (.int x2), some (.int x3), some (.int x4), some (.int x5), some (.int x6), some (.int x7), some (.int (x8 + (1 : Int32))), some (.int ((1 : Int32) <<< (x8 &&& 31))), some (.int q19.1)]) dX12_plays_193 rfl rfl rfl ?_
                  refine g_goto (t := 71) dX12_plays_196 (by decide) ?_
                  exact g_sub (z_sub_s (z_sub_s (z_sub_s (z_sub_s (z_sub_s (z_sub_s (z_sub_s (z_sub_s (z_sub_s (z_sub_n (z_sub_n z_sub_nil))))))))))) (ih _ _ _ _ _ _ _ _ _ _ _ _ h hq)
          · replace h := z_iff c18 h
            refine g_aload_n dX12_plays_122 rfl rfl ?_
            refine g_iload_n dX12_plays_123 rfl rfl ?_
            refine g_iconst (v := (1 : Int32)) dX12_plays_124 (by decide) ?_
            refine g_iadd dX12_plays_125 ?_
            refine g_iload_n dX12_plays_126 rfl rfl ?_
            refine g_iload_n dX12_plays_127 rfl rfl ?_
            refine g_iload dX12_plays_128 rfl ?_
            refine g_ior dX12_plays_130 ?_
            refine g_iload dX12_plays_131 rfl ?_
            obtain ⟨q25, e26, h⟩ := z_bd h
            refine g_callV (a := 137) (as := [.int (x1 + (1 : Int32)), .int x2, .int (x3 ||| ((1 : Int32) <<< (x8 &&& 31))), .int x4]) (rest := []) (c := mX12_plays) (k1 := k) dX12_plays_133 rfl rfl rfl sh_137 rfl rfl (Nat.le_of_ble_eq_true rfl) (Nat.le_of_ble_eq_true rfl) (by omega) ?_
            refine hG _ _ _ _ _ _ _ _ e26 ?_
            show z_G none (k + 1) mX12_plays 136 [some (.ref 139), some (.int x1), some (.int x2), some (.int x3), some (.int x4), some (.int x5), some (.int x6), some (.int x7), some (.int x8), some (.int ((1 : Int32) <<< (x8 &&& 31))), none] [.int q25.1] q25.2 Q
            refine g_goto (t := 153) dX12_plays_136 (by decide) ?_
            refine g_istore (ls' := [some (.ref 139), some (.int x1), some (.int x2), some (.int x3), some (.int x4), some (.int x5), some (.int x6), some (.int x7), some (.int x8), some (.int ((1 : Int32) <<< (x8 &&& 31))), some (.int q25.1)]) dX12_plays_153 (Nat.le_of_ble_eq_true rfl) rfl ?_
            refine g_iload dX12_plays_155 rfl ?_
            refine g_if_lt (t := 185) dX12_plays_157 (by decide) (fun c27 => ?_) (fun c27 => ?_)
            · replace h := z_ift c27 h
              refine g_iload dX12_plays_185 rfl ?_
              refine g_istore (ls' := [some (.ref 139), some (.int x1), some (.int x2), some (.int x3), some (.int x4), some (.int x5), some (.int q25.1), some (.int x7), some (.int x8), some (.int ((1 : Int32) <<< (x8 &&& 31))), some (.int q25.1)]) dX12_plays_187 (Nat.le_of_ble_eq_true rfl) rfl ?_
              refine g_iload dX12_plays_189 rfl ?_
              refine g_istore (ls' := [some (.ref 139), some (.int x1), some (.int x2), some (.int x3), some (.int x4), some (.int x5), some (.int q25.1), some (.int x8), some (.int x8), some (.int ((1 : Int32) <<< (x8 &&& 31))), some (.int q25.1)]) dX12_plays_191 (Nat.le_of_ble_eq_true rfl) rfl ?_
              refine g_iinc (v := x8 + (1 : Int32)) (ls' := [some (.ref 139), some (.int x1), some (.int x2), some (.int x3), some (.int x4), some (.int x5), some (.int q25.1), some (.int x8), some (.int (x8 + (1 : Int32))), some (.int ((1 : Int32) <<< (x8 &&& 31))), some (.int q25.1)]) dX12_plays_193 rfl rfl rfl ?_
              refine g_goto (t := 71) dX12_plays_196 (by decide) ?_
              exact g_sub (z_sub_s (z_sub_s (z_sub_s (z_sub_s (z_sub_s (z_sub_s (z_sub_s (z_sub_s (z_sub_s (z_sub_n (z_sub_n z_sub_nil))))))))))) (ih _ _ _ _ _ _ _ _ _ _ _ _ h hq)
            · replace h := z_iff c27 h
              refine g_iload dX12_plays_160 rfl ?_
              refine g_if_eq (t := 175) dX12_plays_162 (by decide) (fun c28 => ?_) (fun c28 => ?_)
              · replace h := z_ift c28 h
                refine g_iload dX12_plays_175 rfl ?_
                refine g_iload dX12_plays_177 rfl ?_
                refine g_ic_lt (t := 185) dX12_plays_179 (by decide) (fun c29 => ?_) (fun c29 => ?_)
                · replace h := z_ift c29 h
                  refine g_iload dX12_plays_185 rfl ?_
                  refine g_istore (ls' := [some (.ref 139), some (.int x1), some (.int x2), some (.int x3), some (.int x4), some (.int x5), some (.int q25.1), some (.int x7), some (.int x8), some (.int ((1 : Int32) <<< (x8 &&& 31))), some (.int q25.1)]) dX12_plays_187 (Nat.le_of_ble_eq_true rfl) rfl ?_
                  refine g_iload dX12_plays_189 rfl ?_
                  refine g_istore (ls' := [some (.ref 139), some (.int x1), some (.int x2), some (.int x3), some (.int x4), some (.int x5), some (.int q25.1), some (.int x8), some (.int x8), some (.int ((1 : Int32) <<< (x8 &&& 31))), some (.int q25.1)]) dX12_plays_191 (Nat.le_of_ble_eq_true rfl) rfl ?_
                  refine g_iinc (v := x8 + (1 : Int32)) (ls' := [some (.ref 139), some (.int x1), some (.int x2), some (.int x3), some (.int x4), some (.int x5), some (.int q25.1), some (.int x8), some (.int (x8 + (1 : Int32))), some (.int ((1 : Int32) <<< (x8 &&& 31))), some (.int q25.1)]) dX12_plays_193 rfl rfl rfl ?_
                  refine g_goto (t := 71) dX12_plays_196 (by decide) ?_
                  exact g_sub (z_sub_s (z_sub_s (z_sub_s (z_sub_s (z_sub_s (z_sub_s (z_sub_s (z_sub_s (z_sub_s (z_sub_n (z_sub_n z_sub_nil))))))))))) (ih _ _ _ _ _ _ _ _ _ _ _ _ h hq)
                · replace h := z_iff c29 h
                  refine g_goto (t := 193) dX12_plays_182 (by decide) ?_
                  refine g_iinc (v := x8 + (1 : Int32)) (ls' := [some (.ref 139), some (.int x1), some (.int x2), some (.int x3), some (.int x4), some (.int x5), some (.int x6), some (.int x7), some (.int (x8 + (1 : Int32))), some (.int ((1 : Int32) <<< (x8 &&& 31))), some (.int q25.1)]) dX12_plays_193 rfl rfl rfl ?_
                  refine g_goto (t := 71) dX12_plays_196 (by decide) ?_
                  exact g_sub (z_sub_s (z_sub_s (z_sub_s (z_sub_s (z_sub_s (z_sub_s (z_sub_s (z_sub_s (z_sub_s (z_sub_n (z_sub_n z_sub_nil))))))))))) (ih _ _ _ _ _ _ _ _ _ _ _ _ h hq)
              · replace h := z_iff c28 h
                refine g_iload dX12_plays_165 rfl ?_
                refine g_iload dX12_plays_167 rfl ?_
                refine g_ic_gt (t := 185) dX12_plays_169 (by decide) (fun c30 => ?_) (fun c30 => ?_)
                · replace h := z_ift c30 h
                  refine g_iload dX12_plays_185 rfl ?_
                  refine g_istore (ls' := [some (.ref 139), some (.int x1), some (.int x2), some (.int x3), some (.int x4), some (.int x5), some (.int q25.1), some (.int x7), some (.int x8), some (.int ((1 : Int32) <<< (x8 &&& 31))), some (.int q25.1)]) dX12_plays_187 (Nat.le_of_ble_eq_true rfl) rfl ?_
                  refine g_iload dX12_plays_189 rfl ?_
                  refine g_istore (ls' := [some (.ref 139), some (.int x1), some (.int x2), some (.int x3), some (.int x4), some (.int x5), some (.int q25.1), some (.int x8), some (.int x8), some (.int ((1 : Int32) <<< (x8 &&& 31))), some (.int q25.1)]) dX12_plays_191 (Nat.le_of_ble_eq_true rfl) rfl ?_
                  refine g_iinc (v := x8 + (1 : Int32)) (ls' := [some (.ref 139), some (.int x1), some (.int x2), some (.int x3), some (.int x4), some (.int x5), some (.int q25.1), some (.int x8), some (.int (x8 + (1 : Int32))), some (.int ((1 : Int32) <<< (x8 &&& 31))), some (.int q25.1)]) dX12_plays_193 rfl rfl rfl ?_
                  refine g_goto (t := 71) dX12_plays_196 (by decide) ?_
                  exact g_sub (z_sub_s (z_sub_s (z_sub_s (z_sub_s (z_sub_s (z_sub_s (z_sub_s (z_sub_s (z_sub_s (z_sub_n (z_sub_n z_sub_nil))))))))))) (ih _ _ _ _ _ _ _ _ _ _ _ _ h hq)
                · replace h := z_iff c30 h
                  refine g_goto (t := 193) dX12_plays_172 (by decide) ?_
                  refine g_iinc (v := x8 + (1 : Int32)) (ls' := [some (.ref 139), some (.int x1), some (.int x2), some (.int x3), some (.int x4), some (.int x5), some (.int x6), some (.int x7), some (.int (x8 + (1 : Int32))), some (.int ((1 : Int32) <<< (x8 &&& 31))), some (.int q25.1)]) dX12_plays_193 rfl rfl rfl ?_
                  refine g_goto (t := 71) dX12_plays_196 (by decide) ?_
                  exact g_sub (z_sub_s (z_sub_s (z_sub_s (z_sub_s (z_sub_s (z_sub_s (z_sub_s (z_sub_s (z_sub_s (z_sub_n (z_sub_n z_sub_nil))))))))))) (ih _ _ _ _ _ _ _ _ _ _ _ _ h hq)
      · replace h := z_iff c3 h
        refine g_iload_n dX12_plays_85 rfl rfl ?_
        refine g_iload dX12_plays_86 rfl ?_
        refine g_ior dX12_plays_88 ?_
        refine g_iload dX12_plays_89 rfl ?_
        obtain ⟨q31, e32, h⟩ := z_bd h
        refine g_callS (as := [.int (x3 ||| x4), .int x8]) (rest := []) (c := mX12_has) (k1 := 0) dX12_plays_91 rfl rfl rfl rfl rfl (Nat.le_of_ble_eq_true rfl) (Nat.le_of_ble_eq_true rfl) (by omega) ?_
        refine A_X12_has e32 ?_
        show z_G none (k + 1) mX12_plays 94 [some (.ref 139), some (.int x1), some (.int x2), some (.int x3), some (.int x4), some (.int x5), some (.int x6), some (.int x7), some (.int x8), none, none] [.int (z_tb q31.1)] q31.2 Q
        refine g_if_eq (t := 100) dX12_plays_94 (by decide) (fun c33 => ?_) (fun c33 => ?_)
        · replace h := z_iff (z_tb0.mp c33) h
          refine g_iload dX12_plays_100 rfl ?_
          refine g_bipush (v := (12 : Int32)) dX12_plays_102 (by decide) ?_
          refine g_ic_ge (t := 114) dX12_plays_104 (by decide) (fun c34 => ?_) (fun c34 => ?_)
          · replace h := z_ift c34 h
            refine g_iconst (v := (0 : Int32)) dX12_plays_114 (by decide) ?_
            refine g_istore (ls' := [some (.ref 139), some (.int x1), some (.int x2), some (.int x3), some (.int x4), some (.int x5), some (.int x6), some (.int x7), some (.int x8), some (.int (0 : Int32)), none]) dX12_plays_115 (Nat.le_of_ble_eq_true rfl) rfl ?_
            refine g_iload dX12_plays_117 rfl ?_
            refine g_if_eq (t := 139) dX12_plays_119 (by decide) (fun c35 => ?_) (fun c35 => ?_)
            · replace h := z_ift c35 h
              refine g_aload_n dX12_plays_139 rfl rfl ?_
              refine g_iload_n dX12_plays_140 rfl rfl ?_
              refine g_iconst (v := (1 : Int32)) dX12_plays_141 (by decide) ?_
              refine g_iadd dX12_plays_142 ?_
              refine g_iload_n dX12_plays_143 rfl rfl ?_
              refine g_iload_n dX12_plays_144 rfl rfl ?_
              refine g_iload dX12_plays_145 rfl ?_
              refine g_iload dX12_plays_147 rfl ?_
              refine g_ior dX12_plays_149 ?_
              obtain ⟨q36, e37, h⟩ := z_bd h
              refine g_callV (a := 137) (as := [.int (x1 + (1 : Int32)), .int x2, .int x3, .int (x4 ||| (0 : Int32))]) (rest := []) (c := mX12_plays) (k1 := k) dX12_plays_150 rfl rfl rfl sh_137 rfl rfl (Nat.le_of_ble_eq_true rfl) (Nat.le_of_ble_eq_true rfl) (by omega) ?_
              refine hG _ _ _ _ _ _ _ _ e37 ?_
              show z_G none (k + 1) mX12_plays 153 [some (.ref 139), some (.int x1), some (.int x2), some (.int x3), some (.int x4), some (.int x5), some (.int x6), some (.int x7), some (.int x8), some (.int (0 : Int32)), none] [.int q36.1] q36.2 Q
              refine g_istore (ls' := [some (.ref 139), some (.int x1), some (.int x2), some (.int x3), some (.int x4), some (.int x5), some (.int x6), some (.int x7), some (.int x8), some (.int (0 : Int32)), some (.int q36.1)]) dX12_plays_153 (Nat.le_of_ble_eq_true rfl) rfl ?_
              refine g_iload dX12_plays_155 rfl ?_
              refine g_if_lt (t := 185) dX12_plays_157 (by decide) (fun c38 => ?_) (fun c38 => ?_)
              · replace h := z_ift c38 h
                refine g_iload dX12_plays_185 rfl ?_
                refine g_istore (ls' := [some (.ref 139), some (.int x1), some (.int x2), some (.int x3), some (.int x4), some (.int x5), some (.int q36.1), some (.int x7), some (.int x8), some (.int (0 : Int32)), some (.int q36.1)]) dX12_plays_187 (Nat.le_of_ble_eq_true rfl) rfl ?_
                refine g_iload dX12_plays_189 rfl ?_
                refine g_istore (ls' := [some (.ref 139), some (.int x1), some (.int x2), some (.int x3), some (.int x4), some (.int x5), some (.int q36.1), some (.int x8), some (.int x8), some (.int (0 : Int32)), some (.int q36.1)]) dX12_plays_191 (Nat.le_of_ble_eq_true rfl) rfl ?_
                refine g_iinc (v := x8 + (1 : Int32)) (ls' := [some (.ref 139), some (.int x1), some (.int x2), some (.int x3), some (.int x4), some (.int x5), some (.int q36.1), some (.int x8), some (.int (x8 + (1 : Int32))), some (.int (0 : Int32)), some (.int q36.1)]) dX12_plays_193 rfl rfl rfl ?_
                refine g_goto (t := 71) dX12_plays_196 (by decide) ?_
                exact g_sub (z_sub_s (z_sub_s (z_sub_s (z_sub_s (z_sub_s (z_sub_s (z_sub_s (z_sub_s (z_sub_s (z_sub_n (z_sub_n z_sub_nil))))))))))) (ih _ _ _ _ _ _ _ _ _ _ _ _ h hq)
              · replace h := z_iff c38 h
                refine g_iload dX12_plays_160 rfl ?_
                refine g_if_eq (t := 175) dX12_plays_162 (by decide) (fun c39 => ?_) (fun c39 => ?_)
                · replace h := z_ift c39 h
                  refine g_iload dX12_plays_175 rfl ?_
                  refine g_iload dX12_plays_177 rfl ?_
                  refine g_ic_lt (t := 185) dX12_plays_179 (by decide) (fun c40 => ?_) (fun c40 => ?_)
                  · replace h := z_ift c40 h
                    refine g_iload dX12_plays_185 rfl ?_
                    refine g_istore (ls' := [some (.ref 139), some (.int x1), some (.int x2), some (.int x3), some (.int x4), some (.int x5), some (.int q36.1), some (.int x7), some (.int x8), some (.int (0 : Int32)), some (.int q36.1)]) dX12_plays_187 (Nat.le_of_ble_eq_true rfl) rfl ?_
                    refine g_iload dX12_plays_189 rfl ?_
                    refine g_istore (ls' := [some (.ref 139), some (.int x1), some (.int x2), some (.int x3), some (.int x4), some (.int x5), some (.int q36.1), some (.int x8), some (.int x8), some (.int (0 : Int32)), some (.int q36.1)]) dX12_plays_191 (Nat.le_of_ble_eq_true rfl) rfl ?_
                    refine g_iinc (v := x8 + (1 : Int32)) (ls' := [some (.ref 139), some (.int x1), some (.int x2), some (.int x3), some (.int x4), some (.int x5), some (.int q36.1), some (.int x8), some (.int (x8 + (1 : Int32))), some (.int (0 : Int32)), some (.int q36.1)]) dX12_plays_193 rfl rfl rfl ?_
                    refine g_goto (t := 71) dX12_plays_196 (by decide) ?_
                    exact g_sub (z_sub_s (z_sub_s (z_sub_s (z_sub_s (z_sub_s (z_sub_s (z_sub_s (z_sub_s (z_sub_s (z_sub_n (z_sub_n z_sub_nil))))))))))) (ih _ _ _ _ _ _ _ _ _ _ _ _ h hq)
                  · replace h := z_iff c40 h
                    refine g_goto (t := 193) dX12_plays_182 (by decide) ?_
                    refine g_iinc (v := x8 + (1 : Int32)) (ls' := [some (.ref 139), some (.int x1), some (.int x2), some (.int x3), some (.int x4), some (.int x5), some (.int x6), some (.int x7), some (.int (x8 + (1 : Int32))), some (.int (0 : Int32)), some (.int q36.1)]) dX12_plays_193 rfl rfl rfl ?_
                    refine g_goto (t := 71) dX12_plays_196 (by decide) ?_
                    exact g_sub (z_sub_s (z_sub_s (z_sub_s (z_sub_s (z_sub_s (z_sub_s (z_sub_s (z_sub_s (z_sub_s (z_sub_n (z_sub_n z_sub_nil))))))))))) (ih _ _ _ _ _ _ _ _ _ _ _ _ h hq)
                · replace h := z_iff c39 h
                  refine g_iload dX12_plays_165 rfl ?_
                  refine g_iload dX12_plays_167 rfl ?_
                  refine g_ic_gt (t := 185) dX12_plays_169 (by decide) (fun c41 => ?_) (fun c41 => ?_)
                  · replace h := z_ift c41 h
                    refine g_iload dX12_plays_185 rfl ?_
                    refine g_istore (ls' := [some (.ref 139), some (.int x1), some (.int x2), some (.int x3), some (.int x4), some (.int x5), some (.int q36.1), some (.int x7), some (.int x8), some (.int (0 : Int32)), some (.int q36.1)]) dX12_plays_187 (Nat.le_of_ble_eq_true rfl) rfl ?_
                    refine g_iload dX12_plays_189 rfl ?_
                    refine g_istore (ls' := [some (.ref 139), some (.int x1), some (.int x2), some (.int x3), some (.int x4), some (.int x5), some (.int q36.1), some (.int x8), some (.int x8), some (.int (0 : Int32)), some (.int q36.1)]) dX12_plays_191 (Nat.le_of_ble_eq_true rfl) rfl ?_
                    refine g_iinc (v := x8 + (1 : Int32)) (ls' := [some (.ref 139), some (.int x1), some (.int x2), some (.int x3), some (.int x4), some (.int x5), some (.int q36.1), some (.int x8), some (.int (x8 + (1 : Int32))), some (.int (0 : Int32)), some (.int q36.1)]) dX12_plays_193 rfl rfl rfl ?_
                    refine g_goto (t := 71) dX12_plays_196 (by decide) ?_
                    exact g_sub (z_sub_s (z_sub_s (z_sub_s (z_sub_s (z_sub_s (z_sub_s (z_sub_s (z_sub_s (z_sub_s (z_sub_n (z_sub_n z_sub_nil))))))))))) (ih _ _ _ _ _ _ _ _ _ _ _ _ h hq)
                  · replace h := z_iff c41 h
                    refine g_goto (t := 193) dX12_plays_172 (by decide) ?_
                    refine g_iinc (v := x8 + (1 : Int32)) (ls' := [some (.ref 139), some (.int x1), some (.int x2), some (.int x3), some (.int x4), some (.int x5), some (.int x6), some (.int x7), some (.int (x8 + (1 : Int32))), some (.int (0 : Int32)), some (.int q36.1)]) dX12_plays_193 rfl rfl rfl ?_
                    refine g_goto (t := 71) dX12_plays_196 (by decide) ?_
                    exact g_sub (z_sub_s (z_sub_s (z_sub_s (z_sub_s (z_sub_s (z_sub_s (z_sub_s (z_sub_s (z_sub_s (z_sub_n (z_sub_n z_sub_nil))))))))))) (ih _ _ _ _ _ _ _ _ _ _ _ _ h hq)
            · replace h := z_iff c35 h
              refine g_aload_n dX12_plays_122 rfl rfl ?_
              refine g_iload_n dX12_plays_123 rfl rfl ?_
              refine g_iconst (v := (1 : Int32)) dX12_plays_124 (by decide) ?_
              refine g_iadd dX12_plays_125 ?_
              refine g_iload_n dX12_plays_126 rfl rfl ?_
              refine g_iload_n dX12_plays_127 rfl rfl ?_
              refine g_iload dX12_plays_128 rfl ?_
              refine g_ior dX12_plays_130 ?_
              refine g_iload dX12_plays_131 rfl ?_
              obtain ⟨q42, e43, h⟩ := z_bd h
              refine g_callV (a := 137) (as := [.int (x1 + (1 : Int32)), .int x2, .int (x3 ||| (0 : Int32)), .int x4]) (rest := []) (c := mX12_plays) (k1 := k) dX12_plays_133 rfl rfl rfl sh_137 rfl rfl (Nat.le_of_ble_eq_true rfl) (Nat.le_of_ble_eq_true rfl) (by omega) ?_
              refine hG _ _ _ _ _ _ _ _ e43 ?_
              show z_G none (k + 1) mX12_plays 136 [some (.ref 139), some (.int x1), some (.int x2), some (.int x3), some (.int x4), some (.int x5), some (.int x6), some (.int x7), some (.int x8), some (.int (0 : Int32)), none] [.int q42.1] q42.2 Q
              refine g_goto (t := 153) dX12_plays_136 (by decide) ?_
              refine g_istore (ls' := [some (.ref 139), some (.int x1), some (.int x2), some (.int x3), some (.int x4), some (.int x5), some (.int x6), some (.int x7), some (.int x8), some (.int (0 : Int32)), some (.int q42.1)]) dX12_plays_153 (Nat.le_of_ble_eq_true rfl) rfl ?_
              refine g_iload dX12_plays_155 rfl ?_
              refine g_if_lt (t := 185) dX12_plays_157 (by decide) (fun c44 => ?_) (fun c44 => ?_)
              · replace h := z_ift c44 h
                refine g_iload dX12_plays_185 rfl ?_
                refine g_istore (ls' := [some (.ref 139), some (.int x1), some (.int x2), some (.int x3), some (.int x4), some (.int x5), some (.int q42.1), some (.int x7), some (.int x8), some (.int (0 : Int32)), some (.int q42.1)]) dX12_plays_187 (Nat.le_of_ble_eq_true rfl) rfl ?_
                refine g_iload dX12_plays_189 rfl ?_
                refine g_istore (ls' := [some (.ref 139), some (.int x1), some (.int x2), some (.int x3), some (.int x4), some (.int x5), some (.int q42.1), some (.int x8), some (.int x8), some (.int (0 : Int32)), some (.int q42.1)]) dX12_plays_191 (Nat.le_of_ble_eq_true rfl) rfl ?_
                refine g_iinc (v := x8 + (1 : Int32)) (ls' := [some (.ref 139), some (.int x1), some (.int x2), some (.int x3), some (.int x4), some (.int x5), some (.int q42.1), some (.int x8), some (.int (x8 + (1 : Int32))), some (.int (0 : Int32)), some (.int q42.1)]) dX12_plays_193 rfl rfl rfl ?_
                refine g_goto (t := 71) dX12_plays_196 (by decide) ?_
                exact g_sub (z_sub_s (z_sub_s (z_sub_s (z_sub_s (z_sub_s (z_sub_s (z_sub_s (z_sub_s (z_sub_s (z_sub_n (z_sub_n z_sub_nil))))))))))) (ih _ _ _ _ _ _ _ _ _ _ _ _ h hq)
              · replace h := z_iff c44 h
                refine g_iload dX12_plays_160 rfl ?_
                refine g_if_eq (t := 175) dX12_plays_162 (by decide) (fun c45 => ?_) (fun c45 => ?_)
                · replace h := z_ift c45 h
                  refine g_iload dX12_plays_175 rfl ?_
                  refine g_iload dX12_plays_177 rfl ?_
                  refine g_ic_lt (t := 185) dX12_plays_179 (by decide) (fun c46 => ?_) (fun c46 => ?_)
                  · replace h := z_ift c46 h
                    refine g_iload dX12_plays_185 rfl ?_
                    refine g_istore (ls' := [some (.ref 139), some (.int x1), some (.int x2), some (.int x3), some (.int x4), some (.int x5), some (.int q42.1), some (.int x7), some (.int x8), some (.int (0 : Int32)), some (.int q42.1)]) dX12_plays_187 (Nat.le_of_ble_eq_true rfl) rfl ?_
                    refine g_iload dX12_plays_189 rfl ?_
                    refine g_istore (ls' := [some (.ref 139), some (.int x1), some (.int x2), some (.int x3), some (.int x4), some (.int x5), some (.int q42.1), some (.int x8), some (.int x8), some (.int (0 : Int32)), some (.int q42.1)]) dX12_plays_191 (Nat.le_of_ble_eq_true rfl) rfl ?_
                    refine g_iinc (v := x8 + (1 : Int32)) (ls' := [some (.ref 139), some (.int x1), some (.int x2), some (.int x3), some (.int x4), some (.int x5), some (.int q42.1), some (.int x8), some (.int (x8 + (1 : Int32))), some (.int (0 : Int32)), some (.int q42.1)]) dX12_plays_193 rfl rfl rfl ?_
                    refine g_goto (t := 71) dX12_plays_196 (by decide) ?_
                    exact g_sub (z_sub_s (z_sub_s (z_sub_s (z_sub_s (z_sub_s (z_sub_s (z_sub_s (z_sub_s (z_sub_s (z_sub_n (z_sub_n z_sub_nil))))))))))) (ih _ _ _ _ _ _ _ _ _ _ _ _ h hq)
                  · replace h := z_iff c46 h
                    refine g_goto (t := 193) dX12_plays_182 (by decide) ?_
                    refine g_iinc (v := x8 + (1 : Int32)) (ls' := [some (.ref 139), some (.int x1), some (.int x2), some (.int x3), some (.int x4), some (.int x5), some (.int x6), some (.int x7), some (.int (x8 + (1 : Int32))), some (.int (0 : Int32)), some (.int q42.1)]) dX12_plays_193 rfl rfl rfl ?_
                    refine g_goto (t := 71) dX12_plays_196 (by decide) ?_
                    exact g_sub (z_sub_s (z_sub_s (z_sub_s (z_sub_s (z_sub_s (z_sub_s (z_sub_s (z_sub_s (z_sub_s (z_sub_n (z_sub_n z_sub_nil))))))))))) (ih _ _ _ _ _ _ _ _ _ _ _ _ h hq)
                · replace h := z_iff c45 h
                  refine g_iload dX12_plays_165 rfl ?_
                  refine g_iload dX12_plays_167 rfl ?_
                  refine g_ic_gt (t := 185) dX12_plays_169 (by decide) (fun c47 => ?_) (fun c47 => ?_)
                  · replace h := z_ift c47 h
                    refine g_iload dX12_plays_185 rfl ?_
                    refine g_istore (ls' := [some (.ref 139), some (.int x1), some (.int x2), some (.int x3), some (.int x4), some (.int x5), some (.int q42.1), some (.int x7), some (.int x8), some (.int (0 : Int32)), some (.int q42.1)]) dX12_plays_187 (Nat.le_of_ble_eq_true rfl) rfl ?_
                    refine g_iload dX12_plays_189 rfl ?_
                    refine g_istore (ls' := [some (.ref 139), some (.int x1), some (.int x2), some (.int x3), some (.int x4), some (.int x5), some (.int q42.1), some (.int x8), some (.int x8), some (.int (0 : Int32)), some (.int q42.1)]) dX12_plays_191 (Nat.le_of_ble_eq_true rfl) rfl ?_
                    refine g_iinc (v := x8 + (1 : Int32)) (ls' := [some (.ref 139), some (.int x1), some (.int x2), some (.int x3), some (.int x4), some (.int x5), some (.int q42.1), some (.int x8), some (.int (x8 + (1 : Int32))), some (.int (0 : Int32)), some (.int q42.1)]) dX12_plays_193 rfl rfl rfl ?_
                    refine g_goto (t := 71) dX12_plays_196 (by decide) ?_
                    exact g_sub (z_sub_s (z_sub_s (z_sub_s (z_sub_s (z_sub_s (z_sub_s (z_sub_s (z_sub_s (z_sub_s (z_sub_n (z_sub_n z_sub_nil))))))))))) (ih _ _ _ _ _ _ _ _ _ _ _ _ h hq)
                  · replace h := z_iff c47 h
                    refine g_goto (t := 193) dX12_plays_172 (by decide) ?_
                    refine g_iinc (v := x8 + (1 : Int32)) (ls' := [some (.ref 139), some (.int x1), some (.int x2), some (.int x3), some (.int x4), some (.int x5), some (.int x6), some (.int x7), some (.int (x8 + (1 : Int32))), some (.int (0 : Int32)), some (.int q42.1)]) dX12_plays_193 rfl rfl rfl ?_
                    refine g_goto (t := 71) dX12_plays_196 (by decide) ?_
                    exact g_sub (z_sub_s (z_sub_s (z_sub_s (z_sub_s (z_sub_s (z_sub_s (z_sub_s (z_sub_s (z_sub_s (z_sub_n (z_sub_n z_sub_nil))))))))))) (ih _ _ _ _ _ _ _ _ _ _ _ _ h hq)
          · replace h := z_iff c34 h
            refine g_iconst (v := (1 : Int32)) dX12_plays_107 (by decide) ?_
            refine g_iload dX12_plays_108 rfl ?_
            refine g_ishl dX12_plays_110 ?_
            refine g_goto (t := 115) dX12_plays_111 (by decide) ?_
            refine g_istore (ls' := [some (.ref 139), some (.int x1), some (.int x2), some (.int x3), some (.int x4), some (.int x5), some (.int x6), some (.int x7), some (.int x8), some (.int ((1 : Int32) <<< (x8 &&& 31))), none]) dX12_plays_115 (Nat.le_of_ble_eq_true rfl) rfl ?_
            refine g_iload dX12_plays_117 rfl ?_
            refine g_if_eq (t := 139) dX12_plays_119 (by decide) (fun c48 => ?_) (fun c48 => ?_)
            · replace h := z_ift c48 h
              refine g_aload_n dX12_plays_139 rfl rfl ?_
              refine g_iload_n dX12_plays_140 rfl rfl ?_
              refine g_iconst (v := (1 : Int32)) dX12_plays_141 (by decide) ?_
              refine g_iadd dX12_plays_142 ?_
              refine g_iload_n dX12_plays_143 rfl rfl ?_
              refine g_iload_n dX12_plays_144 rfl rfl ?_
              refine g_iload dX12_plays_145 rfl ?_
              refine g_iload dX12_plays_147 rfl ?_
              refine g_ior dX12_plays_149 ?_
              obtain ⟨q49, e50, h⟩ := z_bd h
              refine g_callV (a := 137) (as := [.int (x1 + (1 : Int32)), .int x2, .int x3, .int (x4 ||| ((1 : Int32) <<< (x8 &&& 31)))]) (rest := []) (c := mX12_plays) (k1 := k) dX12_plays_150 rfl rfl rfl sh_137 rfl rfl (Nat.le_of_ble_eq_true rfl) (Nat.le_of_ble_eq_true rfl) (by omega) ?_
              refine hG _ _ _ _ _ _ _ _ e50 ?_
              show z_G none (k + 1) mX12_plays 153 [some (.ref 139), some (.int x1), some (.int x2), some (.int x3), some (.int x4), some (.int x5), some (.int x6), some (.int x7), some (.int x8), some (.int ((1 : Int32) <<< (x8 &&& 31))), none] [.int q49.1] q49.2 Q
              refine g_istore (ls' := [some (.ref 139), some (.int x1), some (.int x2), some (.int x3), some (.int x4), some (.int x5), some (.int x6), some (.int x7), some (.int x8), some (.int ((1 : Int32) <<< (x8 &&& 31))), some (.int q49.1)]) dX12_plays_153 (Nat.le_of_ble_eq_true rfl) rfl ?_
              refine g_iload dX12_plays_155 rfl ?_
              refine g_if_lt (t := 185) dX12_plays_157 (by decide) (fun c51 => ?_) (fun c51 => ?_)
              · replace h := z_ift c51 h
                refine g_iload dX12_plays_185 rfl ?_
                refine g_istore (ls' := [some (.ref 139), some (.int x1), some (.int x2), some (.int x3), some (.int x4), some (.int x5), some (.int q49.1), some (.int x7), some (.int x8), some (.int ((1 : Int32) <<< (x8 &&& 31))), some (.int q49.1)]) dX12_plays_187 (Nat.le_of_ble_eq_true rfl) rfl ?_
                refine g_iload dX12_plays_189 rfl ?_
                refine g_istore (ls' := [some (.ref 139), some (.int x1), some (.int x2), some (.int x3), some (.int x4), some (.int x5), some (.int q49.1), some (.int x8), some (.int x8), some (.int ((1 : Int32) <<< (x8 &&& 31))), some (.int q49.1)]) dX12_plays_191 (Nat.le_of_ble_eq_true rfl) rfl ?_
                refine g_iinc (v := x8 + (1 : Int32)) (ls' := [some (.ref 139), some (.int x1), some (.int x2), some (.int x3), some (.int x4), some (.int x5), some (.int q49.1), some (.int x8), some (.int (x8 + (1 : Int32))), some (.int ((1 : Int32) <<< (x8 &&& 31))), some (.int q49.1)]) dX12_plays_193 rfl rfl rfl ?_
                refine g_goto (t := 71) dX12_plays_196 (by decide) ?_
                exact g_sub (z_sub_s (z_sub_s (z_sub_s (z_sub_s (z_sub_s (z_sub_s (z_sub_s (z_sub_s (z_sub_s (z_sub_n (z_sub_n z_sub_nil))))))))))) (ih _ _ _ _ _ _ _ _ _ _ _ _ h hq)
              · replace h := z_iff c51 h
                refine g_iload dX12_plays_160 rfl ?_
                refine g_if_eq (t := 175) dX12_plays_162 (by decide) (fun c52 => ?_) (fun c52 => ?_)
                · replace h := z_ift c52 h
                  refine g_iload dX12_plays_175 rfl ?_
                  refine g_iload dX12_plays_177 rfl ?_
                  refine g_ic_lt (t := 185) dX12_plays_179 (by decide) (fun c53 => ?_) (fun c53 => ?_)
                  · replace h := z_ift c53 h
                    refine g_iload dX12_plays_185 rfl ?_
                    refine g_istore (ls' := [some (.ref 139), some (.int x1), some (.int x2), some (.int x3), some (.int x4), some (.int x5), some (.int q49.1), some (.int x7), some (.int x8), some (.int ((1 : Int32) <<< (x8 &&& 31))), some (.int q49.1)]) dX12_plays_187 (Nat.le_of_ble_eq_true rfl) rfl ?_
                    refine g_iload dX12_plays_189 rfl ?_
                    refine g_istore (ls' := [some (.ref 139), some (.int x1), some (.int x2), some (.int x3), some (.int x4), some (.int x5), some (.int q49.1), some (.int x8), some (.int x8), some (.int ((1 : Int32) <<< (x8 &&& 31))), some (.int q49.1)]) dX12_plays_191 (Nat.le_of_ble_eq_true rfl) rfl ?_
                    refine g_iinc (v := x8 + (1 : Int32)) (ls' := [some (.ref 139), some (.int x1), some (.int x2), some (.int x3), some (.int x4), some (.int x5), some (.int q49.1), some (.int x8), some (.int (x8 + (1 : Int32))), some (.int ((1 : Int32) <<< (x8 &&& 31))), some (.int q49.1)]) dX12_plays_193 rfl rfl rfl ?_
                    refine g_goto (t := 71) dX12_plays_196 (by decide) ?_
                    exact g_sub (z_sub_s (z_sub_s (z_sub_s (z_sub_s (z_sub_s (z_sub_s (z_sub_s (z_sub_s (z_sub_s (z_sub_n (z_sub_n z_sub_nil))))))))))) (ih _ _ _ _ _ _ _ _ _ _ _ _ h hq)
                  · replace h := z_iff c53 h
                    refine g_goto (t := 193) dX12_plays_182 (by decide) ?_
                    refine g_iinc (v := x8 + (1 : Int32)) (ls' := [some (.ref 139), some (.int x1), some (.int x2), some (.int x3), some (.int x4), some (.int x5), some (.int x6), some (.int x7), some (.int (x8 + (1 : Int32))), some (.int ((1 : Int32) <<< (x8 &&& 31))), some (.int q49.1)]) dX12_plays_193 rfl rfl rfl ?_
                    refine g_goto (t := 71) dX12_plays_196 (by decide) ?_
                    exact g_sub (z_sub_s (z_sub_s (z_sub_s (z_sub_s (z_sub_s (z_sub_s (z_sub_s (z_sub_s (z_sub_s (z_sub_n (z_sub_n z_sub_nil))))))))))) (ih _ _ _ _ _ _ _ _ _ _ _ _ h hq)
                · replace h := z_iff c52 h
                  refine g_iload dX12_plays_165 rfl ?_
                  refine g_iload dX12_plays_167 rfl ?_
                  refine g_ic_gt (t := 185) dX12_plays_169 (by decide) (fun c54 => ?_) (fun c54 => ?_)
                  · replace h := z_ift c54 h
                    refine g_iload dX12_plays_185 rfl ?_
                    refine g_istore (ls' := [some (.ref 139), some (.int x1), some (.int x2), some (.int x3), some (.int x4), some (.int x5), some (.int q49.1), some (.int x7), some (.int x8), some (.int ((1 : Int32) <<< (x8 &&& 31))), some (.int q49.1)]) dX12_plays_187 (Nat.le_of_ble_eq_true rfl) rfl ?_
                    refine g_iload dX12_plays_189 rfl ?_
                    refine g_istore (ls' := [some (.ref 139), some (.int x1), some (.int x2), some (.int x3), some (.int x4), some (.int x5), some (.int q49.1), some (.int x8), some (.int x8), some (.int ((1 : Int32) <<< (x8 &&& 31))), some (.int q49.1)]) dX12_plays_191 (Nat.le_of_ble_eq_true rfl) rfl ?_
                    refine g_iinc (v := x8 + (1 : Int32)) (ls' := [some (.ref 139), some (.int x1), some (.int x2), some (.int x3), some (.int x4), some (.int x5), some (.int q49.1), some (.int x8), some (.int (x8 + (1 : Int32))), some (.int ((1 : Int32) <<< (x8 &&& 31))), some (.int q49.1)]) dX12_plays_193 rfl rfl rfl ?_
                    refine g_goto (t := 71) dX12_plays_196 (by decide) ?_
                    exact g_sub (z_sub_s (z_sub_s (z_sub_s (z_sub_s (z_sub_s (z_sub_s (z_sub_s (z_sub_s (z_sub_s (z_sub_n (z_sub_n z_sub_nil))))))))))) (ih _ _ _ _ _ _ _ _ _ _ _ _ h hq)
                  · replace h := z_iff c54 h
                    refine g_goto (t := 193) dX12_plays_172 (by decide) ?_
                    refine g_iinc (v := x8 + (1 : Int32)) (ls' := [some (.ref 139), some (.int x1), some (.int x2), some (.int x3), some (.int x4), some (.int x5), some (.int x6), some (.int x7), some (.int (x8 + (1 : Int32))), some (.int ((1 : Int32) <<< (x8 &&& 31))), some (.int q49.1)]) dX12_plays_193 rfl rfl rfl ?_
                    refine g_goto (t := 71) dX12_plays_196 (by decide) ?_
                    exact g_sub (z_sub_s (z_sub_s (z_sub_s (z_sub_s (z_sub_s (z_sub_s (z_sub_s (z_sub_s (z_sub_s (z_sub_n (z_sub_n z_sub_nil))))))))))) (ih _ _ _ _ _ _ _ _ _ _ _ _ h hq)
            · replace h := z_iff c48 h
              refine g_aload_n dX12_plays_122 rfl rfl ?_
              refine g_iload_n dX12_plays_123 rfl rfl ?_
              refine g_iconst (v := (1 : Int32)) dX12_plays_124 (by decide) ?_
              refine g_iadd dX12_plays_125 ?_
              refine g_iload_n dX12_plays_126 rfl rfl ?_
              refine g_iload_n dX12_plays_127 rfl rfl ?_
              refine g_iload dX12_plays_128 rfl ?_
              refine g_ior dX12_plays_130 ?_
              refine g_iload dX12_plays_131 rfl ?_
              obtain ⟨q55, e56, h⟩ := z_bd h
              refine g_callV (a := 137) (as := [.int (x1 + (1 : Int32)), .int x2, .int (x3 ||| ((1 : Int32) <<< (x8 &&& 31))), .int x4]) (rest := []) (c := mX12_plays) (k1 := k) dX12_plays_133 rfl rfl rfl sh_137 rfl rfl (Nat.le_of_ble_eq_true rfl) (Nat.le_of_ble_eq_true rfl) (by omega) ?_
              refine hG _ _ _ _ _ _ _ _ e56 ?_
              show z_G none (k + 1) mX12_plays 136 [some (.ref 139), some (.int x1), some (.int x2), some (.int x3), some (.int x4), some (.int x5), some (.int x6), some (.int x7), some (.int x8), some (.int ((1 : Int32) <<< (x8 &&& 31))), none] [.int q55.1] q55.2 Q
              refine g_goto (t := 153) dX12_plays_136 (by decide) ?_
              refine g_istore (ls' := [some (.ref 139), some (.int x1), some (.int x2), some (.int x3), some (.int x4), some (.int x5), some (.int x6), some (.int x7), some (.int x8), some (.int ((1 : Int32) <<< (x8 &&& 31))), some (.int q55.1)]) dX12_plays_153 (Nat.le_of_ble_eq_true rfl) rfl ?_
              refine g_iload dX12_plays_155 rfl ?_
              refine g_if_lt (t := 185) dX12_plays_157 (by decide) (fun c57 => ?_) (fun c57 => ?_)
              · replace h := z_ift c57 h
                refine g_iload dX12_plays_185 rfl ?_
                refine g_istore (ls' := [some (.ref 139), some (.int x1), some (.int x2), some (.int x3), some (.int x4), some (.int x5), some (.int q55.1), some (.int x7), some (.int x8), some (.int ((1 : Int32) <<< (x8 &&& 31))), some (.int q55.1)]) dX12_plays_187 (Nat.le_of_ble_eq_true rfl) rfl ?_
                refine g_iload dX12_plays_189 rfl ?_
                refine g_istore (ls' := [some (.ref 139), some (.int x1), some (.int x2), some (.int x3), some (.int x4), some (.int x5), some (.int q55.1), some (.int x8), some (.int x8), some (.int ((1 : Int32) <<< (x8 &&& 31))), some (.int q55.1)]) dX12_plays_191 (Nat.le_of_ble_eq_true rfl) rfl ?_
                refine g_iinc (v := x8 + (1 : Int32)) (ls' := [some (.ref 139), some (.int x1), some (.int x2), some (.int x3), some (.int x4), some (.int x5), some (.int q55.1), some (.int x8), some (.int (x8 + (1 : Int32))), some (.int ((1 : Int32) <<< (x8 &&& 31))), some (.int q55.1)]) dX12_plays_193 rfl rfl rfl ?_
                refine g_goto (t := 71) dX12_plays_196 (by decide) ?_
                exact g_sub (z_sub_s (z_sub_s (z_sub_s (z_sub_s (z_sub_s (z_sub_s (z_sub_s (z_sub_s (z_sub_s (z_sub_n (z_sub_n z_sub_nil))))))))))) (ih _ _ _ _ _ _ _ _ _ _ _ _ h hq)
              · replace h := z_iff c57 h
                refine g_iload dX12_plays_160 rfl ?_
                refine g_if_eq (t := 175) dX12_plays_162 (by decide) (fun c58 => ?_) (fun c58 => ?_)
                · replace h := z_ift c58 h
                  refine g_iload dX12_plays_175 rfl ?_
                  refine g_iload dX12_plays_177 rfl ?_
                  refine g_ic_lt (t := 185) dX12_plays_179 (by decide) (fun c59 => ?_) (fun c59 => ?_)
                  · replace h := z_ift c59 h
                    refine g_iload dX12_plays_185 rfl ?_
                    refine g_istore (ls' := [some (.ref 139), some (.int x1), some (.int x2), some (.int x3), some (.int x4), some (.int x5), some (.int q55.1), some (.int x7), some (.int x8), some (.int ((1 : Int32) <<< (x8 &&& 31))), some (.int q55.1)]) dX12_plays_187 (Nat.le_of_ble_eq_true rfl) rfl ?_
                    refine g_iload dX12_plays_189 rfl ?_
                    refine g_istore (ls' := [some (.ref 139), some (.int x1), some (.int x2), some (.int x3), some (.int x4), some (.int x5), some (.int q55.1), some (.int x8), some (.int x8), some (.int ((1 : Int32) <<< (x8 &&& 31))), some (.int q55.1)]) dX12_plays_191 (Nat.le_of_ble_eq_true rfl) rfl ?_
                    refine g_iinc (v := x8 + (1 : Int32)) (ls' := [some (.ref 139), some (.int x1), some (.int x2), some (.int x3), some (.int x4), some (.int x5), some (.int q55.1), some (.int x8), some (.int (x8 + (1 : Int32))), some (.int ((1 : Int32) <<< (x8 &&& 31))), some (.int q55.1)]) dX12_plays_193 rfl rfl rfl ?_
                    refine g_goto (t := 71) dX12_plays_196 (by decide) ?_
                    exact g_sub (z_sub_s (z_sub_s (z_sub_s (z_sub_s (z_sub_s (z_sub_s (z_sub_s (z_sub_s (z_sub_s (z_sub_n (z_sub_n z_sub_nil))))))))))) (ih _ _ _ _ _ _ _ _ _ _ _ _ h hq)
                  · replace h := z_iff c59 h
                    refine g_goto (t := 193) dX12_plays_182 (by decide) ?_
                    refine g_iinc (v := x8 + (1 : Int32)) (ls' := [some (.ref 139), some (.int x1), some (.int x2), some (.int x3), some (.int x4), some (.int x5), some (.int x6), some (.int x7), some (.int (x8 + (1 : Int32))), some (.int ((1 : Int32) <<< (x8 &&& 31))), some (.int q55.1)]) dX12_plays_193 rfl rfl rfl ?_
                    refine g_goto (t := 71) dX12_plays_196 (by decide) ?_
                    exact g_sub (z_sub_s (z_sub_s (z_sub_s (z_sub_s (z_sub_s (z_sub_s (z_sub_s (z_sub_s (z_sub_s (z_sub_n (z_sub_n z_sub_nil))))))))))) (ih _ _ _ _ _ _ _ _ _ _ _ _ h hq)
                · replace h := z_iff c58 h
                  refine g_iload dX12_plays_165 rfl ?_
                  refine g_iload dX12_plays_167 rfl ?_
                  refine g_ic_gt (t := 185) dX12_plays_169 (by decide) (fun c60 => ?_) (fun c60 => ?_)
                  · replace h := z_ift c60 h
                    refine g_iload dX12_plays_185 rfl ?_
                    refine g_istore (ls' := [some (.ref 139), some (.int x1), some (.int x2), some (.int x3), some (.int x4), some (.int x5), some (.int q55.1), some (.int x7), some (.int x8), some (.int ((1 : Int32) <<< (x8 &&& 31))), some (.int q55.1)]) dX12_plays_187 (Nat.le_of_ble_eq_true rfl) rfl ?_
                    refine g_iload dX12_plays_189 rfl ?_
                    refine g_istore (ls' := [some (.ref 139), some (.int x1), some (.int x2), some (.int x3), some (.int x4), some (.int x5), some (.int q55.1), some (.int x8), some (.int x8), some (.int ((1 : Int32) <<< (x8 &&& 31))), some (.int q55.1)]) dX12_plays_191 (Nat.le_of_ble_eq_true rfl) rfl ?_
                    refine g_iinc (v := x8 + (1 : Int32)) (ls' := [some (.ref 139), some (.int x1), some (.int x2), some (.int x3), some (.int x4), some (.int x5), some (.int q55.1), some (.int x8), some (.int (x8 + (1 : Int32))), some (.int ((1 : Int32) <<< (x8 &&& 31))), some (.int q55.1)]) dX12_plays_193 rfl rfl rfl ?_
                    refine g_goto (t := 71) dX12_plays_196 (by decide) ?_
                    exact g_sub (z_sub_s (z_sub_s (z_sub_s (z_sub_s (z_sub_s (z_sub_s (z_sub_s (z_sub_s (z_sub_s (z_sub_n (z_sub_n z_sub_nil))))))))))) (ih _ _ _ _ _ _ _ _ _ _ _ _ h hq)
                  · replace h := z_iff c60 h
                    refine g_goto (t := 193) dX12_plays_172 (by decide) ?_
                    refine g_iinc (v := x8 + (1 : Int32)) (ls' := [some (.ref 139), some (.int x1), some (.int x2), some (.int x3), some (.int x4), some (.int x5), some (.int x6), some (.int x7), some (.int (x8 + (1 : Int32))), some (.int ((1 : Int32) <<< (x8 &&& 31))), some (.int q55.1)]) dX12_plays_193 rfl rfl rfl ?_
                    refine g_goto (t := 71) dX12_plays_196 (by decide) ?_
                    exact g_sub (z_sub_s (z_sub_s (z_sub_s (z_sub_s (z_sub_s (z_sub_s (z_sub_s (z_sub_s (z_sub_s (z_sub_n (z_sub_n z_sub_nil))))))))))) (ih _ _ _ _ _ _ _ _ _ _ _ _ h hq)
        · replace h := z_ift (z_tbn.mp c33) h
          refine g_goto (t := 193) dX12_plays_97 (by decide) ?_
          refine g_iinc (v := x8 + (1 : Int32)) (ls' := [some (.ref 139), some (.int x1), some (.int x2), some (.int x3), some (.int x4), some (.int x5), some (.int x6), some (.int x7), some (.int (x8 + (1 : Int32))), none, none]) dX12_plays_193 rfl rfl rfl ?_
          refine g_goto (t := 71) dX12_plays_196 (by decide) ?_
          exact g_sub (z_sub_s (z_sub_s (z_sub_s (z_sub_s (z_sub_s (z_sub_s (z_sub_s (z_sub_s (z_sub_s (z_sub_n (z_sub_n z_sub_nil))))))))))) (ih _ _ _ _ _ _ _ _ _ _ _ _ h hq)
def Fb_X12_plays (w : Nat) (G : z_Mem → Int32 → Int32 → Int32 → Int32 → Option (Int32 × z_Mem)) (M : z_Mem) (a1 : Int32) (a2 : Int32) (a3 : Int32) (a4 : Int32) : Option (Int32 × z_Mem) :=
  if a1 = a2 then
  if (M.1 142 8) = (0 : Int32) then
  if ((4095 : Int32) &&& (a4 ^^^ (-1 : Int32))) < 0 ∨ 8192 ≤ ((4095 : Int32) &&& (a4 ^^^ (-1 : Int32))).toNatClampNeg then none else
  if ((4096 : Int32) + ((4095 : Int32) &&& (a4 ^^^ (-1 : Int32)))) < 0 ∨ 8192 ≤ ((4096 : Int32) + ((4095 : Int32) &&& (a4 ^^^ (-1 : Int32)))).toNatClampNeg then none else
  some ((M.1 145 ((4095 : Int32) &&& (a4 ^^^ (-1 : Int32))).toNatClampNeg) - (M.1 145 ((4096 : Int32) + ((4095 : Int32) &&& (a4 ^^^ (-1 : Int32)))).toNatClampNeg), M)
  else
  if a3 < 0 ∨ 8192 ≤ a3.toNatClampNeg then none else
  if ((4096 : Int32) + a3) < 0 ∨ 8192 ≤ ((4096 : Int32) + a3).toNatClampNeg then none else
  some ((M.1 145 a3.toNatClampNeg) - (M.1 145 ((4096 : Int32) + a3).toNatClampNeg), M)
  else
  if (a1 - a1 / (2 : Int32) * (2 : Int32)) = (0 : Int32) then
  L_X12_plays w G w M a1 a2 a3 a4 (1 : Int32) (0 : Int32) (-1 : Int32) (0 : Int32)
  else
  L_X12_plays w G w M a1 a2 a3 a4 (0 : Int32) (0 : Int32) (-1 : Int32) (0 : Int32)
set_option maxHeartbeats 4000000 in
theorem Ab_X12_plays {w : Nat} {G : z_Mem → Int32 → Int32 → Int32 → Int32 → Option (Int32 × z_Mem)} {k : Nat} (hk0 : 0 ≤ k) (hG : ∀ (M : z_Mem) (a1 : Int32) (a2 : Int32) (a3 : Int32) (a4 : Int32) (r : Int32) (M' : z_Mem) (Q : Option Value → z_Mem → Prop), G M a1 a2 a3 a4 = some (r, M') → Q (some (.int r)) M' → z_Cl k mX12_plays [.ref 139, .int a1, .int a2, .int a3, .int a4] M Q) {M : z_Mem} {a1 : Int32} {a2 : Int32} {a3 : Int32} {a4 : Int32} {r : Int32} {M' : z_Mem} {Q : Option Value → z_Mem → Prop} (h : Fb_X12_plays w G M a1 a2 a3 a4 = some (r, M')) (hq : Q (some (.int r)) M') : z_Cl (k + 1) mX12_plays [.ref 139, .int a1, .int a2, .int a3, .int a4] M Q := by
  refine g_in (ls := [some (.ref 139), some (.int a1), some (.int a2), some (.int a3), some (.int a4), none, none, none, none, none, none]) rfl ?_
  unfold Fb_X12_plays at h
  refine g_iload_n dX12_plays_0 rfl rfl ?_
  refine g_iload_n dX12_plays_1 rfl rfl ?_
  refine g_ic_ne (t := 49) dX12_plays_2 (by decide) (fun c61 => ?_) (fun c61 => ?_)
  · replace h := z_iff c61 h
    refine g_iload_n dX12_plays_49 rfl rfl ?_
    refine g_iconst (v := (2 : Int32)) dX12_plays_50 (by decide) ?_
    refine g_irem dX12_plays_51 (by decide) ?_
    refine g_if_ne (t := 59) dX12_plays_52 (by decide) (fun c62 => ?_) (fun c62 => ?_)
    · replace h := z_iff c62 h
      refine g_iconst (v := (0 : Int32)) dX12_plays_59 (by decide) ?_
      refine g_istore (ls' := [some (.ref 139), some (.int a1), some (.int a2), some (.int a3), some (.int a4), some (.int (0 : Int32)), none, none, none, none, none]) dX12_plays_60 (Nat.le_of_ble_eq_true rfl) rfl ?_
      refine g_iconst (v := (0 : Int32)) dX12_plays_62 (by decide) ?_
      refine g_istore (ls' := [some (.ref 139), some (.int a1), some (.int a2), some (.int a3), some (.int a4), some (.int (0 : Int32)), some (.int (0 : Int32)), none, none, none, none]) dX12_plays_63 (Nat.le_of_ble_eq_true rfl) rfl ?_
      refine g_iconst (v := (-1 : Int32)) dX12_plays_65 (by decide) ?_
      refine g_istore (ls' := [some (.ref 139), some (.int a1), some (.int a2), some (.int a3), some (.int a4), some (.int (0 : Int32)), some (.int (0 : Int32)), some (.int (-1 : Int32)), none, none, none]) dX12_plays_66 (Nat.le_of_ble_eq_true rfl) rfl ?_
      refine g_iconst (v := (0 : Int32)) dX12_plays_68 (by decide) ?_
      refine g_istore (ls' := [some (.ref 139), some (.int a1), some (.int a2), some (.int a3), some (.int a4), some (.int (0 : Int32)), some (.int (0 : Int32)), some (.int (-1 : Int32)), some (.int (0 : Int32)), none, none]) dX12_plays_69 (Nat.le_of_ble_eq_true rfl) rfl ?_
      exact g_sub (z_sub_s (z_sub_s (z_sub_s (z_sub_s (z_sub_s (z_sub_s (z_sub_s (z_sub_s (z_sub_s (z_sub_n (z_sub_n z_sub_nil))))))))))) ((AL_X12_plays (w := w) hk0 hG w) _ _ _ _ _ _ _ _ _ _ _ _ h hq)
    · replace h := z_ift c62 h
      refine g_iconst (v := (1 : Int32)) dX12_plays_55 (by decide) ?_
      refine g_goto (t := 60) dX12_plays_56 (by decide) ?_
      refine g_istore (ls' := [some (.ref 139), some (.int a1), some (.int a2), some (.int a3), some (.int a4), some (.int (1 : Int32)), none, none, none, none, none]) dX12_plays_60 (Nat.le_of_ble_eq_true rfl) rfl ?_
      refine g_iconst (v := (0 : Int32)) dX12_plays_62 (by decide) ?_
      refine g_istore (ls' := [some (.ref 139), some (.int a1), some (.int a2), some (.int a3), some (.int a4), some (.int (1 : Int32)), some (.int (0 : Int32)), none, none, none, none]) dX12_plays_63 (Nat.le_of_ble_eq_true rfl) rfl ?_
      refine g_iconst (v := (-1 : Int32)) dX12_plays_65 (by decide) ?_
      refine g_istore (ls' := [some (.ref 139), some (.int a1), some (.int a2), some (.int a3), some (.int a4), some (.int (1 : Int32)), some (.int (0 : Int32)), some (.int (-1 : Int32)), none, none, none]) dX12_plays_66 (Nat.le_of_ble_eq_true rfl) rfl ?_
      refine g_iconst (v := (0 : Int32)) dX12_plays_68 (by decide) ?_
      refine g_istore (ls' := [some (.ref 139), some (.int a1), some (.int a2), some (.int a3), some (.int a4), some (.int (1 : Int32)), some (.int (0 : Int32)), some (.int (-1 : Int32)), some (.int (0 : Int32)), none, none]) dX12_plays_69 (Nat.le_of_ble_eq_true rfl) rfl ?_
      exact g_sub (z_sub_s (z_sub_s (z_sub_s (z_sub_s (z_sub_s (z_sub_s (z_sub_s (z_sub_s (z_sub_s (z_sub_n (z_sub_n z_sub_nil))))))))))) ((AL_X12_plays (w := w) hk0 hG w) _ _ _ _ _ _ _ _ _ _ _ _ h hq)
  · replace h := z_ift c61 h
    refine g_aload_n dX12_plays_5 rfl rfl ?_
    refine g_get (a := 137) (v := .ref 144) dX12_plays_6 f_12_35 sh_137 rfl rfl ?_
    refine g_bipush (v := (8 : Int32)) dX12_plays_9 (by decide) ?_
    refine g_ialN (a := 142) (j := 8) (v := M.1 142 8) dX12_plays_11 sh_142 rfl (by decide) rfl ?_
    refine g_if_ne (t := 26) dX12_plays_12 (by decide) (fun c63 => ?_) (fun c63 => ?_)
    · replace h := z_iff c63 h
      refine g_iload_n dX12_plays_26 rfl rfl ?_
      refine g_istore (ls' := [some (.ref 139), some (.int a1), some (.int a2), some (.int a3), some (.int a4), some (.int a3), none, none, none, none, none]) dX12_plays_27 (Nat.le_of_ble_eq_true rfl) rfl ?_
      refine g_aload_n dX12_plays_29 rfl rfl ?_
      refine g_get (a := 137) (v := .ref 147) dX12_plays_30 f_12_44 sh_137 rfl rfl ?_
      refine g_iload dX12_plays_33 rfl ?_
      by_cases g64 : a3 < 0 ∨ 8192 ≤ a3.toNatClampNeg
      · rw [if_pos g64] at h; cases h
      replace h := z_iff g64 h
      refine g_iald (a := 145) dX12_plays_35 sh_145 g64 ?_
      refine g_aload_n dX12_plays_36 rfl rfl ?_
      refine g_get (a := 137) (v := .ref 147) dX12_plays_37 f_12_44 sh_137 rfl rfl ?_
      refine g_sipush (v := (4096 : Int32)) dX12_plays_40 (by decide) ?_
      refine g_iload dX12_plays_43 rfl ?_
      refine g_iadd dX12_plays_45 ?_
      by_cases g65 : ((4096 : Int32) + a3) < 0 ∨ 8192 ≤ ((4096 : Int32) + a3).toNatClampNeg
      · rw [if_pos g65] at h; cases h
      replace h := z_iff g65 h
      refine g_iald (a := 145) dX12_plays_46 sh_145 g65 ?_
      refine g_isub dX12_plays_47 ?_
      cases h
      exact g_iret dX12_plays_48 rfl rfl hq
    · replace h := z_ift c63 h
      refine g_sipush (v := (4095 : Int32)) dX12_plays_15 (by decide) ?_
      refine g_iload dX12_plays_18 rfl ?_
      refine g_iconst (v := (-1 : Int32)) dX12_plays_20 (by decide) ?_
      refine g_ixor dX12_plays_21 ?_
      refine g_iand dX12_plays_22 ?_
      refine g_goto (t := 27) dX12_plays_23 (by decide) ?_
      refine g_istore (ls' := [some (.ref 139), some (.int a1), some (.int a2), some (.int a3), some (.int a4), some (.int ((4095 : Int32) &&& (a4 ^^^ (-1 : Int32)))), none, none, none, none, none]) dX12_plays_27 (Nat.le_of_ble_eq_true rfl) rfl ?_
      refine g_aload_n dX12_plays_29 rfl rfl ?_
      refine g_get (a := 137) (v := .ref 147) dX12_plays_30 f_12_44 sh_137 rfl rfl ?_
      refine g_iload dX12_plays_33 rfl ?_
      by_cases g66 : ((4095 : Int32) &&& (a4 ^^^ (-1 : Int32))) < 0 ∨ 8192 ≤ ((4095 : Int32) &&& (a4 ^^^ (-1 : Int32))).toNatClampNeg
      · rw [if_pos g66] at h; cases h
      replace h := z_iff g66 h
      refine g_iald (a := 145) dX12_plays_35 sh_145 g66 ?_
      refine g_aload_n dX12_plays_36 rfl rfl ?_
      refine g_get (a := 137) (v := .ref 147) dX12_plays_37 f_12_44 sh_137 rfl rfl ?_
      refine g_sipush (v := (4096 : Int32)) dX12_plays_40 (by decide) ?_
      refine g_iload dX12_plays_43 rfl ?_
      refine g_iadd dX12_plays_45 ?_
      by_cases g67 : ((4096 : Int32) + ((4095 : Int32) &&& (a4 ^^^ (-1 : Int32)))) < 0 ∨ 8192 ≤ ((4096 : Int32) + ((4095 : Int32) &&& (a4 ^^^ (-1 : Int32)))).toNatClampNeg
      · rw [if_pos g67] at h; cases h
      replace h := z_iff g67 h
      refine g_iald (a := 145) dX12_plays_46 sh_145 g67 ?_
      refine g_isub dX12_plays_47 ?_
      cases h
      exact g_iret dX12_plays_48 rfl rfl hq
def F_X12_plays (w : Nat) : Nat → z_Mem → Int32 → Int32 → Int32 → Int32 → Option (Int32 × z_Mem)
  | 0, _, _, _, _, _ => none
  | n + 1, M, a1, a2, a3, a4 => Fb_X12_plays w (F_X12_plays w n) M a1 a2 a3 a4
theorem A_X12_plays {w : Nat} : ∀ (n : Nat) (M : z_Mem) (a1 : Int32) (a2 : Int32) (a3 : Int32) (a4 : Int32) (r : Int32) (M' : z_Mem) (Q : Option Value → z_Mem → Prop), F_X12_plays w n M a1 a2 a3 a4 = some (r, M') → Q (some (.int r)) M' → z_Cl (n + 0) mX12_plays [.ref 139, .int a1, .int a2, .int a3, .int a4] M Q := by
  intro n
  induction n with
  | zero => intro M a1 a2 a3 a4 r M' Q h; rw [F_X12_plays] at h; cases h
  | succ n ih =>
    intro M a1 a2 a3 a4 r M' Q h hq
    rw [F_X12_plays] at h
    rw [show n + 1 + 0 = (n + 0) + 1 by omega]
    exact Ab_X12_plays (G := F_X12_plays w n) (k := n + 0) (by omega) ih h hq
theorem dX12_readStep_0 : decode cX12_readStep 0 = .ok (.aload_n 0, 1) := by decide +kernel
theorem dX12_readStep_1 : decode cX12_readStep 1 = .ok (.invokevirtual 203, 3) := by decide +kernel
theorem dX12_readStep_4 : decode cX12_readStep 4 = .ok (.istore_n 2, 1) := by decide +kernel
theorem dX12_readStep_5 : decode cX12_readStep 5 = .ok (.iload_n 2, 1) := by decide +kernel
theorem dX12_readStep_6 : decode cX12_readStep 6 = .ok (.iconst 5, 1) := by decide +kernel
theorem dX12_readStep_7 : decode cX12_readStep 7 = .ok (.if_icmp .eq 9, 3) := by decide +kernel
theorem dX12_readStep_10 : decode cX12_readStep 10 = .ok (.iload_n 2, 1) := by decide +kernel
theorem dX12_readStep_11 : decode cX12_readStep 11 = .ok (.bipush 6, 2) := by decide +kernel
theorem dX12_readStep_13 : decode cX12_readStep 13 = .ok (.if_icmp .ne 7, 3) := by decide +kernel
theorem dX12_readStep_16 : decode cX12_readStep 16 = .ok (.iconst 1, 1) := by decide +kernel
theorem dX12_readStep_17 : decode cX12_readStep 17 = .ok (.goto 4, 3) := by decide +kernel
theorem dX12_readStep_20 : decode cX12_readStep 20 = .ok (.iconst 0, 1) := by decide +kernel
theorem dX12_readStep_21 : decode cX12_readStep 21 = .ok (.istore_n 3, 1) := by decide +kernel
theorem dX12_readStep_22 : decode cX12_readStep 22 = .ok (.iload_n 2, 1) := by decide +kernel
theorem dX12_readStep_23 : decode cX12_readStep 23 = .ok (.ifCond .ge 7, 3) := by decide +kernel
theorem dX12_readStep_26 : decode cX12_readStep 26 = .ok (.aload_n 0, 1) := by decide +kernel
theorem dX12_readStep_27 : decode cX12_readStep 27 = .ok (.invokevirtual 225, 3) := by decide +kernel
theorem dX12_readStep_30 : decode cX12_readStep 30 = .ok (.aload_n 0, 1) := by decide +kernel
theorem dX12_readStep_31 : decode cX12_readStep 31 = .ok (.getfield 212, 3) := by decide +kernel
theorem dX12_readStep_34 : decode cX12_readStep 34 = .ok (.ifCond .ne 22, 3) := by decide +kernel
theorem dX12_readStep_37 : decode cX12_readStep 37 = .ok (.aload_n 0, 1) := by decide +kernel
theorem dX12_readStep_38 : decode cX12_readStep 38 = .ok (.getfield 322, 3) := by decide +kernel
theorem dX12_readStep_41 : decode cX12_readStep 41 = .ok (.bipush 30, 2) := by decide +kernel
theorem dX12_readStep_43 : decode cX12_readStep 43 = .ok (.if_icmp .ne 13, 3) := by decide +kernel
theorem dX12_readStep_46 : decode cX12_readStep 46 = .ok (.aload_n 0, 1) := by decide +kernel
theorem dX12_readStep_47 : decode cX12_readStep 47 = .ok (.bipush 6, 2) := by decide +kernel
theorem dX12_readStep_49 : decode cX12_readStep 49 = .ok (.aload_n 0, 1) := by decide +kernel
theorem dX12_readStep_50 : decode cX12_readStep 50 = .ok (.getfield 106, 3) := by decide +kernel
theorem dX12_readStep_53 : decode cX12_readStep 53 = .ok (.invokevirtual 218, 3) := by decide +kernel
theorem dX12_readStep_56 : decode cX12_readStep 56 = .ok (.aload_n 0, 1) := by decide +kernel
theorem dX12_readStep_57 : decode cX12_readStep 57 = .ok (.getfield 212, 3) := by decide +kernel
theorem dX12_readStep_60 : decode cX12_readStep 60 = .ok (.ifCond .ne 22, 3) := by decide +kernel
theorem dX12_readStep_63 : decode cX12_readStep 63 = .ok (.iload_n 3, 1) := by decide +kernel
theorem dX12_readStep_64 : decode cX12_readStep 64 = .ok (.ifCond .eq 18, 3) := by decide +kernel
theorem dX12_readStep_67 : decode cX12_readStep 67 = .ok (.iload_n 1, 1) := by decide +kernel
theorem dX12_readStep_68 : decode cX12_readStep 68 = .ok (.iconst 3, 1) := by decide +kernel
theorem dX12_readStep_69 : decode cX12_readStep 69 = .ok (.if_icmp .ne 13, 3) := by decide +kernel
theorem dX12_readStep_72 : decode cX12_readStep 72 = .ok (.aload_n 0, 1) := by decide +kernel
theorem dX12_readStep_73 : decode cX12_readStep 73 = .ok (.bipush 7, 2) := by decide +kernel
theorem dX12_readStep_75 : decode cX12_readStep 75 = .ok (.aload_n 0, 1) := by decide +kernel
theorem dX12_readStep_76 : decode cX12_readStep 76 = .ok (.getfield 106, 3) := by decide +kernel
theorem dX12_readStep_79 : decode cX12_readStep 79 = .ok (.invokevirtual 218, 3) := by decide +kernel
theorem dX12_readStep_82 : decode cX12_readStep 82 = .ok (.aload_n 0, 1) := by decide +kernel
theorem dX12_readStep_83 : decode cX12_readStep 83 = .ok (.getfield 212, 3) := by decide +kernel
theorem dX12_readStep_86 : decode cX12_readStep 86 = .ok (.ifCond .le 4, 3) := by decide +kernel
theorem dX12_readStep_89 : decode cX12_readStep 89 = .ok (.return_, 1) := by decide +kernel
theorem dX12_readStep_90 : decode cX12_readStep 90 = .ok (.sipush 1605, 3) := by decide +kernel
theorem dX12_readStep_93 : decode cX12_readStep 93 = .ok (.bipush 9, 2) := by decide +kernel
theorem dX12_readStep_95 : decode cX12_readStep 95 = .ok (.aload_n 0, 1) := by decide +kernel
theorem dX12_readStep_96 : decode cX12_readStep 96 = .ok (.getfield 322, 3) := by decide +kernel
theorem dX12_readStep_99 : decode cX12_readStep 99 = .ok (.imul, 1) := by decide +kernel
theorem dX12_readStep_100 : decode cX12_readStep 100 = .ok (.iadd, 1) := by decide +kernel
theorem dX12_readStep_101 : decode cX12_readStep 101 = .ok (.istore 4, 2) := by decide +kernel
theorem dX12_readStep_103 : decode cX12_readStep 103 = .ok (.aload_n 0, 1) := by decide +kernel
theorem dX12_readStep_104 : decode cX12_readStep 104 = .ok (.dup, 1) := by decide +kernel
theorem dX12_readStep_105 : decode cX12_readStep 105 = .ok (.getfield 322, 3) := by decide +kernel
theorem dX12_readStep_108 : decode cX12_readStep 108 = .ok (.iconst 1, 1) := by decide +kernel
theorem dX12_readStep_109 : decode cX12_readStep 109 = .ok (.iadd, 1) := by decide +kernel
theorem dX12_readStep_110 : decode cX12_readStep 110 = .ok (.putfield 322, 3) := by decide +kernel
theorem dX12_readStep_113 : decode cX12_readStep 113 = .ok (.aload_n 0, 1) := by decide +kernel
theorem dX12_readStep_114 : decode cX12_readStep 114 = .ok (.invokevirtual 222, 3) := by decide +kernel
theorem dX12_readStep_117 : decode cX12_readStep 117 = .ok (.aload_n 0, 1) := by decide +kernel
theorem dX12_readStep_118 : decode cX12_readStep 118 = .ok (.getfield 35, 3) := by decide +kernel
theorem dX12_readStep_121 : decode cX12_readStep 121 = .ok (.iload 4, 2) := by decide +kernel
theorem dX12_readStep_123 : decode cX12_readStep 123 = .ok (.iload_n 2, 1) := by decide +kernel
theorem dX12_readStep_124 : decode cX12_readStep 124 = .ok (.iastore, 1) := by decide +kernel
theorem dX12_readStep_125 : decode cX12_readStep 125 = .ok (.aload_n 0, 1) := by decide +kernel
theorem dX12_readStep_126 : decode cX12_readStep 126 = .ok (.iload 4, 2) := by decide +kernel
theorem dX12_readStep_128 : decode cX12_readStep 128 = .ok (.invokevirtual 325, 3) := by decide +kernel
theorem dX12_readStep_131 : decode cX12_readStep 131 = .ok (.aload_n 0, 1) := by decide +kernel
theorem dX12_readStep_132 : decode cX12_readStep 132 = .ok (.aload_n 0, 1) := by decide +kernel
theorem dX12_readStep_133 : decode cX12_readStep 133 = .ok (.bipush 59, 2) := by decide +kernel
theorem dX12_readStep_135 : decode cX12_readStep 135 = .ok (.invokevirtual 310, 3) := by decide +kernel
theorem dX12_readStep_138 : decode cX12_readStep 138 = .ok (.invokevirtual 228, 3) := by decide +kernel
theorem dX12_readStep_141 : decode cX12_readStep 141 = .ok (.iload_n 3, 1) := by decide +kernel
theorem dX12_readStep_142 : decode cX12_readStep 142 = .ok (.ifCond .eq 27, 3) := by decide +kernel
theorem dX12_readStep_145 : decode cX12_readStep 145 = .ok (.aload_n 0, 1) := by decide +kernel
theorem dX12_readStep_146 : decode cX12_readStep 146 = .ok (.getfield 212, 3) := by decide +kernel
theorem dX12_readStep_149 : decode cX12_readStep 149 = .ok (.ifCond .ne 20, 3) := by decide +kernel
theorem dX12_readStep_152 : decode cX12_readStep 152 = .ok (.aload_n 0, 1) := by decide +kernel
theorem dX12_readStep_153 : decode cX12_readStep 153 = .ok (.invokevirtual 193, 3) := by decide +kernel
theorem dX12_readStep_156 : decode cX12_readStep 156 = .ok (.ifCond .ne 13, 3) := by decide +kernel
theorem dX12_readStep_159 : decode cX12_readStep 159 = .ok (.aload_n 0, 1) := by decide +kernel
theorem dX12_readStep_160 : decode cX12_readStep 160 = .ok (.iload_n 1, 1) := by decide +kernel
theorem dX12_readStep_161 : decode cX12_readStep 161 = .ok (.iconst 1, 1) := by decide +kernel
theorem dX12_readStep_162 : decode cX12_readStep 162 = .ok (.iadd, 1) := by decide +kernel
theorem dX12_readStep_163 : decode cX12_readStep 163 = .ok (.invokevirtual 328, 3) := by decide +kernel
theorem dX12_readStep_166 : decode cX12_readStep 166 = .ok (.goto (-25), 3) := by decide +kernel
theorem dX12_readStep_169 : decode cX12_readStep 169 = .ok (.iload_n 3, 1) := by decide +kernel
theorem dX12_readStep_170 : decode cX12_readStep 170 = .ok (.ifCond .eq 21, 3) := by decide +kernel
theorem dX12_readStep_173 : decode cX12_readStep 173 = .ok (.aload_n 0, 1) := by decide +kernel
theorem dX12_readStep_174 : decode cX12_readStep 174 = .ok (.aload_n 0, 1) := by decide +kernel
theorem dX12_readStep_175 : decode cX12_readStep 175 = .ok (.invokevirtual 193, 3) := by decide +kernel
theorem dX12_readStep_178 : decode cX12_readStep 178 = .ok (.invokevirtual 228, 3) := by decide +kernel
theorem dX12_readStep_181 : decode cX12_readStep 181 = .ok (.aload_n 0, 1) := by decide +kernel
theorem dX12_readStep_182 : decode cX12_readStep 182 = .ok (.aload_n 0, 1) := by decide +kernel
theorem dX12_readStep_183 : decode cX12_readStep 183 = .ok (.bipush 59, 2) := by decide +kernel
theorem dX12_readStep_185 : decode cX12_readStep 185 = .ok (.invokevirtual 310, 3) := by decide +kernel
theorem dX12_readStep_188 : decode cX12_readStep 188 = .ok (.invokevirtual 228, 3) := by decide +kernel
theorem dX12_readStep_191 : decode cX12_readStep 191 = .ok (.aload_n 0, 1) := by decide +kernel
theorem dX12_readStep_192 : decode cX12_readStep 192 = .ok (.getfield 35, 3) := by decide +kernel
theorem dX12_readStep_195 : decode cX12_readStep 195 = .ok (.iload 4, 2) := by decide +kernel
theorem dX12_readStep_197 : decode cX12_readStep 197 = .ok (.bipush 8, 2) := by decide +kernel
theorem dX12_readStep_199 : decode cX12_readStep 199 = .ok (.iadd, 1) := by decide +kernel
theorem dX12_readStep_200 : decode cX12_readStep 200 = .ok (.aload_n 0, 1) := by decide +kernel
theorem dX12_readStep_201 : decode cX12_readStep 201 = .ok (.getfield 322, 3) := by decide +kernel
theorem dX12_readStep_204 : decode cX12_readStep 204 = .ok (.iastore, 1) := by decide +kernel
theorem dX12_readStep_205 : decode cX12_readStep 205 = .ok (.return_, 1) := by decide +kernel
def L_X12_readStep (w : Nat) (G : z_Mem → Int32 → Option (Unit × z_Mem)) : Nat → z_Mem → Int32 → Int32 → Int32 → Option (Unit × z_Mem)
  | 0, _, _, _, _ => none
  | c + 1, M, x1, x3, x4 =>
    if x3 = (0 : Int32) then
    if x3 = (0 : Int32) then
    if (x4 + (8 : Int32)) < 0 ∨ 1875 ≤ (x4 + (8 : Int32)).toNatClampNeg then none else
    some ((), (z_wI M 142 ((x4 + (8 : Int32)).toNatClampNeg) (M.1 137 25)))
    else
    (F_X12_isEnd w M).bind fun q4 =>
    (F_X12_must w q4.2 (z_tb q4.1)).bind fun q6 =>
    (F_X12_isSign w q6.2 (59 : Int32)).bind fun q8 =>
    (F_X12_must w q8.2 (z_tb q8.1)).bind fun q10 =>
    if (x4 + (8 : Int32)) < 0 ∨ 1875 ≤ (x4 + (8 : Int32)).toNatClampNeg then none else
    some ((), (z_wI q10.2 142 ((x4 + (8 : Int32)).toNatClampNeg) (q10.2.1 137 25)))
    else
    if (M.1 137 12) = (0 : Int32) then
    (F_X12_isEnd w M).bind fun q25 =>
    if q25.1 = true then
    if x3 = (0 : Int32) then
    if (x4 + (8 : Int32)) < 0 ∨ 1875 ≤ (x4 + (8 : Int32)).toNatClampNeg then none else
    some ((), (z_wI q25.2 142 ((x4 + (8 : Int32)).toNatClampNeg) (q25.2.1 137 25)))
    else
    (F_X12_isEnd w q25.2).bind fun q30 =>
    (F_X12_must w q30.2 (z_tb q30.1)).bind fun q32 =>
    (F_X12_isSign w q32.2 (59 : Int32)).bind fun q34 =>
    (F_X12_must w q34.2 (z_tb q34.1)).bind fun q36 =>
    if (x4 + (8 : Int32)) < 0 ∨ 1875 ≤ (x4 + (8 : Int32)).toNatClampNeg then none else
    some ((), (z_wI q36.2 142 ((x4 + (8 : Int32)).toNatClampNeg) (q36.2.1 137 25)))
    else
    (G q25.2 (x1 + (1 : Int32))).bind fun q39 =>
    L_X12_readStep w G c q39.2 x1 x3 x4
    else
    if x3 = (0 : Int32) then
    if (x4 + (8 : Int32)) < 0 ∨ 1875 ≤ (x4 + (8 : Int32)).toNatClampNeg then none else
    some ((), (z_wI M 142 ((x4 + (8 : Int32)).toNatClampNeg) (M.1 137 25)))
    else
    (F_X12_isEnd w M).bind fun q16 =>
    (F_X12_must w q16.2 (z_tb q16.1)).bind fun q18 =>
    (F_X12_isSign w q18.2 (59 : Int32)).bind fun q20 =>
    (F_X12_must w q20.2 (z_tb q20.1)).bind fun q22 =>
    if (x4 + (8 : Int32)) < 0 ∨ 1875 ≤ (x4 + (8 : Int32)).toNatClampNeg then none else
    some ((), (z_wI q22.2 142 ((x4 + (8 : Int32)).toNatClampNeg) (q22.2.1 137 25)))
set_option maxHeartbeats 4000000 in
theorem AL_X12_readStep {w : Nat} {G : z_Mem → Int32 → Option (Unit × z_Mem)} {k : Nat} (hk0 : 5 ≤ k) (hG : ∀ (M : z_Mem) (a1 : Int32) (r : Unit) (M' : z_Mem) (Q : Option Value → z_Mem → Prop), G M a1 = some (r, M') → Q none M' → z_Cl k mX12_readStep [.ref 139, .int a1] M Q) : ∀ (c : Nat), (∀ (M : z_Mem) (x1 : Int32) (x3 : Int32) (x4 : Int32) (r : Unit) (M' : z_Mem) (Q : Option Value → z_Mem → Prop), L_X12_readStep w G c M x1 x3 x4 = some (r, M') → Q none M' → z_G none (k + 1) mX12_readStep 141 [some (.ref 139), some (.int x1), none, some (.int x3), some (.int x4)] [] M Q) := by
  intro c
  induction c with
  | zero => exact (fun M x1 x3 x4 r M' Q h hq => by rw [L_X12_readStep] at h; cases h)
  | succ c ih =>
    intro M x1 x3 x4 r M' Q h hq
    rw [L_X12_readStep] at h
    refine g_iload_n dX12_readStep_141 rfl rfl ?_
    refine g_if_eq (t := 169) dX12_readStep_142 (by decide) (fun c1 => ?_) (fun c1 => ?_)
    · replace h := z_ift c1 h
      refine g_iload_n dX12_readStep_169 rfl rfl ?_
      refine g_if_eq (t := 191) dX12_readStep_170 (by decide) (fun c2 => ?_) (fun c2 => ?_)
      · replace h := z_ift c2 h
        refine g_aload_n dX12_readStep_191 rfl rfl ?_
        refine g_get (a := 137) (v := .ref 144) dX12_readStep_192 f_12_35 sh_137 rfl rfl ?_
        refine g_iload dX12_readStep_195 rfl ?_
        refine g_bipush (v := (8 : Int32)) dX12_readStep_197 (by decide) ?_
        refine g_iadd dX12_readStep_199 ?_
        refine g_aload_n dX12_readStep_200 rfl rfl ?_
        refine g_get (a := 137) (v := .int (M.1 137 25)) dX12_readStep_201 f_12_322 sh_137 rfl rfl ?_
        by_cases g3 : (x4 + (8 : Int32)) < 0 ∨ 1875 ≤ (x4 + (8 : Int32)).toNatClampNeg
        · rw [if_pos g3] at h; cases h
        replace h := z_iff g3 h
        refine g_iast (a := 142) dX12_readStep_204 sh_142 g3 ?_
        cases h
        exact g_vret dX12_readStep_205 rfl hq
      · replace h := z_iff c2 h
        refine g_aload_n dX12_readStep_173 rfl rfl ?_
        refine g_aload_n dX12_readStep_174 rfl rfl ?_
        obtain ⟨q4, e5, h⟩ := z_bd h
        refine g_callV (a := 137) (as := []) (rest := [.ref 139]) (c := mX12_isEnd) (k1 := 1) dX12_readStep_175 rfl rfl rfl sh_137 rfl rfl (Nat.le_of_ble_eq_true rfl) (Nat.le_of_ble_eq_true rfl) (by omega) ?_
        refine A_X12_isEnd e5 ?_
        show z_G none (k + 1) mX12_readStep 178 [some (.ref 139), some (.int x1), none, some (.int x3), some (.int x4)] [.int (z_tb q4.1), .ref 139] q4.2 Q
        obtain ⟨q6, e7, h⟩ := z_bd h
        refine g_callV (a := 137) (as := [.int (z_tb q4.1)]) (rest := []) (c := mX12_must) (k1 := 2) dX12_readStep_178 rfl rfl rfl sh_137 rfl rfl (Nat.le_of_ble_eq_true rfl) (Nat.le_of_ble_eq_true rfl) (by omega) ?_
        refine A_X12_must e7 ?_
        show z_G none (k + 1) mX12_readStep 181 [some (.ref 139), some (.int x1), none, some (.int x3), some (.int x4)] [] q6.2 Q
        refine g_aload_n dX12_readStep_181 rfl rfl ?_
        refine g_aload_n dX12_readStep_182 rfl rfl ?_
        refine g_bipush (v := (59 : Int32)) dX12_readStep_183 (by decide) ?_
        obtain ⟨q8, e9, h⟩ := z_bd h
        refine g_callV (a := 137) (as := [.int (59 : Int32)]) (rest := [.ref 139]) (c := mX12_isSign) (k1 := 0) dX12_readStep_185 rfl rfl rfl sh_137 rfl rfl (Nat.le_of_ble_eq_true rfl) (Nat.le_of_ble_eq_true rfl) (by omega) ?_
        refine A_X12_isSign e9 ?_
        show z_G none (k + 1) mX12_readStep 188 [some (.ref 139), some (.int x1), none, some (.int x3), some (.int x4)] [.int (z_tb q8.1), .ref 139] q8.2 Q
        obtain ⟨q10, e11, h⟩ := z_bd h
        refine g_callV (a := 137) (as := [.int (z_tb q8.1)]) (rest := []) (c := mX12_must) (k1 := 2) dX12_readStep_188 rfl rfl rfl sh_137 rfl rfl (Nat.le_of_ble_eq_true rfl) (Nat.le_of_ble_eq_true rfl) (by omega) ?_
        refine A_X12_must e11 ?_
        show z_G none (k + 1) mX12_readStep 191 [some (.ref 139), some (.int x1), none, some (.int x3), some (.int x4)] [] q10.2 Q
        refine g_aload_n dX12_readStep_191 rfl rfl ?_
        refine g_get (a := 137) (v := .ref 144) dX12_readStep_192 f_12_35 sh_137 rfl rfl ?_
        refine g_iload dX12_readStep_195 rfl ?_
        refine g_bipush (v := (8 : Int32)) dX12_readStep_197 (by decide) ?_
        refine g_iadd dX12_readStep_199 ?_
        refine g_aload_n dX12_readStep_200 rfl rfl ?_
        refine g_get (a := 137) (v := .int (q10.2.1 137 25)) dX12_readStep_201 f_12_322 sh_137 rfl rfl ?_
        by_cases g12 : (x4 + (8 : Int32)) < 0 ∨ 1875 ≤ (x4 + (8 : Int32)).toNatClampNeg
        · rw [if_pos g12] at h; cases h
        replace h := z_iff g12 h
        refine g_iast (a := 142) dX12_readStep_204 sh_142 g12 ?_
        cases h
        exact g_vret dX12_readStep_205 rfl hq
    · replace h := z_iff c1 h
      refine g_aload_n dX12_readStep_145 rfl rfl ?_
      refine g_get (a := 137) (v := .int (M.1 137 12)) dX12_readStep_146 f_12_212 sh_137 rfl rfl ?_
      refine g_if_ne (t := 169) dX12_readStep_149 (by decide) (fun c13 => ?_) (fun c13 => ?_)
      · replace h := z_iff c13 h
        refine g_iload_n dX12_readStep_169 rfl rfl ?_
        refine g_if_eq (t := 191) dX12_readStep_170 (by decide) (fun c14 => ?_) (fun c14 => ?_)
        · replace h := z_ift c14 h
          refine g_aload_n dX12_readStep_191 rfl rfl ?_
          refine g_get (a := 137) (v := .ref 144) dX12_readStep_192 f_12_35 sh_137 rfl rfl ?_
          refine g_iload dX12_readStep_195 rfl ?_
          refine g_bipush (v := (8 : Int32)) dX12_readStep_197 (by decide) ?_
          refine g_iadd dX12_readStep_199 ?_
          refine g_aload_n dX12_readStep_200 rfl rfl ?_
          refine g_get (a := 137) (v := .int (M.1 137 25)) dX12_readStep_201 f_12_322 sh_137 rfl rfl ?_
          by_cases g15 : (x4 + (8 : Int32)) < 0 ∨ 1875 ≤ (x4 + (8 : Int32)).toNatClampNeg
          · rw [if_pos g15] at h; cases h
          replace h := z_iff g15 h
          refine g_iast (a := 142) dX12_readStep_204 sh_142 g15 ?_
          cases h
          exact g_vret dX12_readStep_205 rfl hq
        · replace h := z_iff c14 h
          refine g_aload_n dX12_readStep_173 rfl rfl ?_
          refine g_aload_n dX12_readStep_174 rfl rfl ?_
          obtain ⟨q16, e17, h⟩ := z_bd h
          refine g_callV (a := 137) (as := []) (rest := [.ref 139]) (c := mX12_isEnd) (k1 := 1) dX12_readStep_175 rfl rfl rfl sh_137 rfl rfl (Nat.le_of_ble_eq_true rfl) (Nat.le_of_ble_eq_true rfl) (by omega) ?_
          refine A_X12_isEnd e17 ?_
          show z_G none (k + 1) mX12_readStep 178 [some (.ref 139), some (.int x1), none, some (.int x3), some (.int x4)] [.int (z_tb q16.1), .ref 139] q16.2 Q
          obtain ⟨q18, e19, h⟩ := z_bd h
          refine g_callV (a := 137) (as := [.int (z_tb q16.1)]) (rest := []) (c := mX12_must) (k1 := 2) dX12_readStep_178 rfl rfl rfl sh_137 rfl rfl (Nat.le_of_ble_eq_true rfl) (Nat.le_of_ble_eq_true rfl) (by omega) ?_
          refine A_X12_must e19 ?_
          show z_G none (k + 1) mX12_readStep 181 [some (.ref 139), some (.int x1), none, some (.int x3), some (.int x4)] [] q18.2 Q
          refine g_aload_n dX12_readStep_181 rfl rfl ?_
          refine g_aload_n dX12_readStep_182 rfl rfl ?_
          refine g_bipush (v := (59 : Int32)) dX12_readStep_183 (by decide) ?_
          obtain ⟨q20, e21, h⟩ := z_bd h
          refine g_callV (a := 137) (as := [.int (59 : Int32)]) (rest := [.ref 139]) (c := mX12_isSign) (k1 := 0) dX12_readStep_185 rfl rfl rfl sh_137 rfl rfl (Nat.le_of_ble_eq_true rfl) (Nat.le_of_ble_eq_true rfl) (by omega) ?_
          refine A_X12_isSign e21 ?_
          show z_G none (k + 1) mX12_readStep 188 [some (.ref 139), some (.int x1), none, some (.int x3), some (.int x4)] [.int (z_tb q20.1), .ref 139] q20.2 Q
          obtain ⟨q22, e23, h⟩ := z_bd h
          refine g_callV (a := 137) (as := [.int (z_tb q20.1)]) (rest := []) (c := mX12_must) (k1 := 2) dX12_readStep_188 rfl rfl rfl sh_137 rfl rfl (Nat.le_of_ble_eq_true rfl) (Nat.le_of_ble_eq_true rfl) (by omega) ?_
          refine A_X12_must e23 ?_
          show z_G none (k + 1) mX12_readStep 191 [some (.ref 139), some (.int x1), none, some (.int x3), some (.int x4)] [] q22.2 Q
          refine g_aload_n dX12_readStep_191 rfl rfl ?_
          refine g_get (a := 137) (v := .ref 144) dX12_readStep_192 f_12_35 sh_137 rfl rfl ?_
          refine g_iload dX12_readStep_195 rfl ?_
          refine g_bipush (v := (8 : Int32)) dX12_readStep_197 (by decide) ?_
          refine g_iadd dX12_readStep_199 ?_
          refine g_aload_n dX12_readStep_200 rfl rfl ?_
          refine g_get (a := 137) (v := .int (q22.2.1 137 25)) dX12_readStep_201 f_12_322 sh_137 rfl rfl ?_
          by_cases g24 : (x4 + (8 : Int32)) < 0 ∨ 1875 ≤ (x4 + (8 : Int32)).toNatClampNeg
          · rw [if_pos g24] at h; cases h
          replace h := z_iff g24 h
          refine g_iast (a := 142) dX12_readStep_204 sh_142 g24 ?_
          cases h
          exact g_vret dX12_readStep_205 rfl hq
      · replace h := z_ift c13 h
        refine g_aload_n dX12_readStep_152 rfl rfl ?_
        obtain ⟨q25, e26, h⟩ := z_bd h
        refine g_callV (a := 137) (as := []) (rest := []) (c := mX12_isEnd) (k1 := 1) dX12_readStep_153 rfl rfl rfl sh_137 rfl rfl (Nat.le_of_ble_eq_true rfl) (Nat.le_of_ble_eq_true rfl) (by omega) ?_
        refine A_X12_isEnd e26 ?_
        show z_G none (k + 1) mX12_readStep 156 [some (.ref 139), some (.int x1), none, some (.int x3), some (.int x4)] [.int (z_tb q25.1)] q25.2 Q
        refine g_if_ne (t := 169) dX12_readStep_156 (by decide) (fun c27 => ?_) (fun c27 => ?_)
        · replace h := z_ift (z_tbn.mp c27) h
          refine g_iload_n dX12_readStep_169 rfl rfl ?_
          refine g_if_eq (t := 191) dX12_readStep_170 (by decide) (fun c28 => ?_) (fun c28 => ?_)
          · replace h := z_ift c28 h
            refine g_aload_n dX12_readStep_191 rfl rfl ?_
            refine g_get (a := 137) (v := .ref 144) dX12_readStep_192 f_12_35 sh_137 rfl rfl ?_
            refine g_iload dX12_readStep_195 rfl ?_
            refine g_bipush (v := (8 : Int32)) dX12_readStep_197 (by decide) ?_
            refine g_iadd dX12_readStep_199 ?_
            refine g_aload_n dX12_readStep_200 rfl rfl ?_
            refine g_get (a := 137) (v := .int (q25.2.1 137 25)) dX12_readStep_201 f_12_322 sh_137 rfl rfl ?_
            by_cases g29 : (x4 + (8 : Int32)) < 0 ∨ 1875 ≤ (x4 + (8 : Int32)).toNatClampNeg
            · rw [if_pos g29] at h; cases h
            replace h := z_iff g29 h
            refine g_iast (a := 142) dX12_readStep_204 sh_142 g29 ?_
            cases h
            exact g_vret dX12_readStep_205 rfl hq
          · replace h := z_iff c28 h
            refine g_aload_n dX12_readStep_173 rfl rfl ?_
            refine g_aload_n dX12_readStep_174 rfl rfl ?_
            obtain ⟨q30, e31, h⟩ := z_bd h
            refine g_callV (a := 137) (as := []) (rest := [.ref 139]) (c := mX12_isEnd) (k1 := 1) dX12_readStep_175 rfl rfl rfl sh_137 rfl rfl (Nat.le_of_ble_eq_true rfl) (Nat.le_of_ble_eq_true rfl) (by omega) ?_
            refine A_X12_isEnd e31 ?_
            show z_G none (k + 1) mX12_readStep 178 [some (.ref 139), some (.int x1), none, some (.int x3), some (.int x4)] [.int (z_tb q30.1), .ref 139] q30.2 Q
            obtain ⟨q32, e33, h⟩ := z_bd h
            refine g_callV (a := 137) (as := [.int (z_tb q30.1)]) (rest := []) (c := mX12_must) (k1 := 2) dX12_readStep_178 rfl rfl rfl sh_137 rfl rfl (Nat.le_of_ble_eq_true rfl) (Nat.le_of_ble_eq_true rfl) (by omega) ?_
            refine A_X12_must e33 ?_
            show z_G none (k + 1) mX12_readStep 181 [some (.ref 139), some (.int x1), none, some (.int x3), some (.int x4)] [] q32.2 Q
            refine g_aload_n dX12_readStep_181 rfl rfl ?_
            refine g_aload_n dX12_readStep_182 rfl rfl ?_
            refine g_bipush (v := (59 : Int32)) dX12_readStep_183 (by decide) ?_
            obtain ⟨q34, e35, h⟩ := z_bd h
            refine g_callV (a := 137) (as := [.int (59 : Int32)]) (rest := [.ref 139]) (c := mX12_isSign) (k1 := 0) dX12_readStep_185 rfl rfl rfl sh_137 rfl rfl (Nat.le_of_ble_eq_true rfl) (Nat.le_of_ble_eq_true rfl) (by omega) ?_
            refine A_X12_isSign e35 ?_
            show z_G none (k + 1) mX12_readStep 188 [some (.ref 139), some (.int x1), none, some (.int x3), some (.int x4)] [.int (z_tb q34.1), .ref 139] q34.2 Q
            obtain ⟨q36, e37, h⟩ := z_bd h
            refine g_callV (a := 137) (as := [.int (z_tb q34.1)]) (rest := []) (c := mX12_must) (k1 := 2) dX12_readStep_188 rfl rfl rfl sh_137 rfl rfl (Nat.le_of_ble_eq_true rfl) (Nat.le_of_ble_eq_true rfl) (by omega) ?_
            refine A_X12_must e37 ?_
            show z_G none (k + 1) mX12_readStep 191 [some (.ref 139), some (.int x1), none, some (.int x3), some (.int x4)] [] q36.2 Q
            refine g_aload_n dX12_readStep_191 rfl rfl ?_
            refine g_get (a := 137) (v := .ref 144) dX12_readStep_192 f_12_35 sh_137 rfl rfl ?_
            refine g_iload dX12_readStep_195 rfl ?_
            refine g_bipush (v := (8 : Int32)) dX12_readStep_197 (by decide) ?_
            refine g_iadd dX12_readStep_199 ?_
            refine g_aload_n dX12_readStep_200 rfl rfl ?_
            refine g_get (a := 137) (v := .int (q36.2.1 137 25)) dX12_readStep_201 f_12_322 sh_137 rfl rfl ?_
            by_cases g38 : (x4 + (8 : Int32)) < 0 ∨ 1875 ≤ (x4 + (8 : Int32)).toNatClampNeg
            · rw [if_pos g38] at h; cases h
            replace h := z_iff g38 h
            refine g_iast (a := 142) dX12_readStep_204 sh_142 g38 ?_
            cases h
            exact g_vret dX12_readStep_205 rfl hq
        · replace h := z_iff (z_tb0.mp c27) h
          refine g_aload_n dX12_readStep_159 rfl rfl ?_
          refine g_iload_n dX12_readStep_160 rfl rfl ?_
          refine g_iconst (v := (1 : Int32)) dX12_readStep_161 (by decide) ?_
          refine g_iadd dX12_readStep_162 ?_
          obtain ⟨q39, e40, h⟩ := z_bd h
          refine g_callV (a := 137) (as := [.int (x1 + (1 : Int32))]) (rest := []) (c := mX12_readStep) (k1 := k) dX12_readStep_163 rfl rfl rfl sh_137 rfl rfl (Nat.le_of_ble_eq_true rfl) (Nat.le_of_ble_eq_true rfl) (by omega) ?_
          refine hG _ _ _ _ _ e40 ?_
          show z_G none (k + 1) mX12_readStep 166 [some (.ref 139), some (.int x1), none, some (.int x3), some (.int x4)] [] q39.2 Q
          refine g_goto (t := 141) dX12_readStep_166 (by decide) ?_
          exact g_sub (z_sub_s (z_sub_s (z_sub_n (z_sub_s (z_sub_s z_sub_nil))))) (ih _ _ _ _ _ _ _ h hq)
def Fb_X12_readStep (w : Nat) (G : z_Mem → Int32 → Option (Unit × z_Mem)) (M : z_Mem) (a1 : Int32) : Option (Unit × z_Mem) :=
  (F_X12_stepWord w M).bind fun q41 =>
  if q41.1 = (5 : Int32) then
  if (0 : Int32) ≤ q41.1 then
  if (q41.2.1 137 12) = (0 : Int32) then
  if (q41.2.1 137 25) = (30 : Int32) then
  (F_X12_fail w q41.2 (6 : Int32) (q41.2.1 137 15)).bind fun q117 =>
  if (q117.2.1 137 12) = (0 : Int32) then
  if a1 = (3 : Int32) then
  (F_X12_fail w q117.2 (7 : Int32) (q117.2.1 137 15)).bind fun q142 =>
  if (q142.2.1 137 12) ≤ (0 : Int32) then
  (F_X12_advance w (z_wI q142.2 137 25 ((q142.2.1 137 25) + (1 : Int32)))).bind fun q145 =>
  if ((1605 : Int32) + ((9 : Int32) * (q142.2.1 137 25))) < 0 ∨ 1875 ≤ ((1605 : Int32) + ((9 : Int32) * (q142.2.1 137 25))).toNatClampNeg then none else
  (F_X12_readRest w (z_wI q145.2 142 (((1605 : Int32) + ((9 : Int32) * (q142.2.1 137 25))).toNatClampNeg) q41.1) ((1605 : Int32) + ((9 : Int32) * (q142.2.1 137 25)))).bind fun q148 =>
  (F_X12_isSign w q148.2 (59 : Int32)).bind fun q150 =>
  (F_X12_must w q150.2 (z_tb q150.1)).bind fun q152 =>
  L_X12_readStep w G w q152.2 a1 (1 : Int32) ((1605 : Int32) + ((9 : Int32) * (q142.2.1 137 25)))
  else
  some ((), q142.2)
  else
  if (q117.2.1 137 12) ≤ (0 : Int32) then
  (F_X12_advance w (z_wI q117.2 137 25 ((q117.2.1 137 25) + (1 : Int32)))).bind fun q133 =>
  if ((1605 : Int32) + ((9 : Int32) * (q117.2.1 137 25))) < 0 ∨ 1875 ≤ ((1605 : Int32) + ((9 : Int32) * (q117.2.1 137 25))).toNatClampNeg then none else
  (F_X12_readRest w (z_wI q133.2 142 (((1605 : Int32) + ((9 : Int32) * (q117.2.1 137 25))).toNatClampNeg) q41.1) ((1605 : Int32) + ((9 : Int32) * (q117.2.1 137 25)))).bind fun q136 =>
  (F_X12_isSign w q136.2 (59 : Int32)).bind fun q138 =>
  (F_X12_must w q138.2 (z_tb q138.1)).bind fun q140 =>
  L_X12_readStep w G w q140.2 a1 (1 : Int32) ((1605 : Int32) + ((9 : Int32) * (q117.2.1 137 25)))
  else
  some ((), q117.2)
  else
  if (q117.2.1 137 12) ≤ (0 : Int32) then
  (F_X12_advance w (z_wI q117.2 137 25 ((q117.2.1 137 25) + (1 : Int32)))).bind fun q121 =>
  if ((1605 : Int32) + ((9 : Int32) * (q117.2.1 137 25))) < 0 ∨ 1875 ≤ ((1605 : Int32) + ((9 : Int32) * (q117.2.1 137 25))).toNatClampNeg then none else
  (F_X12_readRest w (z_wI q121.2 142 (((1605 : Int32) + ((9 : Int32) * (q117.2.1 137 25))).toNatClampNeg) q41.1) ((1605 : Int32) + ((9 : Int32) * (q117.2.1 137 25)))).bind fun q124 =>
  (F_X12_isSign w q124.2 (59 : Int32)).bind fun q126 =>
  (F_X12_must w q126.2 (z_tb q126.1)).bind fun q128 =>
  L_X12_readStep w G w q128.2 a1 (1 : Int32) ((1605 : Int32) + ((9 : Int32) * (q117.2.1 137 25)))
  else
  some ((), q117.2)
  else
  if (q41.2.1 137 12) = (0 : Int32) then
  if a1 = (3 : Int32) then
  (F_X12_fail w q41.2 (7 : Int32) (q41.2.1 137 15)).bind fun q105 =>
  if (q105.2.1 137 12) ≤ (0 : Int32) then
  (F_X12_advance w (z_wI q105.2 137 25 ((q105.2.1 137 25) + (1 : Int32)))).bind fun q108 =>
  if ((1605 : Int32) + ((9 : Int32) * (q105.2.1 137 25))) < 0 ∨ 1875 ≤ ((1605 : Int32) + ((9 : Int32) * (q105.2.1 137 25))).toNatClampNeg then none else
  (F_X12_readRest w (z_wI q108.2 142 (((1605 : Int32) + ((9 : Int32) * (q105.2.1 137 25))).toNatClampNeg) q41.1) ((1605 : Int32) + ((9 : Int32) * (q105.2.1 137 25)))).bind fun q111 =>
  (F_X12_isSign w q111.2 (59 : Int32)).bind fun q113 =>
  (F_X12_must w q113.2 (z_tb q113.1)).bind fun q115 =>
  L_X12_readStep w G w q115.2 a1 (1 : Int32) ((1605 : Int32) + ((9 : Int32) * (q105.2.1 137 25)))
  else
  some ((), q105.2)
  else
  if (q41.2.1 137 12) ≤ (0 : Int32) then
  (F_X12_advance w (z_wI q41.2 137 25 ((q41.2.1 137 25) + (1 : Int32)))).bind fun q96 =>
  if ((1605 : Int32) + ((9 : Int32) * (q41.2.1 137 25))) < 0 ∨ 1875 ≤ ((1605 : Int32) + ((9 : Int32) * (q41.2.1 137 25))).toNatClampNeg then none else
  (F_X12_readRest w (z_wI q96.2 142 (((1605 : Int32) + ((9 : Int32) * (q41.2.1 137 25))).toNatClampNeg) q41.1) ((1605 : Int32) + ((9 : Int32) * (q41.2.1 137 25)))).bind fun q99 =>
  (F_X12_isSign w q99.2 (59 : Int32)).bind fun q101 =>
  (F_X12_must w q101.2 (z_tb q101.1)).bind fun q103 =>
  L_X12_readStep w G w q103.2 a1 (1 : Int32) ((1605 : Int32) + ((9 : Int32) * (q41.2.1 137 25)))
  else
  some ((), q41.2)
  else
  if (q41.2.1 137 12) ≤ (0 : Int32) then
  (F_X12_advance w (z_wI q41.2 137 25 ((q41.2.1 137 25) + (1 : Int32)))).bind fun q84 =>
  if ((1605 : Int32) + ((9 : Int32) * (q41.2.1 137 25))) < 0 ∨ 1875 ≤ ((1605 : Int32) + ((9 : Int32) * (q41.2.1 137 25))).toNatClampNeg then none else
  (F_X12_readRest w (z_wI q84.2 142 (((1605 : Int32) + ((9 : Int32) * (q41.2.1 137 25))).toNatClampNeg) q41.1) ((1605 : Int32) + ((9 : Int32) * (q41.2.1 137 25)))).bind fun q87 =>
  (F_X12_isSign w q87.2 (59 : Int32)).bind fun q89 =>
  (F_X12_must w q89.2 (z_tb q89.1)).bind fun q91 =>
  L_X12_readStep w G w q91.2 a1 (1 : Int32) ((1605 : Int32) + ((9 : Int32) * (q41.2.1 137 25)))
  else
  some ((), q41.2)
  else
  if (q41.2.1 137 12) = (0 : Int32) then
  if a1 = (3 : Int32) then
  (F_X12_fail w q41.2 (7 : Int32) (q41.2.1 137 15)).bind fun q69 =>
  if (q69.2.1 137 12) ≤ (0 : Int32) then
  (F_X12_advance w (z_wI q69.2 137 25 ((q69.2.1 137 25) + (1 : Int32)))).bind fun q72 =>
  if ((1605 : Int32) + ((9 : Int32) * (q69.2.1 137 25))) < 0 ∨ 1875 ≤ ((1605 : Int32) + ((9 : Int32) * (q69.2.1 137 25))).toNatClampNeg then none else
  (F_X12_readRest w (z_wI q72.2 142 (((1605 : Int32) + ((9 : Int32) * (q69.2.1 137 25))).toNatClampNeg) q41.1) ((1605 : Int32) + ((9 : Int32) * (q69.2.1 137 25)))).bind fun q75 =>
  (F_X12_isSign w q75.2 (59 : Int32)).bind fun q77 =>
  (F_X12_must w q77.2 (z_tb q77.1)).bind fun q79 =>
  L_X12_readStep w G w q79.2 a1 (1 : Int32) ((1605 : Int32) + ((9 : Int32) * (q69.2.1 137 25)))
  else
  some ((), q69.2)
  else
  if (q41.2.1 137 12) ≤ (0 : Int32) then
  (F_X12_advance w (z_wI q41.2 137 25 ((q41.2.1 137 25) + (1 : Int32)))).bind fun q60 =>
  if ((1605 : Int32) + ((9 : Int32) * (q41.2.1 137 25))) < 0 ∨ 1875 ≤ ((1605 : Int32) + ((9 : Int32) * (q41.2.1 137 25))).toNatClampNeg then none else
  (F_X12_readRest w (z_wI q60.2 142 (((1605 : Int32) + ((9 : Int32) * (q41.2.1 137 25))).toNatClampNeg) q41.1) ((1605 : Int32) + ((9 : Int32) * (q41.2.1 137 25)))).bind fun q63 =>
  (F_X12_isSign w q63.2 (59 : Int32)).bind fun q65 =>
  (F_X12_must w q65.2 (z_tb q65.1)).bind fun q67 =>
  L_X12_readStep w G w q67.2 a1 (1 : Int32) ((1605 : Int32) + ((9 : Int32) * (q41.2.1 137 25)))
  else
  some ((), q41.2)
  else
  if (q41.2.1 137 12) ≤ (0 : Int32) then
  (F_X12_advance w (z_wI q41.2 137 25 ((q41.2.1 137 25) + (1 : Int32)))).bind fun q48 =>
  if ((1605 : Int32) + ((9 : Int32) * (q41.2.1 137 25))) < 0 ∨ 1875 ≤ ((1605 : Int32) + ((9 : Int32) * (q41.2.1 137 25))).toNatClampNeg then none else
  (F_X12_readRest w (z_wI q48.2 142 (((1605 : Int32) + ((9 : Int32) * (q41.2.1 137 25))).toNatClampNeg) q41.1) ((1605 : Int32) + ((9 : Int32) * (q41.2.1 137 25)))).bind fun q51 =>
  (F_X12_isSign w q51.2 (59 : Int32)).bind fun q53 =>
  (F_X12_must w q53.2 (z_tb q53.1)).bind fun q55 =>
  L_X12_readStep w G w q55.2 a1 (1 : Int32) ((1605 : Int32) + ((9 : Int32) * (q41.2.1 137 25)))
  else
  some ((), q41.2)
  else
  (F_X12_amiss w q41.2).bind fun q154 =>
  if (q154.2.1 137 12) = (0 : Int32) then
  if (q154.2.1 137 25) = (30 : Int32) then
  (F_X12_fail w q154.2 (6 : Int32) (q154.2.1 137 15)).bind fun q228 =>
  if (q228.2.1 137 12) = (0 : Int32) then
  if a1 = (3 : Int32) then
  (F_X12_fail w q228.2 (7 : Int32) (q228.2.1 137 15)).bind fun q253 =>
  if (q253.2.1 137 12) ≤ (0 : Int32) then
  (F_X12_advance w (z_wI q253.2 137 25 ((q253.2.1 137 25) + (1 : Int32)))).bind fun q256 =>
  if ((1605 : Int32) + ((9 : Int32) * (q253.2.1 137 25))) < 0 ∨ 1875 ≤ ((1605 : Int32) + ((9 : Int32) * (q253.2.1 137 25))).toNatClampNeg then none else
  (F_X12_readRest w (z_wI q256.2 142 (((1605 : Int32) + ((9 : Int32) * (q253.2.1 137 25))).toNatClampNeg) q41.1) ((1605 : Int32) + ((9 : Int32) * (q253.2.1 137 25)))).bind fun q259 =>
  (F_X12_isSign w q259.2 (59 : Int32)).bind fun q261 =>
  (F_X12_must w q261.2 (z_tb q261.1)).bind fun q263 =>
  L_X12_readStep w G w q263.2 a1 (1 : Int32) ((1605 : Int32) + ((9 : Int32) * (q253.2.1 137 25)))
  else
  some ((), q253.2)
  else
  if (q228.2.1 137 12) ≤ (0 : Int32) then
  (F_X12_advance w (z_wI q228.2 137 25 ((q228.2.1 137 25) + (1 : Int32)))).bind fun q244 =>
  if ((1605 : Int32) + ((9 : Int32) * (q228.2.1 137 25))) < 0 ∨ 1875 ≤ ((1605 : Int32) + ((9 : Int32) * (q228.2.1 137 25))).toNatClampNeg then none else
  (F_X12_readRest w (z_wI q244.2 142 (((1605 : Int32) + ((9 : Int32) * (q228.2.1 137 25))).toNatClampNeg) q41.1) ((1605 : Int32) + ((9 : Int32) * (q228.2.1 137 25)))).bind fun q247 =>
  (F_X12_isSign w q247.2 (59 : Int32)).bind fun q249 =>
  (F_X12_must w q249.2 (z_tb q249.1)).bind fun q251 =>
  L_X12_readStep w G w q251.2 a1 (1 : Int32) ((1605 : Int32) + ((9 : Int32) * (q228.2.1 137 25)))
  else
  some ((), q228.2)
  else
  if (q228.2.1 137 12) ≤ (0 : Int32) then
  (F_X12_advance w (z_wI q228.2 137 25 ((q228.2.1 137 25) + (1 : Int32)))).bind fun q232 =>
  if ((1605 : Int32) + ((9 : Int32) * (q228.2.1 137 25))) < 0 ∨ 1875 ≤ ((1605 : Int32) + ((9 : Int32) * (q228.2.1 137 25))).toNatClampNeg then none else
  (F_X12_readRest w (z_wI q232.2 142 (((1605 : Int32) + ((9 : Int32) * (q228.2.1 137 25))).toNatClampNeg) q41.1) ((1605 : Int32) + ((9 : Int32) * (q228.2.1 137 25)))).bind fun q235 =>
  (F_X12_isSign w q235.2 (59 : Int32)).bind fun q237 =>
  (F_X12_must w q237.2 (z_tb q237.1)).bind fun q239 =>
  L_X12_readStep w G w q239.2 a1 (1 : Int32) ((1605 : Int32) + ((9 : Int32) * (q228.2.1 137 25)))
  else
  some ((), q228.2)
  else
  if (q154.2.1 137 12) = (0 : Int32) then
  if a1 = (3 : Int32) then
  (F_X12_fail w q154.2 (7 : Int32) (q154.2.1 137 15)).bind fun q216 =>
  if (q216.2.1 137 12) ≤ (0 : Int32) then
  (F_X12_advance w (z_wI q216.2 137 25 ((q216.2.1 137 25) + (1 : Int32)))).bind fun q219 =>
  if ((1605 : Int32) + ((9 : Int32) * (q216.2.1 137 25))) < 0 ∨ 1875 ≤ ((1605 : Int32) + ((9 : Int32) * (q216.2.1 137 25))).toNatClampNeg then none else
  (F_X12_readRest w (z_wI q219.2 142 (((1605 : Int32) + ((9 : Int32) * (q216.2.1 137 25))).toNatClampNeg) q41.1) ((1605 : Int32) + ((9 : Int32) * (q216.2.1 137 25)))).bind fun q222 =>
  (F_X12_isSign w q222.2 (59 : Int32)).bind fun q224 =>
  (F_X12_must w q224.2 (z_tb q224.1)).bind fun q226 =>
  L_X12_readStep w G w q226.2 a1 (1 : Int32) ((1605 : Int32) + ((9 : Int32) * (q216.2.1 137 25)))
  else
  some ((), q216.2)
  else
  if (q154.2.1 137 12) ≤ (0 : Int32) then
  (F_X12_advance w (z_wI q154.2 137 25 ((q154.2.1 137 25) + (1 : Int32)))).bind fun q207 =>
  if ((1605 : Int32) + ((9 : Int32) * (q154.2.1 137 25))) < 0 ∨ 1875 ≤ ((1605 : Int32) + ((9 : Int32) * (q154.2.1 137 25))).toNatClampNeg then none else
  (F_X12_readRest w (z_wI q207.2 142 (((1605 : Int32) + ((9 : Int32) * (q154.2.1 137 25))).toNatClampNeg) q41.1) ((1605 : Int32) + ((9 : Int32) * (q154.2.1 137 25)))).bind fun q210 =>
  (F_X12_isSign w q210.2 (59 : Int32)).bind fun q212 =>
  (F_X12_must w q212.2 (z_tb q212.1)).bind fun q214 =>
  L_X12_readStep w G w q214.2 a1 (1 : Int32) ((1605 : Int32) + ((9 : Int32) * (q154.2.1 137 25)))
  else
  some ((), q154.2)
  else
  if (q154.2.1 137 12) ≤ (0 : Int32) then
  (F_X12_advance w (z_wI q154.2 137 25 ((q154.2.1 137 25) + (1 : Int32)))).bind fun q195 =>
  if ((1605 : Int32) + ((9 : Int32) * (q154.2.1 137 25))) < 0 ∨ 1875 ≤ ((1605 : Int32) + ((9 : Int32) * (q154.2.1 137 25))).toNatClampNeg then none else
  (F_X12_readRest w (z_wI q195.2 142 (((1605 : Int32) + ((9 : Int32) * (q154.2.1 137 25))).toNatClampNeg) q41.1) ((1605 : Int32) + ((9 : Int32) * (q154.2.1 137 25)))).bind fun q198 =>
  (F_X12_isSign w q198.2 (59 : Int32)).bind fun q200 =>
  (F_X12_must w q200.2 (z_tb q200.1)).bind fun q202 =>
  L_X12_readStep w G w q202.2 a1 (1 : Int32) ((1605 : Int32) + ((9 : Int32) * (q154.2.1 137 25)))
  else
  some ((), q154.2)
  else
  if (q154.2.1 137 12) = (0 : Int32) then
  if a1 = (3 : Int32) then
  (F_X12_fail w q154.2 (7 : Int32) (q154.2.1 137 15)).bind fun q180 =>
  if (q180.2.1 137 12) ≤ (0 : Int32) then
  (F_X12_advance w (z_wI q180.2 137 25 ((q180.2.1 137 25) + (1 : Int32)))).bind fun q183 =>
  if ((1605 : Int32) + ((9 : Int32) * (q180.2.1 137 25))) < 0 ∨ 1875 ≤ ((1605 : Int32) + ((9 : Int32) * (q180.2.1 137 25))).toNatClampNeg then none else
  (F_X12_readRest w (z_wI q183.2 142 (((1605 : Int32) + ((9 : Int32) * (q180.2.1 137 25))).toNatClampNeg) q41.1) ((1605 : Int32) + ((9 : Int32) * (q180.2.1 137 25)))).bind fun q186 =>
  (F_X12_isSign w q186.2 (59 : Int32)).bind fun q188 =>
  (F_X12_must w q188.2 (z_tb q188.1)).bind fun q190 =>
  L_X12_readStep w G w q190.2 a1 (1 : Int32) ((1605 : Int32) + ((9 : Int32) * (q180.2.1 137 25)))
  else
  some ((), q180.2)
  else
  if (q154.2.1 137 12) ≤ (0 : Int32) then
  (F_X12_advance w (z_wI q154.2 137 25 ((q154.2.1 137 25) + (1 : Int32)))).bind fun q171 =>
  if ((1605 : Int32) + ((9 : Int32) * (q154.2.1 137 25))) < 0 ∨ 1875 ≤ ((1605 : Int32) + ((9 : Int32) * (q154.2.1 137 25))).toNatClampNeg then none else
  (F_X12_readRest w (z_wI q171.2 142 (((1605 : Int32) + ((9 : Int32) * (q154.2.1 137 25))).toNatClampNeg) q41.1) ((1605 : Int32) + ((9 : Int32) * (q154.2.1 137 25)))).bind fun q174 =>
  (F_X12_isSign w q174.2 (59 : Int32)).bind fun q176 =>
  (F_X12_must w q176.2 (z_tb q176.1)).bind fun q178 =>
  L_X12_readStep w G w q178.2 a1 (1 : Int32) ((1605 : Int32) + ((9 : Int32) * (q154.2.1 137 25)))
  else
  some ((), q154.2)
  else
  if (q154.2.1 137 12) ≤ (0 : Int32) then
  (F_X12_advance w (z_wI q154.2 137 25 ((q154.2.1 137 25) + (1 : Int32)))).bind fun q159 =>
  if ((1605 : Int32) + ((9 : Int32) * (q154.2.1 137 25))) < 0 ∨ 1875 ≤ ((1605 : Int32) + ((9 : Int32) * (q154.2.1 137 25))).toNatClampNeg then none else
  (F_X12_readRest w (z_wI q159.2 142 (((1605 : Int32) + ((9 : Int32) * (q154.2.1 137 25))).toNatClampNeg) q41.1) ((1605 : Int32) + ((9 : Int32) * (q154.2.1 137 25)))).bind fun q162 =>
  (F_X12_isSign w q162.2 (59 : Int32)).bind fun q164 =>
  (F_X12_must w q164.2 (z_tb q164.1)).bind fun q166 =>
  L_X12_readStep w G w q166.2 a1 (1 : Int32) ((1605 : Int32) + ((9 : Int32) * (q154.2.1 137 25)))
  else
  some ((), q154.2)
  else
  if q41.1 = (6 : Int32) then
  if (0 : Int32) ≤ q41.1 then
  if (q41.2.1 137 12) = (0 : Int32) then
  if (q41.2.1 137 25) = (30 : Int32) then
  (F_X12_fail w q41.2 (6 : Int32) (q41.2.1 137 15)).bind fun q482 =>
  if (q482.2.1 137 12) = (0 : Int32) then
  if a1 = (3 : Int32) then
  (F_X12_fail w q482.2 (7 : Int32) (q482.2.1 137 15)).bind fun q507 =>
  if (q507.2.1 137 12) ≤ (0 : Int32) then
  (F_X12_advance w (z_wI q507.2 137 25 ((q507.2.1 137 25) + (1 : Int32)))).bind fun q510 =>
  if ((1605 : Int32) + ((9 : Int32) * (q507.2.1 137 25))) < 0 ∨ 1875 ≤ ((1605 : Int32) + ((9 : Int32) * (q507.2.1 137 25))).toNatClampNeg then none else
  (F_X12_readRest w (z_wI q510.2 142 (((1605 : Int32) + ((9 : Int32) * (q507.2.1 137 25))).toNatClampNeg) q41.1) ((1605 : Int32) + ((9 : Int32) * (q507.2.1 137 25)))).bind fun q513 =>
  (F_X12_isSign w q513.2 (59 : Int32)).bind fun q515 =>
  (F_X12_must w q515.2 (z_tb q515.1)).bind fun q517 =>
  L_X12_readStep w G w q517.2 a1 (1 : Int32) ((1605 : Int32) + ((9 : Int32) * (q507.2.1 137 25)))
  else
  some ((), q507.2)
  else
  if (q482.2.1 137 12) ≤ (0 : Int32) then
  (F_X12_advance w (z_wI q482.2 137 25 ((q482.2.1 137 25) + (1 : Int32)))).bind fun q498 =>
  if ((1605 : Int32) + ((9 : Int32) * (q482.2.1 137 25))) < 0 ∨ 1875 ≤ ((1605 : Int32) + ((9 : Int32) * (q482.2.1 137 25))).toNatClampNeg then none else
  (F_X12_readRest w (z_wI q498.2 142 (((1605 : Int32) + ((9 : Int32) * (q482.2.1 137 25))).toNatClampNeg) q41.1) ((1605 : Int32) + ((9 : Int32) * (q482.2.1 137 25)))).bind fun q501 =>
  (F_X12_isSign w q501.2 (59 : Int32)).bind fun q503 =>
  (F_X12_must w q503.2 (z_tb q503.1)).bind fun q505 =>
  L_X12_readStep w G w q505.2 a1 (1 : Int32) ((1605 : Int32) + ((9 : Int32) * (q482.2.1 137 25)))
  else
  some ((), q482.2)
  else
  if (q482.2.1 137 12) ≤ (0 : Int32) then
  (F_X12_advance w (z_wI q482.2 137 25 ((q482.2.1 137 25) + (1 : Int32)))).bind fun q486 =>
  if ((1605 : Int32) + ((9 : Int32) * (q482.2.1 137 25))) < 0 ∨ 1875 ≤ ((1605 : Int32) + ((9 : Int32) * (q482.2.1 137 25))).toNatClampNeg then none else
  (F_X12_readRest w (z_wI q486.2 142 (((1605 : Int32) + ((9 : Int32) * (q482.2.1 137 25))).toNatClampNeg) q41.1) ((1605 : Int32) + ((9 : Int32) * (q482.2.1 137 25)))).bind fun q489 =>
  (F_X12_isSign w q489.2 (59 : Int32)).bind fun q491 =>
  (F_X12_must w q491.2 (z_tb q491.1)).bind fun q493 =>
  L_X12_readStep w G w q493.2 a1 (1 : Int32) ((1605 : Int32) + ((9 : Int32) * (q482.2.1 137 25)))
  else
  some ((), q482.2)
  else
  if (q41.2.1 137 12) = (0 : Int32) then
  if a1 = (3 : Int32) then
  (F_X12_fail w q41.2 (7 : Int32) (q41.2.1 137 15)).bind fun q470 =>
  if (q470.2.1 137 12) ≤ (0 : Int32) then
  (F_X12_advance w (z_wI q470.2 137 25 ((q470.2.1 137 25) + (1 : Int32)))).bind fun q473 =>
  if ((1605 : Int32) + ((9 : Int32) * (q470.2.1 137 25))) < 0 ∨ 1875 ≤ ((1605 : Int32) + ((9 : Int32) * (q470.2.1 137 25))).toNatClampNeg then none else
  (F_X12_readRest w (z_wI q473.2 142 (((1605 : Int32) + ((9 : Int32) * (q470.2.1 137 25))).toNatClampNeg) q41.1) ((1605 : Int32) + ((9 : Int32) * (q470.2.1 137 25)))).bind fun q476 =>
  (F_X12_isSign w q476.2 (59 : Int32)).bind fun q478 =>
  (F_X12_must w q478.2 (z_tb q478.1)).bind fun q480 =>
  L_X12_readStep w G w q480.2 a1 (1 : Int32) ((1605 : Int32) + ((9 : Int32) * (q470.2.1 137 25)))
  else
  some ((), q470.2)
  else
  if (q41.2.1 137 12) ≤ (0 : Int32) then
  (F_X12_advance w (z_wI q41.2 137 25 ((q41.2.1 137 25) + (1 : Int32)))).bind fun q461 =>
  if ((1605 : Int32) + ((9 : Int32) * (q41.2.1 137 25))) < 0 ∨ 1875 ≤ ((1605 : Int32) + ((9 : Int32) * (q41.2.1 137 25))).toNatClampNeg then none else
  (F_X12_readRest w (z_wI q461.2 142 (((1605 : Int32) + ((9 : Int32) * (q41.2.1 137 25))).toNatClampNeg) q41.1) ((1605 : Int32) + ((9 : Int32) * (q41.2.1 137 25)))).bind fun q464 =>
  (F_X12_isSign w q464.2 (59 : Int32)).bind fun q466 =>
  (F_X12_must w q466.2 (z_tb q466.1)).bind fun q468 =>
  L_X12_readStep w G w q468.2 a1 (1 : Int32) ((1605 : Int32) + ((9 : Int32) * (q41.2.1 137 25)))
  else
  some ((), q41.2)
  else
  if (q41.2.1 137 12) ≤ (0 : Int32) then
  (F_X12_advance w (z_wI q41.2 137 25 ((q41.2.1 137 25) + (1 : Int32)))).bind fun q449 =>
  if ((1605 : Int32) + ((9 : Int32) * (q41.2.1 137 25))) < 0 ∨ 1875 ≤ ((1605 : Int32) + ((9 : Int32) * (q41.2.1 137 25))).toNatClampNeg then none else
  (F_X12_readRest w (z_wI q449.2 142 (((1605 : Int32) + ((9 : Int32) * (q41.2.1 137 25))).toNatClampNeg) q41.1) ((1605 : Int32) + ((9 : Int32) * (q41.2.1 137 25)))).bind fun q452 =>
  (F_X12_isSign w q452.2 (59 : Int32)).bind fun q454 =>
  (F_X12_must w q454.2 (z_tb q454.1)).bind fun q456 =>
  L_X12_readStep w G w q456.2 a1 (1 : Int32) ((1605 : Int32) + ((9 : Int32) * (q41.2.1 137 25)))
  else
  some ((), q41.2)
  else
  if (q41.2.1 137 12) = (0 : Int32) then
  if a1 = (3 : Int32) then
  (F_X12_fail w q41.2 (7 : Int32) (q41.2.1 137 15)).bind fun q434 =>
  if (q434.2.1 137 12) ≤ (0 : Int32) then
  (F_X12_advance w (z_wI q434.2 137 25 ((q434.2.1 137 25) + (1 : Int32)))).bind fun q437 =>
  if ((1605 : Int32) + ((9 : Int32) * (q434.2.1 137 25))) < 0 ∨ 1875 ≤ ((1605 : Int32) + ((9 : Int32) * (q434.2.1 137 25))).toNatClampNeg then none else
  (F_X12_readRest w (z_wI q437.2 142 (((1605 : Int32) + ((9 : Int32) * (q434.2.1 137 25))).toNatClampNeg) q41.1) ((1605 : Int32) + ((9 : Int32) * (q434.2.1 137 25)))).bind fun q440 =>
  (F_X12_isSign w q440.2 (59 : Int32)).bind fun q442 =>
  (F_X12_must w q442.2 (z_tb q442.1)).bind fun q444 =>
  L_X12_readStep w G w q444.2 a1 (1 : Int32) ((1605 : Int32) + ((9 : Int32) * (q434.2.1 137 25)))
  else
  some ((), q434.2)
  else
  if (q41.2.1 137 12) ≤ (0 : Int32) then
  (F_X12_advance w (z_wI q41.2 137 25 ((q41.2.1 137 25) + (1 : Int32)))).bind fun q425 =>
  if ((1605 : Int32) + ((9 : Int32) * (q41.2.1 137 25))) < 0 ∨ 1875 ≤ ((1605 : Int32) + ((9 : Int32) * (q41.2.1 137 25))).toNatClampNeg then none else
  (F_X12_readRest w (z_wI q425.2 142 (((1605 : Int32) + ((9 : Int32) * (q41.2.1 137 25))).toNatClampNeg) q41.1) ((1605 : Int32) + ((9 : Int32) * (q41.2.1 137 25)))).bind fun q428 =>
  (F_X12_isSign w q428.2 (59 : Int32)).bind fun q430 =>
  (F_X12_must w q430.2 (z_tb q430.1)).bind fun q432 =>
  L_X12_readStep w G w q432.2 a1 (1 : Int32) ((1605 : Int32) + ((9 : Int32) * (q41.2.1 137 25)))
  else
  some ((), q41.2)
  else
  if (q41.2.1 137 12) ≤ (0 : Int32) then
  (F_X12_advance w (z_wI q41.2 137 25 ((q41.2.1 137 25) + (1 : Int32)))).bind fun q413 =>
  if ((1605 : Int32) + ((9 : Int32) * (q41.2.1 137 25))) < 0 ∨ 1875 ≤ ((1605 : Int32) + ((9 : Int32) * (q41.2.1 137 25))).toNatClampNeg then none else
  (F_X12_readRest w (z_wI q413.2 142 (((1605 : Int32) + ((9 : Int32) * (q41.2.1 137 25))).toNatClampNeg) q41.1) ((1605 : Int32) + ((9 : Int32) * (q41.2.1 137 25)))).bind fun q416 =>
  (F_X12_isSign w q416.2 (59 : Int32)).bind fun q418 =>
  (F_X12_must w q418.2 (z_tb q418.1)).bind fun q420 =>
  L_X12_readStep w G w q420.2 a1 (1 : Int32) ((1605 : Int32) + ((9 : Int32) * (q41.2.1 137 25)))
  else
  some ((), q41.2)
  else
  (F_X12_amiss w q41.2).bind fun q519 =>
  if (q519.2.1 137 12) = (0 : Int32) then
  if (q519.2.1 137 25) = (30 : Int32) then
  (F_X12_fail w q519.2 (6 : Int32) (q519.2.1 137 15)).bind fun q593 =>
  if (q593.2.1 137 12) = (0 : Int32) then
  if a1 = (3 : Int32) then
  (F_X12_fail w q593.2 (7 : Int32) (q593.2.1 137 15)).bind fun q618 =>
  if (q618.2.1 137 12) ≤ (0 : Int32) then
  (F_X12_advance w (z_wI q618.2 137 25 ((q618.2.1 137 25) + (1 : Int32)))).bind fun q621 =>
  if ((1605 : Int32) + ((9 : Int32) * (q618.2.1 137 25))) < 0 ∨ 1875 ≤ ((1605 : Int32) + ((9 : Int32) * (q618.2.1 137 25))).toNatClampNeg then none else
  (F_X12_readRest w (z_wI q621.2 142 (((1605 : Int32) + ((9 : Int32) * (q618.2.1 137 25))).toNatClampNeg) q41.1) ((1605 : Int32) + ((9 : Int32) * (q618.2.1 137 25)))).bind fun q624 =>
  (F_X12_isSign w q624.2 (59 : Int32)).bind fun q626 =>
  (F_X12_must w q626.2 (z_tb q626.1)).bind fun q628 =>
  L_X12_readStep w G w q628.2 a1 (1 : Int32) ((1605 : Int32) + ((9 : Int32) * (q618.2.1 137 25)))
  else
  some ((), q618.2)
  else
  if (q593.2.1 137 12) ≤ (0 : Int32) then
  (F_X12_advance w (z_wI q593.2 137 25 ((q593.2.1 137 25) + (1 : Int32)))).bind fun q609 =>
  if ((1605 : Int32) + ((9 : Int32) * (q593.2.1 137 25))) < 0 ∨ 1875 ≤ ((1605 : Int32) + ((9 : Int32) * (q593.2.1 137 25))).toNatClampNeg then none else
  (F_X12_readRest w (z_wI q609.2 142 (((1605 : Int32) + ((9 : Int32) * (q593.2.1 137 25))).toNatClampNeg) q41.1) ((1605 : Int32) + ((9 : Int32) * (q593.2.1 137 25)))).bind fun q612 =>
  (F_X12_isSign w q612.2 (59 : Int32)).bind fun q614 =>
  (F_X12_must w q614.2 (z_tb q614.1)).bind fun q616 =>
  L_X12_readStep w G w q616.2 a1 (1 : Int32) ((1605 : Int32) + ((9 : Int32) * (q593.2.1 137 25)))
  else
  some ((), q593.2)
  else
  if (q593.2.1 137 12) ≤ (0 : Int32) then
  (F_X12_advance w (z_wI q593.2 137 25 ((q593.2.1 137 25) + (1 : Int32)))).bind fun q597 =>
  if ((1605 : Int32) + ((9 : Int32) * (q593.2.1 137 25))) < 0 ∨ 1875 ≤ ((1605 : Int32) + ((9 : Int32) * (q593.2.1 137 25))).toNatClampNeg then none else
  (F_X12_readRest w (z_wI q597.2 142 (((1605 : Int32) + ((9 : Int32) * (q593.2.1 137 25))).toNatClampNeg) q41.1) ((1605 : Int32) + ((9 : Int32) * (q593.2.1 137 25)))).bind fun q600 =>
  (F_X12_isSign w q600.2 (59 : Int32)).bind fun q602 =>
  (F_X12_must w q602.2 (z_tb q602.1)).bind fun q604 =>
  L_X12_readStep w G w q604.2 a1 (1 : Int32) ((1605 : Int32) + ((9 : Int32) * (q593.2.1 137 25)))
  else
  some ((), q593.2)
  else
  if (q519.2.1 137 12) = (0 : Int32) then
  if a1 = (3 : Int32) then
  (F_X12_fail w q519.2 (7 : Int32) (q519.2.1 137 15)).bind fun q581 =>
  if (q581.2.1 137 12) ≤ (0 : Int32) then
  (F_X12_advance w (z_wI q581.2 137 25 ((q581.2.1 137 25) + (1 : Int32)))).bind fun q584 =>
  if ((1605 : Int32) + ((9 : Int32) * (q581.2.1 137 25))) < 0 ∨ 1875 ≤ ((1605 : Int32) + ((9 : Int32) * (q581.2.1 137 25))).toNatClampNeg then none else
  (F_X12_readRest w (z_wI q584.2 142 (((1605 : Int32) + ((9 : Int32) * (q581.2.1 137 25))).toNatClampNeg) q41.1) ((1605 : Int32) + ((9 : Int32) * (q581.2.1 137 25)))).bind fun q587 =>
  (F_X12_isSign w q587.2 (59 : Int32)).bind fun q589 =>
  (F_X12_must w q589.2 (z_tb q589.1)).bind fun q591 =>
  L_X12_readStep w G w q591.2 a1 (1 : Int32) ((1605 : Int32) + ((9 : Int32) * (q581.2.1 137 25)))
  else
  some ((), q581.2)
  else
  if (q519.2.1 137 12) ≤ (0 : Int32) then
  (F_X12_advance w (z_wI q519.2 137 25 ((q519.2.1 137 25) + (1 : Int32)))).bind fun q572 =>
  if ((1605 : Int32) + ((9 : Int32) * (q519.2.1 137 25))) < 0 ∨ 1875 ≤ ((1605 : Int32) + ((9 : Int32) * (q519.2.1 137 25))).toNatClampNeg then none else
  (F_X12_readRest w (z_wI q572.2 142 (((1605 : Int32) + ((9 : Int32) * (q519.2.1 137 25))).toNatClampNeg) q41.1) ((1605 : Int32) + ((9 : Int32) * (q519.2.1 137 25)))).bind fun q575 =>
  (F_X12_isSign w q575.2 (59 : Int32)).bind fun q577 =>
  (F_X12_must w q577.2 (z_tb q577.1)).bind fun q579 =>
  L_X12_readStep w G w q579.2 a1 (1 : Int32) ((1605 : Int32) + ((9 : Int32) * (q519.2.1 137 25)))
  else
  some ((), q519.2)
  else
  if (q519.2.1 137 12) ≤ (0 : Int32) then
  (F_X12_advance w (z_wI q519.2 137 25 ((q519.2.1 137 25) + (1 : Int32)))).bind fun q560 =>
  if ((1605 : Int32) + ((9 : Int32) * (q519.2.1 137 25))) < 0 ∨ 1875 ≤ ((1605 : Int32) + ((9 : Int32) * (q519.2.1 137 25))).toNatClampNeg then none else
  (F_X12_readRest w (z_wI q560.2 142 (((1605 : Int32) + ((9 : Int32) * (q519.2.1 137 25))).toNatClampNeg) q41.1) ((1605 : Int32) + ((9 : Int32) * (q519.2.1 137 25)))).bind fun q563 =>
  (F_X12_isSign w q563.2 (59 : Int32)).bind fun q565 =>
  (F_X12_must w q565.2 (z_tb q565.1)).bind fun q567 =>
  L_X12_readStep w G w q567.2 a1 (1 : Int32) ((1605 : Int32) + ((9 : Int32) * (q519.2.1 137 25)))
  else
  some ((), q519.2)
  else
  if (q519.2.1 137 12) = (0 : Int32) then
  if a1 = (3 : Int32) then
  (F_X12_fail w q519.2 (7 : Int32) (q519.2.1 137 15)).bind fun q545 =>
  if (q545.2.1 137 12) ≤ (0 : Int32) then
  (F_X12_advance w (z_wI q545.2 137 25 ((q545.2.1 137 25) + (1 : Int32)))).bind fun q548 =>
  if ((1605 : Int32) + ((9 : Int32) * (q545.2.1 137 25))) < 0 ∨ 1875 ≤ ((1605 : Int32) + ((9 : Int32) * (q545.2.1 137 25))).toNatClampNeg then none else
  (F_X12_readRest w (z_wI q548.2 142 (((1605 : Int32) + ((9 : Int32) * (q545.2.1 137 25))).toNatClampNeg) q41.1) ((1605 : Int32) + ((9 : Int32) * (q545.2.1 137 25)))).bind fun q551 =>
  (F_X12_isSign w q551.2 (59 : Int32)).bind fun q553 =>
  (F_X12_must w q553.2 (z_tb q553.1)).bind fun q555 =>
  L_X12_readStep w G w q555.2 a1 (1 : Int32) ((1605 : Int32) + ((9 : Int32) * (q545.2.1 137 25)))
  else
  some ((), q545.2)
  else
  if (q519.2.1 137 12) ≤ (0 : Int32) then
  (F_X12_advance w (z_wI q519.2 137 25 ((q519.2.1 137 25) + (1 : Int32)))).bind fun q536 =>
  if ((1605 : Int32) + ((9 : Int32) * (q519.2.1 137 25))) < 0 ∨ 1875 ≤ ((1605 : Int32) + ((9 : Int32) * (q519.2.1 137 25))).toNatClampNeg then none else
  (F_X12_readRest w (z_wI q536.2 142 (((1605 : Int32) + ((9 : Int32) * (q519.2.1 137 25))).toNatClampNeg) q41.1) ((1605 : Int32) + ((9 : Int32) * (q519.2.1 137 25)))).bind fun q539 =>
  (F_X12_isSign w q539.2 (59 : Int32)).bind fun q541 =>
  (F_X12_must w q541.2 (z_tb q541.1)).bind fun q543 =>
  L_X12_readStep w G w q543.2 a1 (1 : Int32) ((1605 : Int32) + ((9 : Int32) * (q519.2.1 137 25)))
  else
  some ((), q519.2)
  else
  if (q519.2.1 137 12) ≤ (0 : Int32) then
  (F_X12_advance w (z_wI q519.2 137 25 ((q519.2.1 137 25) + (1 : Int32)))).bind fun q524 =>
  if ((1605 : Int32) + ((9 : Int32) * (q519.2.1 137 25))) < 0 ∨ 1875 ≤ ((1605 : Int32) + ((9 : Int32) * (q519.2.1 137 25))).toNatClampNeg then none else
  (F_X12_readRest w (z_wI q524.2 142 (((1605 : Int32) + ((9 : Int32) * (q519.2.1 137 25))).toNatClampNeg) q41.1) ((1605 : Int32) + ((9 : Int32) * (q519.2.1 137 25)))).bind fun q527 =>
  (F_X12_isSign w q527.2 (59 : Int32)).bind fun q529 =>
  (F_X12_must w q529.2 (z_tb q529.1)).bind fun q531 =>
  L_X12_readStep w G w q531.2 a1 (1 : Int32) ((1605 : Int32) + ((9 : Int32) * (q519.2.1 137 25)))
  else
  some ((), q519.2)
  else
  if (0 : Int32) ≤ q41.1 then
  if (q41.2.1 137 12) = (0 : Int32) then
  if (q41.2.1 137 25) = (30 : Int32) then
  (F_X12_fail w q41.2 (6 : Int32) (q41.2.1 137 15)).bind fun q313 =>
  if (q313.2.1 137 12) = (0 : Int32) then
  if (q313.2.1 137 12) ≤ (0 : Int32) then
  (F_X12_advance w (z_wI q313.2 137 25 ((q313.2.1 137 25) + (1 : Int32)))).bind fun q328 =>
  if ((1605 : Int32) + ((9 : Int32) * (q313.2.1 137 25))) < 0 ∨ 1875 ≤ ((1605 : Int32) + ((9 : Int32) * (q313.2.1 137 25))).toNatClampNeg then none else
  (F_X12_readRest w (z_wI q328.2 142 (((1605 : Int32) + ((9 : Int32) * (q313.2.1 137 25))).toNatClampNeg) q41.1) ((1605 : Int32) + ((9 : Int32) * (q313.2.1 137 25)))).bind fun q331 =>
  (F_X12_isSign w q331.2 (59 : Int32)).bind fun q333 =>
  (F_X12_must w q333.2 (z_tb q333.1)).bind fun q335 =>
  L_X12_readStep w G w q335.2 a1 (0 : Int32) ((1605 : Int32) + ((9 : Int32) * (q313.2.1 137 25)))
  else
  some ((), q313.2)
  else
  if (q313.2.1 137 12) ≤ (0 : Int32) then
  (F_X12_advance w (z_wI q313.2 137 25 ((q313.2.1 137 25) + (1 : Int32)))).bind fun q317 =>
  if ((1605 : Int32) + ((9 : Int32) * (q313.2.1 137 25))) < 0 ∨ 1875 ≤ ((1605 : Int32) + ((9 : Int32) * (q313.2.1 137 25))).toNatClampNeg then none else
  (F_X12_readRest w (z_wI q317.2 142 (((1605 : Int32) + ((9 : Int32) * (q313.2.1 137 25))).toNatClampNeg) q41.1) ((1605 : Int32) + ((9 : Int32) * (q313.2.1 137 25)))).bind fun q320 =>
  (F_X12_isSign w q320.2 (59 : Int32)).bind fun q322 =>
  (F_X12_must w q322.2 (z_tb q322.1)).bind fun q324 =>
  L_X12_readStep w G w q324.2 a1 (0 : Int32) ((1605 : Int32) + ((9 : Int32) * (q313.2.1 137 25)))
  else
  some ((), q313.2)
  else
  if (q41.2.1 137 12) = (0 : Int32) then
  if (q41.2.1 137 12) ≤ (0 : Int32) then
  (F_X12_advance w (z_wI q41.2 137 25 ((q41.2.1 137 25) + (1 : Int32)))).bind fun q304 =>
  if ((1605 : Int32) + ((9 : Int32) * (q41.2.1 137 25))) < 0 ∨ 1875 ≤ ((1605 : Int32) + ((9 : Int32) * (q41.2.1 137 25))).toNatClampNeg then none else
  (F_X12_readRest w (z_wI q304.2 142 (((1605 : Int32) + ((9 : Int32) * (q41.2.1 137 25))).toNatClampNeg) q41.1) ((1605 : Int32) + ((9 : Int32) * (q41.2.1 137 25)))).bind fun q307 =>
  (F_X12_isSign w q307.2 (59 : Int32)).bind fun q309 =>
  (F_X12_must w q309.2 (z_tb q309.1)).bind fun q311 =>
  L_X12_readStep w G w q311.2 a1 (0 : Int32) ((1605 : Int32) + ((9 : Int32) * (q41.2.1 137 25)))
  else
  some ((), q41.2)
  else
  if (q41.2.1 137 12) ≤ (0 : Int32) then
  (F_X12_advance w (z_wI q41.2 137 25 ((q41.2.1 137 25) + (1 : Int32)))).bind fun q293 =>
  if ((1605 : Int32) + ((9 : Int32) * (q41.2.1 137 25))) < 0 ∨ 1875 ≤ ((1605 : Int32) + ((9 : Int32) * (q41.2.1 137 25))).toNatClampNeg then none else
  (F_X12_readRest w (z_wI q293.2 142 (((1605 : Int32) + ((9 : Int32) * (q41.2.1 137 25))).toNatClampNeg) q41.1) ((1605 : Int32) + ((9 : Int32) * (q41.2.1 137 25)))).bind fun q296 =>
  (F_X12_isSign w q296.2 (59 : Int32)).bind fun q298 =>
  (F_X12_must w q298.2 (z_tb q298.1)).bind fun q300 =>
  L_X12_readStep w G w q300.2 a1 (0 : Int32) ((1605 : Int32) + ((9 : Int32) * (q41.2.1 137 25)))
  else
  some ((), q41.2)
  else
  if (q41.2.1 137 12) = (0 : Int32) then
  if (q41.2.1 137 12) ≤ (0 : Int32) then
  (F_X12_advance w (z_wI q41.2 137 25 ((q41.2.1 137 25) + (1 : Int32)))).bind fun q281 =>
  if ((1605 : Int32) + ((9 : Int32) * (q41.2.1 137 25))) < 0 ∨ 1875 ≤ ((1605 : Int32) + ((9 : Int32) * (q41.2.1 137 25))).toNatClampNeg then none else
  (F_X12_readRest w (z_wI q281.2 142 (((1605 : Int32) + ((9 : Int32) * (q41.2.1 137 25))).toNatClampNeg) q41.1) ((1605 : Int32) + ((9 : Int32) * (q41.2.1 137 25)))).bind fun q284 =>
  (F_X12_isSign w q284.2 (59 : Int32)).bind fun q286 =>
  (F_X12_must w q286.2 (z_tb q286.1)).bind fun q288 =>
  L_X12_readStep w G w q288.2 a1 (0 : Int32) ((1605 : Int32) + ((9 : Int32) * (q41.2.1 137 25)))
  else
  some ((), q41.2)
  else
  if (q41.2.1 137 12) ≤ (0 : Int32) then
  (F_X12_advance w (z_wI q41.2 137 25 ((q41.2.1 137 25) + (1 : Int32)))).bind fun q270 =>
  if ((1605 : Int32) + ((9 : Int32) * (q41.2.1 137 25))) < 0 ∨ 1875 ≤ ((1605 : Int32) + ((9 : Int32) * (q41.2.1 137 25))).toNatClampNeg then none else
  (F_X12_readRest w (z_wI q270.2 142 (((1605 : Int32) + ((9 : Int32) * (q41.2.1 137 25))).toNatClampNeg) q41.1) ((1605 : Int32) + ((9 : Int32) * (q41.2.1 137 25)))).bind fun q273 =>
  (F_X12_isSign w q273.2 (59 : Int32)).bind fun q275 =>
  (F_X12_must w q275.2 (z_tb q275.1)).bind fun q277 =>
  L_X12_readStep w G w q277.2 a1 (0 : Int32) ((1605 : Int32) + ((9 : Int32) * (q41.2.1 137 25)))
  else
  some ((), q41.2)
  else
  (F_X12_amiss w q41.2).bind fun q337 =>
  if (q337.2.1 137 12) = (0 : Int32) then
  if (q337.2.1 137 25) = (30 : Int32) then
  (F_X12_fail w q337.2 (6 : Int32) (q337.2.1 137 15)).bind fun q385 =>
  if (q385.2.1 137 12) = (0 : Int32) then
  if (q385.2.1 137 12) ≤ (0 : Int32) then
  (F_X12_advance w (z_wI q385.2 137 25 ((q385.2.1 137 25) + (1 : Int32)))).bind fun q400 =>
  if ((1605 : Int32) + ((9 : Int32) * (q385.2.1 137 25))) < 0 ∨ 1875 ≤ ((1605 : Int32) + ((9 : Int32) * (q385.2.1 137 25))).toNatClampNeg then none else
  (F_X12_readRest w (z_wI q400.2 142 (((1605 : Int32) + ((9 : Int32) * (q385.2.1 137 25))).toNatClampNeg) q41.1) ((1605 : Int32) + ((9 : Int32) * (q385.2.1 137 25)))).bind fun q403 =>
  (F_X12_isSign w q403.2 (59 : Int32)).bind fun q405 =>
  (F_X12_must w q405.2 (z_tb q405.1)).bind fun q407 =>
  L_X12_readStep w G w q407.2 a1 (0 : Int32) ((1605 : Int32) + ((9 : Int32) * (q385.2.1 137 25)))
  else
  some ((), q385.2)
  else
  if (q385.2.1 137 12) ≤ (0 : Int32) then
  (F_X12_advance w (z_wI q385.2 137 25 ((q385.2.1 137 25) + (1 : Int32)))).bind fun q389 =>
  if ((1605 : Int32) + ((9 : Int32) * (q385.2.1 137 25))) < 0 ∨ 1875 ≤ ((1605 : Int32) + ((9 : Int32) * (q385.2.1 137 25))).toNatClampNeg then none else
  (F_X12_readRest w (z_wI q389.2 142 (((1605 : Int32) + ((9 : Int32) * (q385.2.1 137 25))).toNatClampNeg) q41.1) ((1605 : Int32) + ((9 : Int32) * (q385.2.1 137 25)))).bind fun q392 =>
  (F_X12_isSign w q392.2 (59 : Int32)).bind fun q394 =>
  (F_X12_must w q394.2 (z_tb q394.1)).bind fun q396 =>
  L_X12_readStep w G w q396.2 a1 (0 : Int32) ((1605 : Int32) + ((9 : Int32) * (q385.2.1 137 25)))
  else
  some ((), q385.2)
  else
  if (q337.2.1 137 12) = (0 : Int32) then
  if (q337.2.1 137 12) ≤ (0 : Int32) then
  (F_X12_advance w (z_wI q337.2 137 25 ((q337.2.1 137 25) + (1 : Int32)))).bind fun q376 =>
  if ((1605 : Int32) + ((9 : Int32) * (q337.2.1 137 25))) < 0 ∨ 1875 ≤ ((1605 : Int32) + ((9 : Int32) * (q337.2.1 137 25))).toNatClampNeg then none else
  (F_X12_readRest w (z_wI q376.2 142 (((1605 : Int32) + ((9 : Int32) * (q337.2.1 137 25))).toNatClampNeg) q41.1) ((1605 : Int32) + ((9 : Int32) * (q337.2.1 137 25)))).bind fun q379 =>
  (F_X12_isSign w q379.2 (59 : Int32)).bind fun q381 =>
  (F_X12_must w q381.2 (z_tb q381.1)).bind fun q383 =>
  L_X12_readStep w G w q383.2 a1 (0 : Int32) ((1605 : Int32) + ((9 : Int32) * (q337.2.1 137 25)))
  else
  some ((), q337.2)
  else
  if (q337.2.1 137 12) ≤ (0 : Int32) then
  (F_X12_advance w (z_wI q337.2 137 25 ((q337.2.1 137 25) + (1 : Int32)))).bind fun q365 =>
  if ((1605 : Int32) + ((9 : Int32) * (q337.2.1 137 25))) < 0 ∨ 1875 ≤ ((1605 : Int32) + ((9 : Int32) * (q337.2.1 137 25))).toNatClampNeg then none else
  (F_X12_readRest w (z_wI q365.2 142 (((1605 : Int32) + ((9 : Int32) * (q337.2.1 137 25))).toNatClampNeg) q41.1) ((1605 : Int32) + ((9 : Int32) * (q337.2.1 137 25)))).bind fun q368 =>
  (F_X12_isSign w q368.2 (59 : Int32)).bind fun q370 =>
  (F_X12_must w q370.2 (z_tb q370.1)).bind fun q372 =>
  L_X12_readStep w G w q372.2 a1 (0 : Int32) ((1605 : Int32) + ((9 : Int32) * (q337.2.1 137 25)))
  else
  some ((), q337.2)
  else
  if (q337.2.1 137 12) = (0 : Int32) then
  if (q337.2.1 137 12) ≤ (0 : Int32) then
  (F_X12_advance w (z_wI q337.2 137 25 ((q337.2.1 137 25) + (1 : Int32)))).bind fun q353 =>
  if ((1605 : Int32) + ((9 : Int32) * (q337.2.1 137 25))) < 0 ∨ 1875 ≤ ((1605 : Int32) + ((9 : Int32) * (q337.2.1 137 25))).toNatClampNeg then none else
  (F_X12_readRest w (z_wI q353.2 142 (((1605 : Int32) + ((9 : Int32) * (q337.2.1 137 25))).toNatClampNeg) q41.1) ((1605 : Int32) + ((9 : Int32) * (q337.2.1 137 25)))).bind fun q356 =>
  (F_X12_isSign w q356.2 (59 : Int32)).bind fun q358 =>
  (F_X12_must w q358.2 (z_tb q358.1)).bind fun q360 =>
  L_X12_readStep w G w q360.2 a1 (0 : Int32) ((1605 : Int32) + ((9 : Int32) * (q337.2.1 137 25)))
  else
  some ((), q337.2)
  else
  if (q337.2.1 137 12) ≤ (0 : Int32) then
  (F_X12_advance w (z_wI q337.2 137 25 ((q337.2.1 137 25) + (1 : Int32)))).bind fun q342 =>
  if ((1605 : Int32) + ((9 : Int32) * (q337.2.1 137 25))) < 0 ∨ 1875 ≤ ((1605 : Int32) + ((9 : Int32) * (q337.2.1 137 25))).toNatClampNeg then none else
  (F_X12_readRest w (z_wI q342.2 142 (((1605 : Int32) + ((9 : Int32) * (q337.2.1 137 25))).toNatClampNeg) q41.1) ((1605 : Int32) + ((9 : Int32) * (q337.2.1 137 25)))).bind fun q345 =>
  (F_X12_isSign w q345.2 (59 : Int32)).bind fun q347 =>
  (F_X12_must w q347.2 (z_tb q347.1)).bind fun q349 =>
  L_X12_readStep w G w q349.2 a1 (0 : Int32) ((1605 : Int32) + ((9 : Int32) * (q337.2.1 137 25)))
  else
  some ((), q337.2)
set_option maxHeartbeats 4000000 in
theorem Ab_X12_readStep {w : Nat} {G : z_Mem → Int32 → Option (Unit × z_Mem)} {k : Nat} (hk0 : 5 ≤ k) (hG : ∀ (M : z_Mem) (a1 : Int32) (r : Unit) (M' : z_Mem) (Q : Option Value → z_Mem → Prop), G M a1 = some (r, M') → Q none M' → z_Cl k mX12_readStep [.ref 139, .int a1] M Q) {M : z_Mem} {a1 : Int32} {r : Unit} {M' : z_Mem} {Q : Option Value → z_Mem → Prop} (h : Fb_X12_readStep w G M a1 = some (r, M')) (hq : Q none M') : z_Cl (k + 1) mX12_readStep [.ref 139, .int a1] M Q := by
  refine g_in (ls := [some (.ref 139), some (.int a1), none, none, none]) rfl ?_
  unfold Fb_X12_readStep at h
  refine g_aload_n dX12_readStep_0 rfl rfl ?_
  obtain ⟨q41, e42, h⟩ := z_bd h
  refine g_callV (a := 137) (as := []) (rest := []) (c := mX12_stepWord) (k1 := 1) dX12_readStep_1 rfl rfl rfl sh_137 rfl rfl (Nat.le_of_ble_eq_true rfl) (Nat.le_of_ble_eq_true rfl) (by omega) ?_
  refine A_X12_stepWord e42 ?_
  show z_G none (k + 1) mX12_readStep 4 [some (.ref 139), some (.int a1), none, none, none] [.int q41.1] q41.2 Q
  refine g_istore_n (ls' := [some (.ref 139), some (.int a1), some (.int q41.1), none, none]) dX12_readStep_4 rfl (Nat.le_of_ble_eq_true rfl) rfl ?_
  refine g_iload_n dX12_readStep_5 rfl rfl ?_
  refine g_iconst (v := (5 : Int32)) dX12_readStep_6 (by decide) ?_
  refine g_ic_eq (t := 16) dX12_readStep_7 (by decide) (fun c43 => ?_) (fun c43 => ?_)
  · replace h := z_ift c43 h
    refine g_iconst (v := (1 : Int32)) dX12_readStep_16 (by decide) ?_
    refine g_goto (t := 21) dX12_readStep_17 (by decide) ?_
    refine g_istore_n (ls' := [some (.ref 139), some (.int a1), some (.int q41.1), some (.int (1 : Int32)), none]) dX12_readStep_21 rfl (Nat.le_of_ble_eq_true rfl) rfl ?_
    refine g_iload_n dX12_readStep_22 rfl rfl ?_
    refine g_if_ge (t := 30) dX12_readStep_23 (by decide) (fun c44 => ?_) (fun c44 => ?_)
    · replace h := z_ift c44 h
      refine g_aload_n dX12_readStep_30 rfl rfl ?_
      refine g_get (a := 137) (v := .int (q41.2.1 137 12)) dX12_readStep_31 f_12_212 sh_137 rfl rfl ?_
      refine g_if_ne (t := 56) dX12_readStep_34 (by decide) (fun c45 => ?_) (fun c45 => ?_)
      · replace h := z_iff c45 h
        refine g_aload_n dX12_readStep_56 rfl rfl ?_
        refine g_get (a := 137) (v := .int (q41.2.1 137 12)) dX12_readStep_57 f_12_212 sh_137 rfl rfl ?_
        refine g_if_ne (t := 82) dX12_readStep_60 (by decide) (fun c46 => ?_) (fun c46 => ?_)
        · replace h := z_iff c46 h
          refine g_aload_n dX12_readStep_82 rfl rfl ?_
          refine g_get (a := 137) (v := .int (q41.2.1 137 12)) dX12_readStep_83 f_12_212 sh_137 rfl rfl ?_
          refine g_if_le (t := 90) dX12_readStep_86 (by decide) (fun c47 => ?_) (fun c47 => ?_)
          · replace h := z_ift c47 h
            refine g_sipush (v := (1605 : Int32)) dX12_readStep_90 (by decide) ?_
            refine g_bipush (v := (9 : Int32)) dX12_readStep_93 (by decide) ?_
            refine g_aload_n dX12_readStep_95 rfl rfl ?_
            refine g_get (a := 137) (v := .int (q41.2.1 137 25)) dX12_readStep_96 f_12_322 sh_137 rfl rfl ?_
            refine g_imul dX12_readStep_99 ?_
            refine g_iadd dX12_readStep_100 ?_
            refine g_istore (ls' := [some (.ref 139), some (.int a1), some (.int q41.1), some (.int (1 : Int32)), some (.int ((1605 : Int32) + ((9 : Int32) * (q41.2.1 137 25))))]) dX12_readStep_101 (Nat.le_of_ble_eq_true rfl) rfl ?_
            refine g_aload_n dX12_readStep_103 rfl rfl ?_
            refine g_dup dX12_readStep_104 rfl ?_
            refine g_get (a := 137) (v := .int (q41.2.1 137 25)) dX12_readStep_105 f_12_322 sh_137 rfl rfl ?_
            refine g_iconst (v := (1 : Int32)) dX12_readStep_108 (by decide) ?_
            refine g_iadd dX12_readStep_109 ?_
            refine g_putI (a := 137) dX12_readStep_110 f_12_322 sh_137 rfl rfl rfl ?_
            refine g_aload_n dX12_readStep_113 rfl rfl ?_
            obtain ⟨q48, e49, h⟩ := z_bd h
            refine g_callV (a := 137) (as := []) (rest := []) (c := mX12_advance) (k1 := 1) dX12_readStep_114 rfl rfl rfl sh_137 rfl rfl (Nat.le_of_ble_eq_true rfl) (Nat.le_of_ble_eq_true rfl) (by omega) ?_
            refine A_X12_advance e49 ?_
            show z_G none (k + 1) mX12_readStep 117 [some (.ref 139), some (.int a1), some (.int q41.1), some (.int (1 : Int32)), some (.int ((1605 : Int32) + ((9 : Int32) * (q41.2.1 137 25))))] [] q48.2 Q
            refine g_aload_n dX12_readStep_117 rfl rfl ?_
            refine g_get (a := 137) (v := .ref 144) dX12_readStep_118 f_12_35 sh_137 rfl rfl ?_
            refine g_iload dX12_readStep_121 rfl ?_
            refine g_iload_n dX12_readStep_123 rfl rfl ?_
            by_cases g50 : ((1605 : Int32) + ((9 : Int32) * (q41.2.1 137 25))) < 0 ∨ 1875 ≤ ((1605 : Int32) + ((9 : Int32) * (q41.2.1 137 25))).toNatClampNeg
            · rw [if_pos g50] at h; cases h
            replace h := z_iff g50 h
            refine g_iast (a := 142) dX12_readStep_124 sh_142 g50 ?_
            refine g_aload_n dX12_readStep_125 rfl rfl ?_
            refine g_iload dX12_readStep_126 rfl ?_
            obtain ⟨q51, e52, h⟩ := z_bd h
            refine g_callV (a := 137) (as := [.int ((1605 : Int32) + ((9 : Int32) * (q41.2.1 137 25)))]) (rest := []) (c := mX12_readRest) (k1 := 5) dX12_readStep_128 rfl rfl rfl sh_137 rfl rfl (Nat.le_of_ble_eq_true rfl) (Nat.le_of_ble_eq_true rfl) (by omega) ?_
            refine A_X12_readRest e52 ?_
            show z_G none (k + 1) mX12_readStep 131 [some (.ref 139), some (.int a1), some (.int q41.1), some (.int (1 : Int32)), some (.int ((1605 : Int32) + ((9 : Int32) * (q41.2.1 137 25))))] [] q51.2 Q
            refine g_aload_n dX12_readStep_131 rfl rfl ?_
            refine g_aload_n dX12_readStep_132 rfl rfl ?_
            refine g_bipush (v := (59 : Int32)) dX12_readStep_133 (by decide) ?_
            obtain ⟨q53, e54, h⟩ := z_bd h
            refine g_callV (a := 137) (as := [.int (59 : Int32)]) (rest := [.ref 139]) (c := mX12_isSign) (k1 := 0) dX12_readStep_135 rfl rfl rfl sh_137 rfl rfl (Nat.le_of_ble_eq_true rfl) (Nat.le_of_ble_eq_true rfl) (by omega) ?_
            refine A_X12_isSign e54 ?_
            show z_G none (k + 1) mX12_readStep 138 [some (.ref 139), some (.int a1), some (.int q41.1), some (.int (1 : Int32)), some (.int ((1605 : Int32) + ((9 : Int32) * (q41.2.1 137 25))))] [.int (z_tb q53.1), .ref 139] q53.2 Q
            obtain ⟨q55, e56, h⟩ := z_bd h
            refine g_callV (a := 137) (as := [.int (z_tb q53.1)]) (rest := []) (c := mX12_must) (k1 := 2) dX12_readStep_138 rfl rfl rfl sh_137 rfl rfl (Nat.le_of_ble_eq_true rfl) (Nat.le_of_ble_eq_true rfl) (by omega) ?_
            refine A_X12_must e56 ?_
            show z_G none (k + 1) mX12_readStep 141 [some (.ref 139), some (.int a1), some (.int q41.1), some (.int (1 : Int32)), some (.int ((1605 : Int32) + ((9 : Int32) * (q41.2.1 137 25))))] [] q55.2 Q
            exact g_sub (z_sub_s (z_sub_s (z_sub_n (z_sub_s (z_sub_s z_sub_nil))))) ((AL_X12_readStep (w := w) hk0 hG w) _ _ _ _ _ _ _ h hq)
          · replace h := z_iff c47 h
            cases h
            exact g_vret dX12_readStep_89 rfl hq
        · replace h := z_ift c46 h
          refine g_iload_n dX12_readStep_63 rfl rfl ?_
          refine g_if_eq (t := 82) dX12_readStep_64 (by decide) (fun c57 => ?_) (fun c57 => ?_)
          · exact absurd c57 (by decide)
          · skip
            refine g_iload_n dX12_readStep_67 rfl rfl ?_
            refine g_iconst (v := (3 : Int32)) dX12_readStep_68 (by decide) ?_
            refine g_ic_ne (t := 82) dX12_readStep_69 (by decide) (fun c58 => ?_) (fun c58 => ?_)
            · replace h := z_iff c58 h
              refine g_aload_n dX12_readStep_82 rfl rfl ?_
              refine g_get (a := 137) (v := .int (q41.2.1 137 12)) dX12_readStep_83 f_12_212 sh_137 rfl rfl ?_
              refine g_if_le (t := 90) dX12_readStep_86 (by decide) (fun c59 => ?_) (fun c59 => ?_)
              · replace h := z_ift c59 h
                refine g_sipush (v := (1605 : Int32)) dX12_readStep_90 (by decide) ?_
                refine g_bipush (v := (9 : Int32)) dX12_readStep_93 (by decide) ?_
                refine g_aload_n dX12_readStep_95 rfl rfl ?_
                refine g_get (a := 137) (v := .int (q41.2.1 137 25)) dX12_readStep_96 f_12_322 sh_137 rfl rfl ?_
                refine g_imul dX12_readStep_99 ?_
                refine g_iadd dX12_readStep_100 ?_
                refine g_istore (ls' := [some (.ref 139), some (.int a1), some (.int q41.1), some (.int (1 : Int32)), some (.int ((1605 : Int32) + ((9 : Int32) * (q41.2.1 137 25))))]) dX12_readStep_101 (Nat.le_of_ble_eq_true rfl) rfl ?_
                refine g_aload_n dX12_readStep_103 rfl rfl ?_
                refine g_dup dX12_readStep_104 rfl ?_
                refine g_get (a := 137) (v := .int (q41.2.1 137 25)) dX12_readStep_105 f_12_322 sh_137 rfl rfl ?_
                refine g_iconst (v := (1 : Int32)) dX12_readStep_108 (by decide) ?_
                refine g_iadd dX12_readStep_109 ?_
                refine g_putI (a := 137) dX12_readStep_110 f_12_322 sh_137 rfl rfl rfl ?_
                refine g_aload_n dX12_readStep_113 rfl rfl ?_
                obtain ⟨q60, e61, h⟩ := z_bd h
                refine g_callV (a := 137) (as := []) (rest := []) (c := mX12_advance) (k1 := 1) dX12_readStep_114 rfl rfl rfl sh_137 rfl rfl (Nat.le_of_ble_eq_true rfl) (Nat.le_of_ble_eq_true rfl) (by omega) ?_
                refine A_X12_advance e61 ?_
                show z_G none (k + 1) mX12_readStep 117 [some (.ref 139), some (.int a1), some (.int q41.1), some (.int (1 : Int32)), some (.int ((1605 : Int32) + ((9 : Int32) * (q41.2.1 137 25))))] [] q60.2 Q
                refine g_aload_n dX12_readStep_117 rfl rfl ?_
                refine g_get (a := 137) (v := .ref 144) dX12_readStep_118 f_12_35 sh_137 rfl rfl ?_
                refine g_iload dX12_readStep_121 rfl ?_
                refine g_iload_n dX12_readStep_123 rfl rfl ?_
                by_cases g62 : ((1605 : Int32) + ((9 : Int32) * (q41.2.1 137 25))) < 0 ∨ 1875 ≤ ((1605 : Int32) + ((9 : Int32) * (q41.2.1 137 25))).toNatClampNeg
                · rw [if_pos g62] at h; cases h
                replace h := z_iff g62 h
                refine g_iast (a := 142) dX12_readStep_124 sh_142 g62 ?_
                refine g_aload_n dX12_readStep_125 rfl rfl ?_
                refine g_iload dX12_readStep_126 rfl ?_
                obtain ⟨q63, e64, h⟩ := z_bd h
                refine g_callV (a := 137) (as := [.int ((1605 : Int32) + ((9 : Int32) * (q41.2.1 137 25)))]) (rest := []) (c := mX12_readRest) (k1 := 5) dX12_readStep_128 rfl rfl rfl sh_137 rfl rfl (Nat.le_of_ble_eq_true rfl) (Nat.le_of_ble_eq_true rfl) (by omega) ?_
                refine A_X12_readRest e64 ?_
                show z_G none (k + 1) mX12_readStep 131 [some (.ref 139), some (.int a1), some (.int q41.1), some (.int (1 : Int32)), some (.int ((1605 : Int32) + ((9 : Int32) * (q41.2.1 137 25))))] [] q63.2 Q
                refine g_aload_n dX12_readStep_131 rfl rfl ?_
                refine g_aload_n dX12_readStep_132 rfl rfl ?_
                refine g_bipush (v := (59 : Int32)) dX12_readStep_133 (by decide) ?_
                obtain ⟨q65, e66, h⟩ := z_bd h
                refine g_callV (a := 137) (as := [.int (59 : Int32)]) (rest := [.ref 139]) (c := mX12_isSign) (k1 := 0) dX12_readStep_135 rfl rfl rfl sh_137 rfl rfl (Nat.le_of_ble_eq_true rfl) (Nat.le_of_ble_eq_true rfl) (by omega) ?_
                refine A_X12_isSign e66 ?_
                show z_G none (k + 1) mX12_readStep 138 [some (.ref 139), some (.int a1), some (.int q41.1), some (.int (1 : Int32)), some (.int ((1605 : Int32) + ((9 : Int32) * (q41.2.1 137 25))))] [.int (z_tb q65.1), .ref 139] q65.2 Q
                obtain ⟨q67, e68, h⟩ := z_bd h
                refine g_callV (a := 137) (as := [.int (z_tb q65.1)]) (rest := []) (c := mX12_must) (k1 := 2) dX12_readStep_138 rfl rfl rfl sh_137 rfl rfl (Nat.le_of_ble_eq_true rfl) (Nat.le_of_ble_eq_true rfl) (by omega) ?_
                refine A_X12_must e68 ?_
                show z_G none (k + 1) mX12_readStep 141 [some (.ref 139), some (.int a1), some (.int q41.1), some (.int (1 : Int32)), some (.int ((1605 : Int32) + ((9 : Int32) * (q41.2.1 137 25))))] [] q67.2 Q
                exact g_sub (z_sub_s (z_sub_s (z_sub_n (z_sub_s (z_sub_s z_sub_nil))))) ((AL_X12_readStep (w := w) hk0 hG w) _ _ _ _ _ _ _ h hq)
              · replace h := z_iff c59 h
                cases h
                exact g_vret dX12_readStep_89 rfl hq
            · replace h := z_ift c58 h
              refine g_aload_n dX12_readStep_72 rfl rfl ?_
              refine g_bipush (v := (7 : Int32)) dX12_readStep_73 (by decide) ?_
              refine g_aload_n dX12_readStep_75 rfl rfl ?_
              refine g_get (a := 137) (v := .int (q41.2.1 137 15)) dX12_readStep_76 f_12_106 sh_137 rfl rfl ?_
              obtain ⟨q69, e70, h⟩ := z_bd h
              refine g_callV (a := 137) (as := [.int (7 : Int32), .int (q41.2.1 137 15)]) (rest := []) (c := mX12_fail) (k1 := 0) dX12_readStep_79 rfl rfl rfl sh_137 rfl rfl (Nat.le_of_ble_eq_true rfl) (Nat.le_of_ble_eq_true rfl) (by omega) ?_
              refine A_X12_fail e70 ?_
              show z_G none (k + 1) mX12_readStep 82 [some (.ref 139), some (.int a1), some (.int q41.1), some (.int (1 : Int32)), none] [] q69.2 Q
              refine g_aload_n dX12_readStep_82 rfl rfl ?_
              refine g_get (a := 137) (v := .int (q69.2.1 137 12)) dX12_readStep_83 f_12_212 sh_137 rfl rfl ?_
              refine g_if_le (t := 90) dX12_readStep_86 (by decide) (fun c71 => ?_) (fun c71 => ?_)
              · replace h := z_ift c71 h
                refine g_sipush (v := (1605 : Int32)) dX12_readStep_90 (by decide) ?_
                refine g_bipush (v := (9 : Int32)) dX12_readStep_93 (by decide) ?_
                refine g_aload_n dX12_readStep_95 rfl rfl ?_
                refine g_get (a := 137) (v := .int (q69.2.1 137 25)) dX12_readStep_96 f_12_322 sh_137 rfl rfl ?_
                refine g_imul dX12_readStep_99 ?_
                refine g_iadd dX12_readStep_100 ?_
                refine g_istore (ls' := [some (.ref 139), some (.int a1), some (.int q41.1), some (.int (1 : Int32)), some (.int ((1605 : Int32) + ((9 : Int32) * (q69.2.1 137 25))))]) dX12_readStep_101 (Nat.le_of_ble_eq_true rfl) rfl ?_
                refine g_aload_n dX12_readStep_103 rfl rfl ?_
                refine g_dup dX12_readStep_104 rfl ?_
                refine g_get (a := 137) (v := .int (q69.2.1 137 25)) dX12_readStep_105 f_12_322 sh_137 rfl rfl ?_
                refine g_iconst (v := (1 : Int32)) dX12_readStep_108 (by decide) ?_
                refine g_iadd dX12_readStep_109 ?_
                refine g_putI (a := 137) dX12_readStep_110 f_12_322 sh_137 rfl rfl rfl ?_
                refine g_aload_n dX12_readStep_113 rfl rfl ?_
                obtain ⟨q72, e73, h⟩ := z_bd h
                refine g_callV (a := 137) (as := []) (rest := []) (c := mX12_advance) (k1 := 1) dX12_readStep_114 rfl rfl rfl sh_137 rfl rfl (Nat.le_of_ble_eq_true rfl) (Nat.le_of_ble_eq_true rfl) (by omega) ?_
                refine A_X12_advance e73 ?_
                show z_G none (k + 1) mX12_readStep 117 [some (.ref 139), some (.int a1), some (.int q41.1), some (.int (1 : Int32)), some (.int ((1605 : Int32) + ((9 : Int32) * (q69.2.1 137 25))))] [] q72.2 Q
                refine g_aload_n dX12_readStep_117 rfl rfl ?_
                refine g_get (a := 137) (v := .ref 144) dX12_readStep_118 f_12_35 sh_137 rfl rfl ?_
                refine g_iload dX12_readStep_121 rfl ?_
                refine g_iload_n dX12_readStep_123 rfl rfl ?_
                by_cases g74 : ((1605 : Int32) + ((9 : Int32) * (q69.2.1 137 25))) < 0 ∨ 1875 ≤ ((1605 : Int32) + ((9 : Int32) * (q69.2.1 137 25))).toNatClampNeg
                · rw [if_pos g74] at h; cases h
                replace h := z_iff g74 h
                refine g_iast (a := 142) dX12_readStep_124 sh_142 g74 ?_
                refine g_aload_n dX12_readStep_125 rfl rfl ?_
                refine g_iload dX12_readStep_126 rfl ?_
                obtain ⟨q75, e76, h⟩ := z_bd h
                refine g_callV (a := 137) (as := [.int ((1605 : Int32) + ((9 : Int32) * (q69.2.1 137 25)))]) (rest := []) (c := mX12_readRest) (k1 := 5) dX12_readStep_128 rfl rfl rfl sh_137 rfl rfl (Nat.le_of_ble_eq_true rfl) (Nat.le_of_ble_eq_true rfl) (by omega) ?_
                refine A_X12_readRest e76 ?_
                show z_G none (k + 1) mX12_readStep 131 [some (.ref 139), some (.int a1), some (.int q41.1), some (.int (1 : Int32)), some (.int ((1605 : Int32) + ((9 : Int32) * (q69.2.1 137 25))))] [] q75.2 Q
                refine g_aload_n dX12_readStep_131 rfl rfl ?_
                refine g_aload_n dX12_readStep_132 rfl rfl ?_
                refine g_bipush (v := (59 : Int32)) dX12_readStep_133 (by decide) ?_
                obtain ⟨q77, e78, h⟩ := z_bd h
                refine g_callV (a := 137) (as := [.int (59 : Int32)]) (rest := [.ref 139]) (c := mX12_isSign) (k1 := 0) dX12_readStep_135 rfl rfl rfl sh_137 rfl rfl (Nat.le_of_ble_eq_true rfl) (Nat.le_of_ble_eq_true rfl) (by omega) ?_
                refine A_X12_isSign e78 ?_
                show z_G none (k + 1) mX12_readStep 138 [some (.ref 139), some (.int a1), some (.int q41.1), some (.int (1 : Int32)), some (.int ((1605 : Int32) + ((9 : Int32) * (q69.2.1 137 25))))] [.int (z_tb q77.1), .ref 139] q77.2 Q
                obtain ⟨q79, e80, h⟩ := z_bd h
                refine g_callV (a := 137) (as := [.int (z_tb q77.1)]) (rest := []) (c := mX12_must) (k1 := 2) dX12_readStep_138 rfl rfl rfl sh_137 rfl rfl (Nat.le_of_ble_eq_true rfl) (Nat.le_of_ble_eq_true rfl) (by omega) ?_
                refine A_X12_must e80 ?_
                show z_G none (k + 1) mX12_readStep 141 [some (.ref 139), some (.int a1), some (.int q41.1), some (.int (1 : Int32)), some (.int ((1605 : Int32) + ((9 : Int32) * (q69.2.1 137 25))))] [] q79.2 Q
                exact g_sub (z_sub_s (z_sub_s (z_sub_n (z_sub_s (z_sub_s z_sub_nil))))) ((AL_X12_readStep (w := w) hk0 hG w) _ _ _ _ _ _ _ h hq)
              · replace h := z_iff c71 h
                cases h
                exact g_vret dX12_readStep_89 rfl hq
      · replace h := z_ift c45 h
        refine g_aload_n dX12_readStep_37 rfl rfl ?_
        refine g_get (a := 137) (v := .int (q41.2.1 137 25)) dX12_readStep_38 f_12_322 sh_137 rfl rfl ?_
        refine g_bipush (v := (30 : Int32)) dX12_readStep_41 (by decide) ?_
        refine g_ic_ne (t := 56) dX12_readStep_43 (by decide) (fun c81 => ?_) (fun c81 => ?_)
        · replace h := z_iff c81 h
          refine g_aload_n dX12_readStep_56 rfl rfl ?_
          refine g_get (a := 137) (v := .int (q41.2.1 137 12)) dX12_readStep_57 f_12_212 sh_137 rfl rfl ?_
          refine g_if_ne (t := 82) dX12_readStep_60 (by decide) (fun c82 => ?_) (fun c82 => ?_)
          · replace h := z_iff c82 h
            refine g_aload_n dX12_readStep_82 rfl rfl ?_
            refine g_get (a := 137) (v := .int (q41.2.1 137 12)) dX12_readStep_83 f_12_212 sh_137 rfl rfl ?_
            refine g_if_le (t := 90) dX12_readStep_86 (by decide) (fun c83 => ?_) (fun c83 => ?_)
            · replace h := z_ift c83 h
              refine g_sipush (v := (1605 : Int32)) dX12_readStep_90 (by decide) ?_
              refine g_bipush (v := (9 : Int32)) dX12_readStep_93 (by decide) ?_
              refine g_aload_n dX12_readStep_95 rfl rfl ?_
              refine g_get (a := 137) (v := .int (q41.2.1 137 25)) dX12_readStep_96 f_12_322 sh_137 rfl rfl ?_
              refine g_imul dX12_readStep_99 ?_
              refine g_iadd dX12_readStep_100 ?_
              refine g_istore (ls' := [some (.ref 139), some (.int a1), some (.int q41.1), some (.int (1 : Int32)), some (.int ((1605 : Int32) + ((9 : Int32) * (q41.2.1 137 25))))]) dX12_readStep_101 (Nat.le_of_ble_eq_true rfl) rfl ?_
              refine g_aload_n dX12_readStep_103 rfl rfl ?_
              refine g_dup dX12_readStep_104 rfl ?_
              refine g_get (a := 137) (v := .int (q41.2.1 137 25)) dX12_readStep_105 f_12_322 sh_137 rfl rfl ?_
              refine g_iconst (v := (1 : Int32)) dX12_readStep_108 (by decide) ?_
              refine g_iadd dX12_readStep_109 ?_
              refine g_putI (a := 137) dX12_readStep_110 f_12_322 sh_137 rfl rfl rfl ?_
              refine g_aload_n dX12_readStep_113 rfl rfl ?_
              obtain ⟨q84, e85, h⟩ := z_bd h
              refine g_callV (a := 137) (as := []) (rest := []) (c := mX12_advance) (k1 := 1) dX12_readStep_114 rfl rfl rfl sh_137 rfl rfl (Nat.le_of_ble_eq_true rfl) (Nat.le_of_ble_eq_true rfl) (by omega) ?_
              refine A_X12_advance e85 ?_
              show z_G none (k + 1) mX12_readStep 117 [some (.ref 139), some (.int a1), some (.int q41.1), some (.int (1 : Int32)), some (.int ((1605 : Int32) + ((9 : Int32) * (q41.2.1 137 25))))] [] q84.2 Q
              refine g_aload_n dX12_readStep_117 rfl rfl ?_
              refine g_get (a := 137) (v := .ref 144) dX12_readStep_118 f_12_35 sh_137 rfl rfl ?_
              refine g_iload dX12_readStep_121 rfl ?_
              refine g_iload_n dX12_readStep_123 rfl rfl ?_
              by_cases g86 : ((1605 : Int32) + ((9 : Int32) * (q41.2.1 137 25))) < 0 ∨ 1875 ≤ ((1605 : Int32) + ((9 : Int32) * (q41.2.1 137 25))).toNatClampNeg
              · rw [if_pos g86] at h; cases h
              replace h := z_iff g86 h
              refine g_iast (a := 142) dX12_readStep_124 sh_142 g86 ?_
              refine g_aload_n dX12_readStep_125 rfl rfl ?_
              refine g_iload dX12_readStep_126 rfl ?_
              obtain ⟨q87, e88, h⟩ := z_bd h
              refine g_callV (a := 137) (as := [.int ((1605 : Int32) + ((9 : Int32) * (q41.2.1 137 25)))]) (rest := []) (c := mX12_readRest) (k1 := 5) dX12_readStep_128 rfl rfl rfl sh_137 rfl rfl (Nat.le_of_ble_eq_true rfl) (Nat.le_of_ble_eq_true rfl) (by omega) ?_
              refine A_X12_readRest e88 ?_
              show z_G none (k + 1) mX12_readStep 131 [some (.ref 139), some (.int a1), some (.int q41.1), some (.int (1 : Int32)), some (.int ((1605 : Int32) + ((9 : Int32) * (q41.2.1 137 25))))] [] q87.2 Q
              refine g_aload_n dX12_readStep_131 rfl rfl ?_
              refine g_aload_n dX12_readStep_132 rfl rfl ?_
              refine g_bipush (v := (59 : Int32)) dX12_readStep_133 (by decide) ?_
              obtain ⟨q89, e90, h⟩ := z_bd h
              refine g_callV (a := 137) (as := [.int (59 : Int32)]) (rest := [.ref 139]) (c := mX12_isSign) (k1 := 0) dX12_readStep_135 rfl rfl rfl sh_137 rfl rfl (Nat.le_of_ble_eq_true rfl) (Nat.le_of_ble_eq_true rfl) (by omega) ?_
              refine A_X12_isSign e90 ?_
              show z_G none (k + 1) mX12_readStep 138 [some (.ref 139), some (.int a1), some (.int q41.1), some (.int (1 : Int32)), some (.int ((1605 : Int32) + ((9 : Int32) * (q41.2.1 137 25))))] [.int (z_tb q89.1), .ref 139] q89.2 Q
              obtain ⟨q91, e92, h⟩ := z_bd h
              refine g_callV (a := 137) (as := [.int (z_tb q89.1)]) (rest := []) (c := mX12_must) (k1 := 2) dX12_readStep_138 rfl rfl rfl sh_137 rfl rfl (Nat.le_of_ble_eq_true rfl) (Nat.le_of_ble_eq_true rfl) (by omega) ?_
              refine A_X12_must e92 ?_
              show z_G none (k + 1) mX12_readStep 141 [some (.ref 139), some (.int a1), some (.int q41.1), some (.int (1 : Int32)), some (.int ((1605 : Int32) + ((9 : Int32) * (q41.2.1 137 25))))] [] q91.2 Q
              exact g_sub (z_sub_s (z_sub_s (z_sub_n (z_sub_s (z_sub_s z_sub_nil))))) ((AL_X12_readStep (w := w) hk0 hG w) _ _ _ _ _ _ _ h hq)
            · replace h := z_iff c83 h
              cases h
              exact g_vret dX12_readStep_89 rfl hq
          · replace h := z_ift c82 h
            refine g_iload_n dX12_readStep_63 rfl rfl ?_
            refine g_if_eq (t := 82) dX12_readStep_64 (by decide) (fun c93 => ?_) (fun c93 => ?_)
            · exact absurd c93 (by decide)
            · skip
              refine g_iload_n dX12_readStep_67 rfl rfl ?_
              refine g_iconst (v := (3 : Int32)) dX12_readStep_68 (by decide) ?_
              refine g_ic_ne (t := 82) dX12_readStep_69 (by decide) (fun c94 => ?_) (fun c94 => ?_)
              · replace h := z_iff c94 h
                refine g_aload_n dX12_readStep_82 rfl rfl ?_
                refine g_get (a := 137) (v := .int (q41.2.1 137 12)) dX12_readStep_83 f_12_212 sh_137 rfl rfl ?_
                refine g_if_le (t := 90) dX12_readStep_86 (by decide) (fun c95 => ?_) (fun c95 => ?_)
                · replace h := z_ift c95 h
                  refine g_sipush (v := (1605 : Int32)) dX12_readStep_90 (by decide) ?_
                  refine g_bipush (v := (9 : Int32)) dX12_readStep_93 (by decide) ?_
                  refine g_aload_n dX12_readStep_95 rfl rfl ?_
                  refine g_get (a := 137) (v := .int (q41.2.1 137 25)) dX12_readStep_96 f_12_322 sh_137 rfl rfl ?_
                  refine g_imul dX12_readStep_99 ?_
                  refine g_iadd dX12_readStep_100 ?_
                  refine g_istore (ls' := [some (.ref 139), some (.int a1), some (.int q41.1), some (.int (1 : Int32)), some (.int ((1605 : Int32) + ((9 : Int32) * (q41.2.1 137 25))))]) dX12_readStep_101 (Nat.le_of_ble_eq_true rfl) rfl ?_
                  refine g_aload_n dX12_readStep_103 rfl rfl ?_
                  refine g_dup dX12_readStep_104 rfl ?_
                  refine g_get (a := 137) (v := .int (q41.2.1 137 25)) dX12_readStep_105 f_12_322 sh_137 rfl rfl ?_
                  refine g_iconst (v := (1 : Int32)) dX12_readStep_108 (by decide) ?_
                  refine g_iadd dX12_readStep_109 ?_
                  refine g_putI (a := 137) dX12_readStep_110 f_12_322 sh_137 rfl rfl rfl ?_
                  refine g_aload_n dX12_readStep_113 rfl rfl ?_
                  obtain ⟨q96, e97, h⟩ := z_bd h
                  refine g_callV (a := 137) (as := []) (rest := []) (c := mX12_advance) (k1 := 1) dX12_readStep_114 rfl rfl rfl sh_137 rfl rfl (Nat.le_of_ble_eq_true rfl) (Nat.le_of_ble_eq_true rfl) (by omega) ?_
                  refine A_X12_advance e97 ?_
                  show z_G none (k + 1) mX12_readStep 117 [some (.ref 139), some (.int a1), some (.int q41.1), some (.int (1 : Int32)), some (.int ((1605 : Int32) + ((9 : Int32) * (q41.2.1 137 25))))] [] q96.2 Q
                  refine g_aload_n dX12_readStep_117 rfl rfl ?_
                  refine g_get (a := 137) (v := .ref 144) dX12_readStep_118 f_12_35 sh_137 rfl rfl ?_
                  refine g_iload dX12_readStep_121 rfl ?_
                  refine g_iload_n dX12_readStep_123 rfl rfl ?_
                  by_cases g98 : ((1605 : Int32) + ((9 : Int32) * (q41.2.1 137 25))) < 0 ∨ 1875 ≤ ((1605 : Int32) + ((9 : Int32) * (q41.2.1 137 25))).toNatClampNeg
                  · rw [if_pos g98] at h; cases h
                  replace h := z_iff g98 h
                  refine g_iast (a := 142) dX12_readStep_124 sh_142 g98 ?_
                  refine g_aload_n dX12_readStep_125 rfl rfl ?_
                  refine g_iload dX12_readStep_126 rfl ?_
                  obtain ⟨q99, e100, h⟩ := z_bd h
                  refine g_callV (a := 137) (as := [.int ((1605 : Int32) + ((9 : Int32) * (q41.2.1 137 25)))]) (rest := []) (c := mX12_readRest) (k1 := 5) dX12_readStep_128 rfl rfl rfl sh_137 rfl rfl (Nat.le_of_ble_eq_true rfl) (Nat.le_of_ble_eq_true rfl) (by omega) ?_
                  refine A_X12_readRest e100 ?_
                  show z_G none (k + 1) mX12_readStep 131 [some (.ref 139), some (.int a1), some (.int q41.1), some (.int (1 : Int32)), some (.int ((1605 : Int32) + ((9 : Int32) * (q41.2.1 137 25))))] [] q99.2 Q
                  refine g_aload_n dX12_readStep_131 rfl rfl ?_
                  refine g_aload_n dX12_readStep_132 rfl rfl ?_
                  refine g_bipush (v := (59 : Int32)) dX12_readStep_133 (by decide) ?_
                  obtain ⟨q101, e102, h⟩ := z_bd h
                  refine g_callV (a := 137) (as := [.int (59 : Int32)]) (rest := [.ref 139]) (c := mX12_isSign) (k1 := 0) dX12_readStep_135 rfl rfl rfl sh_137 rfl rfl (Nat.le_of_ble_eq_true rfl) (Nat.le_of_ble_eq_true rfl) (by omega) ?_
                  refine A_X12_isSign e102 ?_
                  show z_G none (k + 1) mX12_readStep 138 [some (.ref 139), some (.int a1), some (.int q41.1), some (.int (1 : Int32)), some (.int ((1605 : Int32) + ((9 : Int32) * (q41.2.1 137 25))))] [.int (z_tb q101.1), .ref 139] q101.2 Q
                  obtain ⟨q103, e104, h⟩ := z_bd h
                  refine g_callV (a := 137) (as := [.int (z_tb q101.1)]) (rest := []) (c := mX12_must) (k1 := 2) dX12_readStep_138 rfl rfl rfl sh_137 rfl rfl (Nat.le_of_ble_eq_true rfl) (Nat.le_of_ble_eq_true rfl) (by omega) ?_
                  refine A_X12_must e104 ?_
                  show z_G none (k + 1) mX12_readStep 141 [some (.ref 139), some (.int a1), some (.int q41.1), some (.int (1 : Int32)), some (.int ((1605 : Int32) + ((9 : Int32) * (q41.2.1 137 25))))] [] q103.2 Q
                  exact g_sub (z_sub_s (z_sub_s (z_sub_n (z_sub_s (z_sub_s z_sub_nil))))) ((AL_X12_readStep (w := w) hk0 hG w) _ _ _ _ _ _ _ h hq)
                · replace h := z_iff c95 h
                  cases h
                  exact g_vret dX12_readStep_89 rfl hq
              · replace h := z_ift c94 h
                refine g_aload_n dX12_readStep_72 rfl rfl ?_
                refine g_bipush (v := (7 : Int32)) dX12_readStep_73 (by decide) ?_
                refine g_aload_n dX12_readStep_75 rfl rfl ?_
                refine g_get (a := 137) (v := .int (q41.2.1 137 15)) dX12_readStep_76 f_12_106 sh_137 rfl rfl ?_
                obtain ⟨q105, e106, h⟩ := z_bd h
                refine g_callV (a := 137) (as := [.int (7 : Int32), .int (q41.2.1 137 15)]) (rest := []) (c := mX12_fail) (k1 := 0) dX12_readStep_79 rfl rfl rfl sh_137 rfl rfl (Nat.le_of_ble_eq_true rfl) (Nat.le_of_ble_eq_true rfl) (by omega) ?_
                refine A_X12_fail e106 ?_
                show z_G none (k + 1) mX12_readStep 82 [some (.ref 139), some (.int a1), some (.int q41.1), some (.int (1 : Int32)), none] [] q105.2 Q
                refine g_aload_n dX12_readStep_82 rfl rfl ?_
                refine g_get (a := 137) (v := .int (q105.2.1 137 12)) dX12_readStep_83 f_12_212 sh_137 rfl rfl ?_
                refine g_if_le (t := 90) dX12_readStep_86 (by decide) (fun c107 => ?_) (fun c107 => ?_)
                · replace h := z_ift c107 h
                  refine g_sipush (v := (1605 : Int32)) dX12_readStep_90 (by decide) ?_
                  refine g_bipush (v := (9 : Int32)) dX12_readStep_93 (by decide) ?_
                  refine g_aload_n dX12_readStep_95 rfl rfl ?_
                  refine g_get (a := 137) (v := .int (q105.2.1 137 25)) dX12_readStep_96 f_12_322 sh_137 rfl rfl ?_
                  refine g_imul dX12_readStep_99 ?_
                  refine g_iadd dX12_readStep_100 ?_
                  refine g_istore (ls' := [some (.ref 139), some (.int a1), some (.int q41.1), some (.int (1 : Int32)), some (.int ((1605 : Int32) + ((9 : Int32) * (q105.2.1 137 25))))]) dX12_readStep_101 (Nat.le_of_ble_eq_true rfl) rfl ?_
                  refine g_aload_n dX12_readStep_103 rfl rfl ?_
                  refine g_dup dX12_readStep_104 rfl ?_
                  refine g_get (a := 137) (v := .int (q105.2.1 137 25)) dX12_readStep_105 f_12_322 sh_137 rfl rfl ?_
                  refine g_iconst (v := (1 : Int32)) dX12_readStep_108 (by decide) ?_
                  refine g_iadd dX12_readStep_109 ?_
                  refine g_putI (a := 137) dX12_readStep_110 f_12_322 sh_137 rfl rfl rfl ?_
                  refine g_aload_n dX12_readStep_113 rfl rfl ?_
                  obtain ⟨q108, e109, h⟩ := z_bd h
                  refine g_callV (a := 137) (as := []) (rest := []) (c := mX12_advance) (k1 := 1) dX12_readStep_114 rfl rfl rfl sh_137 rfl rfl (Nat.le_of_ble_eq_true rfl) (Nat.le_of_ble_eq_true rfl) (by omega) ?_
                  refine A_X12_advance e109 ?_
                  show z_G none (k + 1) mX12_readStep 117 [some (.ref 139), some (.int a1), some (.int q41.1), some (.int (1 : Int32)), some (.int ((1605 : Int32) + ((9 : Int32) * (q105.2.1 137 25))))] [] q108.2 Q
                  refine g_aload_n dX12_readStep_117 rfl rfl ?_
                  refine g_get (a := 137) (v := .ref 144) dX12_readStep_118 f_12_35 sh_137 rfl rfl ?_
                  refine g_iload dX12_readStep_121 rfl ?_
                  refine g_iload_n dX12_readStep_123 rfl rfl ?_
                  by_cases g110 : ((1605 : Int32) + ((9 : Int32) * (q105.2.1 137 25))) < 0 ∨ 1875 ≤ ((1605 : Int32) + ((9 : Int32) * (q105.2.1 137 25))).toNatClampNeg
                  · rw [if_pos g110] at h; cases h
                  replace h := z_iff g110 h
                  refine g_iast (a := 142) dX12_readStep_124 sh_142 g110 ?_
                  refine g_aload_n dX12_readStep_125 rfl rfl ?_
                  refine g_iload dX12_readStep_126 rfl ?_
                  obtain ⟨q111, e112, h⟩ := z_bd h
                  refine g_callV (a := 137) (as := [.int ((1605 : Int32) + ((9 : Int32) * (q105.2.1 137 25)))]) (rest := []) (c := mX12_readRest) (k1 := 5) dX12_readStep_128 rfl rfl rfl sh_137 rfl rfl (Nat.le_of_ble_eq_true rfl) (Nat.le_of_ble_eq_true rfl) (by omega) ?_
                  refine A_X12_readRest e112 ?_
                  show z_G none (k + 1) mX12_readStep 131 [some (.ref 139), some (.int a1), some (.int q41.1), some (.int (1 : Int32)), some (.int ((1605 : Int32) + ((9 : Int32) * (q105.2.1 137 25))))] [] q111.2 Q
                  refine g_aload_n dX12_readStep_131 rfl rfl ?_
                  refine g_aload_n dX12_readStep_132 rfl rfl ?_
                  refine g_bipush (v := (59 : Int32)) dX12_readStep_133 (by decide) ?_
                  obtain ⟨q113, e114, h⟩ := z_bd h
                  refine g_callV (a := 137) (as := [.int (59 : Int32)]) (rest := [.ref 139]) (c := mX12_isSign) (k1 := 0) dX12_readStep_135 rfl rfl rfl sh_137 rfl rfl (Nat.le_of_ble_eq_true rfl) (Nat.le_of_ble_eq_true rfl) (by omega) ?_
                  refine A_X12_isSign e114 ?_
                  show z_G none (k + 1) mX12_readStep 138 [some (.ref 139), some (.int a1), some (.int q41.1), some (.int (1 : Int32)), some (.int ((1605 : Int32) + ((9 : Int32) * (q105.2.1 137 25))))] [.int (z_tb q113.1), .ref 139] q113.2 Q
                  obtain ⟨q115, e116, h⟩ := z_bd h
                  refine g_callV (a := 137) (as := [.int (z_tb q113.1)]) (rest := []) (c := mX12_must) (k1 := 2) dX12_readStep_138 rfl rfl rfl sh_137 rfl rfl (Nat.le_of_ble_eq_true rfl) (Nat.le_of_ble_eq_true rfl) (by omega) ?_
                  refine A_X12_must e116 ?_
                  show z_G none (k + 1) mX12_readStep 141 [some (.ref 139), some (.int a1), some (.int q41.1), some (.int (1 : Int32)), some (.int ((1605 : Int32) + ((9 : Int32) * (q105.2.1 137 25))))] [] q115.2 Q
                  exact g_sub (z_sub_s (z_sub_s (z_sub_n (z_sub_s (z_sub_s z_sub_nil))))) ((AL_X12_readStep (w := w) hk0 hG w) _ _ _ _ _ _ _ h hq)
                · replace h := z_iff c107 h
                  cases h
                  exact g_vret dX12_readStep_89 rfl hq
        · replace h := z_ift c81 h
          refine g_aload_n dX12_readStep_46 rfl rfl ?_
          refine g_bipush (v := (6 : Int32)) dX12_readStep_47 (by decide) ?_
          refine g_aload_n dX12_readStep_49 rfl rfl ?_
          refine g_get (a := 137) (v := .int (q41.2.1 137 15)) dX12_readStep_50 f_12_106 sh_137 rfl rfl ?_
          obtain ⟨q117, e118, h⟩ := z_bd h
          refine g_callV (a := 137) (as := [.int (6 : Int32), .int (q41.2.1 137 15)]) (rest := []) (c := mX12_fail) (k1 := 0) dX12_readStep_53 rfl rfl rfl sh_137 rfl rfl (Nat.le_of_ble_eq_true rfl) (Nat.le_of_ble_eq_true rfl) (by omega) ?_
          refine A_X12_fail e118 ?_
          show z_G none (k + 1) mX12_readStep 56 [some (.ref 139), some (.int a1), some (.int q41.1), some (.int (1 : Int32)), none] [] q117.2 Q
          refine g_aload_n dX12_readStep_56 rfl rfl ?_
          refine g_get (a := 137) (v := .int (q117.2.1 137 12)) dX12_readStep_57 f_12_212 sh_137 rfl rfl ?_
          refine g_if_ne (t := 82) dX12_readStep_60 (by decide) (fun c119 => ?_) (fun c119 => ?_)
          · replace h := z_iff c119 h
            refine g_aload_n dX12_readStep_82 rfl rfl ?_
            refine g_get (a := 137) (v := .int (q117.2.1 137 12)) dX12_readStep_83 f_12_212 sh_137 rfl rfl ?_
            refine g_if_le (t := 90) dX12_readStep_86 (by decide) (fun c120 => ?_) (fun c120 => ?_)
            · replace h := z_ift c120 h
              refine g_sipush (v := (1605 : Int32)) dX12_readStep_90 (by decide) ?_
              refine g_bipush (v := (9 : Int32)) dX12_readStep_93 (by decide) ?_
              refine g_aload_n dX12_readStep_95 rfl rfl ?_
              refine g_get (a := 137) (v := .int (q117.2.1 137 25)) dX12_readStep_96 f_12_322 sh_137 rfl rfl ?_
              refine g_imul dX12_readStep_99 ?_
              refine g_iadd dX12_readStep_100 ?_
              refine g_istore (ls' := [some (.ref 139), some (.int a1), some (.int q41.1), some (.int (1 : Int32)), some (.int ((1605 : Int32) + ((9 : Int32) * (q117.2.1 137 25))))]) dX12_readStep_101 (Nat.le_of_ble_eq_true rfl) rfl ?_
              refine g_aload_n dX12_readStep_103 rfl rfl ?_
              refine g_dup dX12_readStep_104 rfl ?_
              refine g_get (a := 137) (v := .int (q117.2.1 137 25)) dX12_readStep_105 f_12_322 sh_137 rfl rfl ?_
              refine g_iconst (v := (1 : Int32)) dX12_readStep_108 (by decide) ?_
              refine g_iadd dX12_readStep_109 ?_
              refine g_putI (a := 137) dX12_readStep_110 f_12_322 sh_137 rfl rfl rfl ?_
              refine g_aload_n dX12_readStep_113 rfl rfl ?_
              obtain ⟨q121, e122, h⟩ := z_bd h
              refine g_callV (a := 137) (as := []) (rest := []) (c := mX12_advance) (k1 := 1) dX12_readStep_114 rfl rfl rfl sh_137 rfl rfl (Nat.le_of_ble_eq_true rfl) (Nat.le_of_ble_eq_true rfl) (by omega) ?_
              refine A_X12_advance e122 ?_
              show z_G none (k + 1) mX12_readStep 117 [some (.ref 139), some (.int a1), some (.int q41.1), some (.int (1 : Int32)), some (.int ((1605 : Int32) + ((9 : Int32) * (q117.2.1 137 25))))] [] q121.2 Q
              refine g_aload_n dX12_readStep_117 rfl rfl ?_
              refine g_get (a := 137) (v := .ref 144) dX12_readStep_118 f_12_35 sh_137 rfl rfl ?_
              refine g_iload dX12_readStep_121 rfl ?_
              refine g_iload_n dX12_readStep_123 rfl rfl ?_
              by_cases g123 : ((1605 : Int32) + ((9 : Int32) * (q117.2.1 137 25))) < 0 ∨ 1875 ≤ ((1605 : Int32) + ((9 : Int32) * (q117.2.1 137 25))).toNatClampNeg
              · rw [if_pos g123] at h; cases h
              replace h := z_iff g123 h
              refine g_iast (a := 142) dX12_readStep_124 sh_142 g123 ?_
              refine g_aload_n dX12_readStep_125 rfl rfl ?_
              refine g_iload dX12_readStep_126 rfl ?_
              obtain ⟨q124, e125, h⟩ := z_bd h
              refine g_callV (a := 137) (as := [.int ((1605 : Int32) + ((9 : Int32) * (q117.2.1 137 25)))]) (rest := []) (c := mX12_readRest) (k1 := 5) dX12_readStep_128 rfl rfl rfl sh_137 rfl rfl (Nat.le_of_ble_eq_true rfl) (Nat.le_of_ble_eq_true rfl) (by omega) ?_
              refine A_X12_readRest e125 ?_
              show z_G none (k + 1) mX12_readStep 131 [some (.ref 139), some (.int a1), some (.int q41.1), some (.int (1 : Int32)), some (.int ((1605 : Int32) + ((9 : Int32) * (q117.2.1 137 25))))] [] q124.2 Q
              refine g_aload_n dX12_readStep_131 rfl rfl ?_
              refine g_aload_n dX12_readStep_132 rfl rfl ?_
              refine g_bipush (v := (59 : Int32)) dX12_readStep_133 (by decide) ?_
              obtain ⟨q126, e127, h⟩ := z_bd h
              refine g_callV (a := 137) (as := [.int (59 : Int32)]) (rest := [.ref 139]) (c := mX12_isSign) (k1 := 0) dX12_readStep_135 rfl rfl rfl sh_137 rfl rfl (Nat.le_of_ble_eq_true rfl) (Nat.le_of_ble_eq_true rfl) (by omega) ?_
              refine A_X12_isSign e127 ?_
              show z_G none (k + 1) mX12_readStep 138 [some (.ref 139), some (.int a1), some (.int q41.1), some (.int (1 : Int32)), some (.int ((1605 : Int32) + ((9 : Int32) * (q117.2.1 137 25))))] [.int (z_tb q126.1), .ref 139] q126.2 Q
              obtain ⟨q128, e129, h⟩ := z_bd h
              refine g_callV (a := 137) (as := [.int (z_tb q126.1)]) (rest := []) (c := mX12_must) (k1 := 2) dX12_readStep_138 rfl rfl rfl sh_137 rfl rfl (Nat.le_of_ble_eq_true rfl) (Nat.le_of_ble_eq_true rfl) (by omega) ?_
              refine A_X12_must e129 ?_
              show z_G none (k + 1) mX12_readStep 141 [some (.ref 139), some (.int a1), some (.int q41.1), some (.int (1 : Int32)), some (.int ((1605 : Int32) + ((9 : Int32) * (q117.2.1 137 25))))] [] q128.2 Q
              exact g_sub (z_sub_s (z_sub_s (z_sub_n (z_sub_s (z_sub_s z_sub_nil))))) ((AL_X12_readStep (w := w) hk0 hG w) _ _ _ _ _ _ _ h hq)
            · replace h := z_iff c120 h
              cases h
              exact g_vret dX12_readStep_89 rfl hq
          · replace h := z_ift c119 h
            refine g_iload_n dX12_readStep_63 rfl rfl ?_
            refine g_if_eq (t := 82) dX12_readStep_64 (by decide) (fun c130 => ?_) (fun c130 => ?_)
            · exact absurd c130 (by decide)
            · skip
              refine g_iload_n dX12_readStep_67 rfl rfl ?_
              refine g_iconst (v := (3 : Int32)) dX12_readStep_68 (by decide) ?_
              refine g_ic_ne (t := 82) dX12_readStep_69 (by decide) (fun c131 => ?_) (fun c131 => ?_)
              · replace h := z_iff c131 h
                refine g_aload_n dX12_readStep_82 rfl rfl ?_
                refine g_get (a := 137) (v := .int (q117.2.1 137 12)) dX12_readStep_83 f_12_212 sh_137 rfl rfl ?_
                refine g_if_le (t := 90) dX12_readStep_86 (by decide) (fun c132 => ?_) (fun c132 => ?_)
                · replace h := z_ift c132 h
                  refine g_sipush (v := (1605 : Int32)) dX12_readStep_90 (by decide) ?_
                  refine g_bipush (v := (9 : Int32)) dX12_readStep_93 (by decide) ?_
                  refine g_aload_n dX12_readStep_95 rfl rfl ?_
                  refine g_get (a := 137) (v := .int (q117.2.1 137 25)) dX12_readStep_96 f_12_322 sh_137 rfl rfl ?_
                  refine g_imul dX12_readStep_99 ?_
                  refine g_iadd dX12_readStep_100 ?_
                  refine g_istore (ls' := [some (.ref 139), some (.int a1), some (.int q41.1), some (.int (1 : Int32)), some (.int ((1605 : Int32) + ((9 : Int32) * (q117.2.1 137 25))))]) dX12_readStep_101 (Nat.le_of_ble_eq_true rfl) rfl ?_
                  refine g_aload_n dX12_readStep_103 rfl rfl ?_
                  refine g_dup dX12_readStep_104 rfl ?_
                  refine g_get (a := 137) (v := .int (q117.2.1 137 25)) dX12_readStep_105 f_12_322 sh_137 rfl rfl ?_
                  refine g_iconst (v := (1 : Int32)) dX12_readStep_108 (by decide) ?_
                  refine g_iadd dX12_readStep_109 ?_
                  refine g_putI (a := 137) dX12_readStep_110 f_12_322 sh_137 rfl rfl rfl ?_
                  refine g_aload_n dX12_readStep_113 rfl rfl ?_
                  obtain ⟨q133, e134, h⟩ := z_bd h
                  refine g_callV (a := 137) (as := []) (rest := []) (c := mX12_advance) (k1 := 1) dX12_readStep_114 rfl rfl rfl sh_137 rfl rfl (Nat.le_of_ble_eq_true rfl) (Nat.le_of_ble_eq_true rfl) (by omega) ?_
                  refine A_X12_advance e134 ?_
                  show z_G none (k + 1) mX12_readStep 117 [some (.ref 139), some (.int a1), some (.int q41.1), some (.int (1 : Int32)), some (.int ((1605 : Int32) + ((9 : Int32) * (q117.2.1 137 25))))] [] q133.2 Q
                  refine g_aload_n dX12_readStep_117 rfl rfl ?_
                  refine g_get (a := 137) (v := .ref 144) dX12_readStep_118 f_12_35 sh_137 rfl rfl ?_
                  refine g_iload dX12_readStep_121 rfl ?_
                  refine g_iload_n dX12_readStep_123 rfl rfl ?_
                  by_cases g135 : ((1605 : Int32) + ((9 : Int32) * (q117.2.1 137 25))) < 0 ∨ 1875 ≤ ((1605 : Int32) + ((9 : Int32) * (q117.2.1 137 25))).toNatClampNeg
                  · rw [if_pos g135] at h; cases h
                  replace h := z_iff g135 h
                  refine g_iast (a := 142) dX12_readStep_124 sh_142 g135 ?_
                  refine g_aload_n dX12_readStep_125 rfl rfl ?_
                  refine g_iload dX12_readStep_126 rfl ?_
                  obtain ⟨q136, e137, h⟩ := z_bd h
                  refine g_callV (a := 137) (as := [.int ((1605 : Int32) + ((9 : Int32) * (q117.2.1 137 25)))]) (rest := []) (c := mX12_readRest) (k1 := 5) dX12_readStep_128 rfl rfl rfl sh_137 rfl rfl (Nat.le_of_ble_eq_true rfl) (Nat.le_of_ble_eq_true rfl) (by omega) ?_
                  refine A_X12_readRest e137 ?_
                  show z_G none (k + 1) mX12_readStep 131 [some (.ref 139), some (.int a1), some (.int q41.1), some (.int (1 : Int32)), some (.int ((1605 : Int32) + ((9 : Int32) * (q117.2.1 137 25))))] [] q136.2 Q
                  refine g_aload_n dX12_readStep_131 rfl rfl ?_
                  refine g_aload_n dX12_readStep_132 rfl rfl ?_
                  refine g_bipush (v := (59 : Int32)) dX12_readStep_133 (by decide) ?_
                  obtain ⟨q138, e139, h⟩ := z_bd h
                  refine g_callV (a := 137) (as := [.int (59 : Int32)]) (rest := [.ref 139]) (c := mX12_isSign) (k1 := 0) dX12_readStep_135 rfl rfl rfl sh_137 rfl rfl (Nat.le_of_ble_eq_true rfl) (Nat.le_of_ble_eq_true rfl) (by omega) ?_
                  refine A_X12_isSign e139 ?_
                  show z_G none (k + 1) mX12_readStep 138 [some (.ref 139), some (.int a1), some (.int q41.1), some (.int (1 : Int32)), some (.int ((1605 : Int32) + ((9 : Int32) * (q117.2.1 137 25))))] [.int (z_tb q138.1), .ref 139] q138.2 Q
                  obtain ⟨q140, e141, h⟩ := z_bd h
                  refine g_callV (a := 137) (as := [.int (z_tb q138.1)]) (rest := []) (c := mX12_must) (k1 := 2) dX12_readStep_138 rfl rfl rfl sh_137 rfl rfl (Nat.le_of_ble_eq_true rfl) (Nat.le_of_ble_eq_true rfl) (by omega) ?_
                  refine A_X12_must e141 ?_
                  show z_G none (k + 1) mX12_readStep 141 [some (.ref 139), some (.int a1), some (.int q41.1), some (.int (1 : Int32)), some (.int ((1605 : Int32) + ((9 : Int32) * (q117.2.1 137 25))))] [] q140.2 Q
                  exact g_sub (z_sub_s (z_sub_s (z_sub_n (z_sub_s (z_sub_s z_sub_nil))))) ((AL_X12_readStep (w := w) hk0 hG w) _ _ _ _ _ _ _ h hq)
                · replace h := z_iff c132 h
                  cases h
                  exact g_vret dX12_readStep_89 rfl hq
              · replace h := z_ift c131 h
                refine g_aload_n dX12_readStep_72 rfl rfl ?_
                refine g_bipush (v := (7 : Int32)) dX12_readStep_73 (by decide) ?_
                refine g_aload_n dX12_readStep_75 rfl rfl ?_
                refine g_get (a := 137) (v := .int (q117.2.1 137 15)) dX12_readStep_76 f_12_106 sh_137 rfl rfl ?_
                obtain ⟨q142, e143, h⟩ := z_bd h
                refine g_callV (a := 137) (as := [.int (7 : Int32), .int (q117.2.1 137 15)]) (rest := []) (c := mX12_fail) (k1 := 0) dX12_readStep_79 rfl rfl rfl sh_137 rfl rfl (Nat.le_of_ble_eq_true rfl) (Nat.le_of_ble_eq_true rfl) (by omega) ?_
                refine A_X12_fail e143 ?_
                show z_G none (k + 1) mX12_readStep 82 [some (.ref 139), some (.int a1), some (.int q41.1), some (.int (1 : Int32)), none] [] q142.2 Q
                refine g_aload_n dX12_readStep_82 rfl rfl ?_
                refine g_get (a := 137) (v := .int (q142.2.1 137 12)) dX12_readStep_83 f_12_212 sh_137 rfl rfl ?_
                refine g_if_le (t := 90) dX12_readStep_86 (by decide) (fun c144 => ?_) (fun c144 => ?_)
                · replace h := z_ift c144 h
                  refine g_sipush (v := (1605 : Int32)) dX12_readStep_90 (by decide) ?_
                  refine g_bipush (v := (9 : Int32)) dX12_readStep_93 (by decide) ?_
                  refine g_aload_n dX12_readStep_95 rfl rfl ?_
                  refine g_get (a := 137) (v := .int (q142.2.1 137 25)) dX12_readStep_96 f_12_322 sh_137 rfl rfl ?_
                  refine g_imul dX12_readStep_99 ?_
                  refine g_iadd dX12_readStep_100 ?_
                  refine g_istore (ls' := [some (.ref 139), some (.int a1), some (.int q41.1), some (.int (1 : Int32)), some (.int ((1605 : Int32) + ((9 : Int32) * (q142.2.1 137 25))))]) dX12_readStep_101 (Nat.le_of_ble_eq_true rfl) rfl ?_
                  refine g_aload_n dX12_readStep_103 rfl rfl ?_
                  refine g_dup dX12_readStep_104 rfl ?_
                  refine g_get (a := 137) (v := .int (q142.2.1 137 25)) dX12_readStep_105 f_12_322 sh_137 rfl rfl ?_
                  refine g_iconst (v := (1 : Int32)) dX12_readStep_108 (by decide) ?_
                  refine g_iadd dX12_readStep_109 ?_
                  refine g_putI (a := 137) dX12_readStep_110 f_12_322 sh_137 rfl rfl rfl ?_
                  refine g_aload_n dX12_readStep_113 rfl rfl ?_
                  obtain ⟨q145, e146, h⟩ := z_bd h
                  refine g_callV (a := 137) (as := []) (rest := []) (c := mX12_advance) (k1 := 1) dX12_readStep_114 rfl rfl rfl sh_137 rfl rfl (Nat.le_of_ble_eq_true rfl) (Nat.le_of_ble_eq_true rfl) (by omega) ?_
                  refine A_X12_advance e146 ?_
                  show z_G none (k + 1) mX12_readStep 117 [some (.ref 139), some (.int a1), some (.int q41.1), some (.int (1 : Int32)), some (.int ((1605 : Int32) + ((9 : Int32) * (q142.2.1 137 25))))] [] q145.2 Q
                  refine g_aload_n dX12_readStep_117 rfl rfl ?_
                  refine g_get (a := 137) (v := .ref 144) dX12_readStep_118 f_12_35 sh_137 rfl rfl ?_
                  refine g_iload dX12_readStep_121 rfl ?_
                  refine g_iload_n dX12_readStep_123 rfl rfl ?_
                  by_cases g147 : ((1605 : Int32) + ((9 : Int32) * (q142.2.1 137 25))) < 0 ∨ 1875 ≤ ((1605 : Int32) + ((9 : Int32) * (q142.2.1 137 25))).toNatClampNeg
                  · rw [if_pos g147] at h; cases h
                  replace h := z_iff g147 h
                  refine g_iast (a := 142) dX12_readStep_124 sh_142 g147 ?_
                  refine g_aload_n dX12_readStep_125 rfl rfl ?_
                  refine g_iload dX12_readStep_126 rfl ?_
                  obtain ⟨q148, e149, h⟩ := z_bd h
                  refine g_callV (a := 137) (as := [.int ((1605 : Int32) + ((9 : Int32) * (q142.2.1 137 25)))]) (rest := []) (c := mX12_readRest) (k1 := 5) dX12_readStep_128 rfl rfl rfl sh_137 rfl rfl (Nat.le_of_ble_eq_true rfl) (Nat.le_of_ble_eq_true rfl) (by omega) ?_
                  refine A_X12_readRest e149 ?_
                  show z_G none (k + 1) mX12_readStep 131 [some (.ref 139), some (.int a1), some (.int q41.1), some (.int (1 : Int32)), some (.int ((1605 : Int32) + ((9 : Int32) * (q142.2.1 137 25))))] [] q148.2 Q
                  refine g_aload_n dX12_readStep_131 rfl rfl ?_
                  refine g_aload_n dX12_readStep_132 rfl rfl ?_
                  refine g_bipush (v := (59 : Int32)) dX12_readStep_133 (by decide) ?_
                  obtain ⟨q150, e151, h⟩ := z_bd h
                  refine g_callV (a := 137) (as := [.int (59 : Int32)]) (rest := [.ref 139]) (c := mX12_isSign) (k1 := 0) dX12_readStep_135 rfl rfl rfl sh_137 rfl rfl (Nat.le_of_ble_eq_true rfl) (Nat.le_of_ble_eq_true rfl) (by omega) ?_
                  refine A_X12_isSign e151 ?_
                  show z_G none (k + 1) mX12_readStep 138 [some (.ref 139), some (.int a1), some (.int q41.1), some (.int (1 : Int32)), some (.int ((1605 : Int32) + ((9 : Int32) * (q142.2.1 137 25))))] [.int (z_tb q150.1), .ref 139] q150.2 Q
                  obtain ⟨q152, e153, h⟩ := z_bd h
                  refine g_callV (a := 137) (as := [.int (z_tb q150.1)]) (rest := []) (c := mX12_must) (k1 := 2) dX12_readStep_138 rfl rfl rfl sh_137 rfl rfl (Nat.le_of_ble_eq_true rfl) (Nat.le_of_ble_eq_true rfl) (by omega) ?_
                  refine A_X12_must e153 ?_
                  show z_G none (k + 1) mX12_readStep 141 [some (.ref 139), some (.int a1), some (.int q41.1), some (.int (1 : Int32)), some (.int ((1605 : Int32) + ((9 : Int32) * (q142.2.1 137 25))))] [] q152.2 Q
                  exact g_sub (z_sub_s (z_sub_s (z_sub_n (z_sub_s (z_sub_s z_sub_nil))))) ((AL_X12_readStep (w := w) hk0 hG w) _ _ _ _ _ _ _ h hq)
                · replace h := z_iff c144 h
                  cases h
                  exact g_vret dX12_readStep_89 rfl hq
    · replace h := z_iff c44 h
      refine g_aload_n dX12_readStep_26 rfl rfl ?_
      obtain ⟨q154, e155, h⟩ := z_bd h
      refine g_callV (a := 137) (as := []) (rest := []) (c := mX12_amiss) (k1 := 1) dX12_readStep_27 rfl rfl rfl sh_137 rfl rfl (Nat.le_of_ble_eq_true rfl) (Nat.le_of_ble_eq_true rfl) (by omega) ?_
      refine A_X12_amiss e155 ?_
      show z_G none (k + 1) mX12_readStep 30 [some (.ref 139), some (.int a1), some (.int q41.1), some (.int (1 : Int32)), none] [] q154.2 Q
      refine g_aload_n dX12_readStep_30 rfl rfl ?_
      refine g_get (a := 137) (v := .int (q154.2.1 137 12)) dX12_readStep_31 f_12_212 sh_137 rfl rfl ?_
      refine g_if_ne (t := 56) dX12_readStep_34 (by decide) (fun c156 => ?_) (fun c156 => ?_)
      · replace h := z_iff c156 h
        refine g_aload_n dX12_readStep_56 rfl rfl ?_
        refine g_get (a := 137) (v := .int (q154.2.1 137 12)) dX12_readStep_57 f_12_212 sh_137 rfl rfl ?_
        refine g_if_ne (t := 82) dX12_readStep_60 (by decide) (fun c157 => ?_) (fun c157 => ?_)
        · replace h := z_iff c157 h
          refine g_aload_n dX12_readStep_82 rfl rfl ?_
          refine g_get (a := 137) (v := .int (q154.2.1 137 12)) dX12_readStep_83 f_12_212 sh_137 rfl rfl ?_
          refine g_if_le (t := 90) dX12_readStep_86 (by decide) (fun c158 => ?_) (fun c158 => ?_)
          · replace h := z_ift c158 h
            refine g_sipush (v := (1605 : Int32)) dX12_readStep_90 (by decide) ?_
            refine g_bipush (v := (9 : Int32)) dX12_readStep_93 (by decide) ?_
            refine g_aload_n dX12_readStep_95 rfl rfl ?_
            refine g_get (a := 137) (v := .int (q154.2.1 137 25)) dX12_readStep_96 f_12_322 sh_137 rfl rfl ?_
            refine g_imul dX12_readStep_99 ?_
            refine g_iadd dX12_readStep_100 ?_
            refine g_istore (ls' := [some (.ref 139), some (.int a1), some (.int q41.1), some (.int (1 : Int32)), some (.int ((1605 : Int32) + ((9 : Int32) * (q154.2.1 137 25))))]) dX12_readStep_101 (Nat.le_of_ble_eq_true rfl) rfl ?_
            refine g_aload_n dX12_readStep_103 rfl rfl ?_
            refine g_dup dX12_readStep_104 rfl ?_
            refine g_get (a := 137) (v := .int (q154.2.1 137 25)) dX12_readStep_105 f_12_322 sh_137 rfl rfl ?_
            refine g_iconst (v := (1 : Int32)) dX12_readStep_108 (by decide) ?_
            refine g_iadd dX12_readStep_109 ?_
            refine g_putI (a := 137) dX12_readStep_110 f_12_322 sh_137 rfl rfl rfl ?_
            refine g_aload_n dX12_readStep_113 rfl rfl ?_
            obtain ⟨q159, e160, h⟩ := z_bd h
            refine g_callV (a := 137) (as := []) (rest := []) (c := mX12_advance) (k1 := 1) dX12_readStep_114 rfl rfl rfl sh_137 rfl rfl (Nat.le_of_ble_eq_true rfl) (Nat.le_of_ble_eq_true rfl) (by omega) ?_
            refine A_X12_advance e160 ?_
            show z_G none (k + 1) mX12_readStep 117 [some (.ref 139), some (.int a1), some (.int q41.1), some (.int (1 : Int32)), some (.int ((1605 : Int32) + ((9 : Int32) * (q154.2.1 137 25))))] [] q159.2 Q
            refine g_aload_n dX12_readStep_117 rfl rfl ?_
            refine g_get (a := 137) (v := .ref 144) dX12_readStep_118 f_12_35 sh_137 rfl rfl ?_
            refine g_iload dX12_readStep_121 rfl ?_
            refine g_iload_n dX12_readStep_123 rfl rfl ?_
            by_cases g161 : ((1605 : Int32) + ((9 : Int32) * (q154.2.1 137 25))) < 0 ∨ 1875 ≤ ((1605 : Int32) + ((9 : Int32) * (q154.2.1 137 25))).toNatClampNeg
            · rw [if_pos g161] at h; cases h
            replace h := z_iff g161 h
            refine g_iast (a := 142) dX12_readStep_124 sh_142 g161 ?_
            refine g_aload_n dX12_readStep_125 rfl rfl ?_
            refine g_iload dX12_readStep_126 rfl ?_
            obtain ⟨q162, e163, h⟩ := z_bd h
            refine g_callV (a := 137) (as := [.int ((1605 : Int32) + ((9 : Int32) * (q154.2.1 137 25)))]) (rest := []) (c := mX12_readRest) (k1 := 5) dX12_readStep_128 rfl rfl rfl sh_137 rfl rfl (Nat.le_of_ble_eq_true rfl) (Nat.le_of_ble_eq_true rfl) (by omega) ?_
            refine A_X12_readRest e163 ?_
            show z_G none (k + 1) mX12_readStep 131 [some (.ref 139), some (.int a1), some (.int q41.1), some (.int (1 : Int32)), some (.int ((1605 : Int32) + ((9 : Int32) * (q154.2.1 137 25))))] [] q162.2 Q
            refine g_aload_n dX12_readStep_131 rfl rfl ?_
            refine g_aload_n dX12_readStep_132 rfl rfl ?_
            refine g_bipush (v := (59 : Int32)) dX12_readStep_133 (by decide) ?_
            obtain ⟨q164, e165, h⟩ := z_bd h
            refine g_callV (a := 137) (as := [.int (59 : Int32)]) (rest := [.ref 139]) (c := mX12_isSign) (k1 := 0) dX12_readStep_135 rfl rfl rfl sh_137 rfl rfl (Nat.le_of_ble_eq_true rfl) (Nat.le_of_ble_eq_true rfl) (by omega) ?_
            refine A_X12_isSign e165 ?_
            show z_G none (k + 1) mX12_readStep 138 [some (.ref 139), some (.int a1), some (.int q41.1), some (.int (1 : Int32)), some (.int ((1605 : Int32) + ((9 : Int32) * (q154.2.1 137 25))))] [.int (z_tb q164.1), .ref 139] q164.2 Q
            obtain ⟨q166, e167, h⟩ := z_bd h
            refine g_callV (a := 137) (as := [.int (z_tb q164.1)]) (rest := []) (c := mX12_must) (k1 := 2) dX12_readStep_138 rfl rfl rfl sh_137 rfl rfl (Nat.le_of_ble_eq_true rfl) (Nat.le_of_ble_eq_true rfl) (by omega) ?_
            refine A_X12_must e167 ?_
            show z_G none (k + 1) mX12_readStep 141 [some (.ref 139), some (.int a1), some (.int q41.1), some (.int (1 : Int32)), some (.int ((1605 : Int32) + ((9 : Int32) * (q154.2.1 137 25))))] [] q166.2 Q
            exact g_sub (z_sub_s (z_sub_s (z_sub_n (z_sub_s (z_sub_s z_sub_nil))))) ((AL_X12_readStep (w := w) hk0 hG w) _ _ _ _ _ _ _ h hq)
          · replace h := z_iff c158 h
            cases h
            exact g_vret dX12_readStep_89 rfl hq
        · replace h := z_ift c157 h
          refine g_iload_n dX12_readStep_63 rfl rfl ?_
          refine g_if_eq (t := 82) dX12_readStep_64 (by decide) (fun c168 => ?_) (fun c168 => ?_)
          · exact absurd c168 (by decide)
          · skip
            refine g_iload_n dX12_readStep_67 rfl rfl ?_
            refine g_iconst (v := (3 : Int32)) dX12_readStep_68 (by decide) ?_
            refine g_ic_ne (t := 82) dX12_readStep_69 (by decide) (fun c169 => ?_) (fun c169 => ?_)
            · replace h := z_iff c169 h
              refine g_aload_n dX12_readStep_82 rfl rfl ?_
              refine g_get (a := 137) (v := .int (q154.2.1 137 12)) dX12_readStep_83 f_12_212 sh_137 rfl rfl ?_
              refine g_if_le (t := 90) dX12_readStep_86 (by decide) (fun c170 => ?_) (fun c170 => ?_)
              · replace h := z_ift c170 h
                refine g_sipush (v := (1605 : Int32)) dX12_readStep_90 (by decide) ?_
                refine g_bipush (v := (9 : Int32)) dX12_readStep_93 (by decide) ?_
                refine g_aload_n dX12_readStep_95 rfl rfl ?_
                refine g_get (a := 137) (v := .int (q154.2.1 137 25)) dX12_readStep_96 f_12_322 sh_137 rfl rfl ?_
                refine g_imul dX12_readStep_99 ?_
                refine g_iadd dX12_readStep_100 ?_
                refine g_istore (ls' := [some (.ref 139), some (.int a1), some (.int q41.1), some (.int (1 : Int32)), some (.int ((1605 : Int32) + ((9 : Int32) * (q154.2.1 137 25))))]) dX12_readStep_101 (Nat.le_of_ble_eq_true rfl) rfl ?_
                refine g_aload_n dX12_readStep_103 rfl rfl ?_
                refine g_dup dX12_readStep_104 rfl ?_
                refine g_get (a := 137) (v := .int (q154.2.1 137 25)) dX12_readStep_105 f_12_322 sh_137 rfl rfl ?_
                refine g_iconst (v := (1 : Int32)) dX12_readStep_108 (by decide) ?_
                refine g_iadd dX12_readStep_109 ?_
                refine g_putI (a := 137) dX12_readStep_110 f_12_322 sh_137 rfl rfl rfl ?_
                refine g_aload_n dX12_readStep_113 rfl rfl ?_
                obtain ⟨q171, e172, h⟩ := z_bd h
                refine g_callV (a := 137) (as := []) (rest := []) (c := mX12_advance) (k1 := 1) dX12_readStep_114 rfl rfl rfl sh_137 rfl rfl (Nat.le_of_ble_eq_true rfl) (Nat.le_of_ble_eq_true rfl) (by omega) ?_
                refine A_X12_advance e172 ?_
                show z_G none (k + 1) mX12_readStep 117 [some (.ref 139), some (.int a1), some (.int q41.1), some (.int (1 : Int32)), some (.int ((1605 : Int32) + ((9 : Int32) * (q154.2.1 137 25))))] [] q171.2 Q
                refine g_aload_n dX12_readStep_117 rfl rfl ?_
                refine g_get (a := 137) (v := .ref 144) dX12_readStep_118 f_12_35 sh_137 rfl rfl ?_
                refine g_iload dX12_readStep_121 rfl ?_
                refine g_iload_n dX12_readStep_123 rfl rfl ?_
                by_cases g173 : ((1605 : Int32) + ((9 : Int32) * (q154.2.1 137 25))) < 0 ∨ 1875 ≤ ((1605 : Int32) + ((9 : Int32) * (q154.2.1 137 25))).toNatClampNeg
                · rw [if_pos g173] at h; cases h
                replace h := z_iff g173 h
                refine g_iast (a := 142) dX12_readStep_124 sh_142 g173 ?_
                refine g_aload_n dX12_readStep_125 rfl rfl ?_
                refine g_iload dX12_readStep_126 rfl ?_
                obtain ⟨q174, e175, h⟩ := z_bd h
                refine g_callV (a := 137) (as := [.int ((1605 : Int32) + ((9 : Int32) * (q154.2.1 137 25)))]) (rest := []) (c := mX12_readRest) (k1 := 5) dX12_readStep_128 rfl rfl rfl sh_137 rfl rfl (Nat.le_of_ble_eq_true rfl) (Nat.le_of_ble_eq_true rfl) (by omega) ?_
                refine A_X12_readRest e175 ?_
                show z_G none (k + 1) mX12_readStep 131 [some (.ref 139), some (.int a1), some (.int q41.1), some (.int (1 : Int32)), some (.int ((1605 : Int32) + ((9 : Int32) * (q154.2.1 137 25))))] [] q174.2 Q
                refine g_aload_n dX12_readStep_131 rfl rfl ?_
                refine g_aload_n dX12_readStep_132 rfl rfl ?_
                refine g_bipush (v := (59 : Int32)) dX12_readStep_133 (by decide) ?_
                obtain ⟨q176, e177, h⟩ := z_bd h
                refine g_callV (a := 137) (as := [.int (59 : Int32)]) (rest := [.ref 139]) (c := mX12_isSign) (k1 := 0) dX12_readStep_135 rfl rfl rfl sh_137 rfl rfl (Nat.le_of_ble_eq_true rfl) (Nat.le_of_ble_eq_true rfl) (by omega) ?_
                refine A_X12_isSign e177 ?_
                show z_G none (k + 1) mX12_readStep 138 [some (.ref 139), some (.int a1), some (.int q41.1), some (.int (1 : Int32)), some (.int ((1605 : Int32) + ((9 : Int32) * (q154.2.1 137 25))))] [.int (z_tb q176.1), .ref 139] q176.2 Q
                obtain ⟨q178, e179, h⟩ := z_bd h
                refine g_callV (a := 137) (as := [.int (z_tb q176.1)]) (rest := []) (c := mX12_must) (k1 := 2) dX12_readStep_138 rfl rfl rfl sh_137 rfl rfl (Nat.le_of_ble_eq_true rfl) (Nat.le_of_ble_eq_true rfl) (by omega) ?_
                refine A_X12_must e179 ?_
                show z_G none (k + 1) mX12_readStep 141 [some (.ref 139), some (.int a1), some (.int q41.1), some (.int (1 : Int32)), some (.int ((1605 : Int32) + ((9 : Int32) * (q154.2.1 137 25))))] [] q178.2 Q
                exact g_sub (z_sub_s (z_sub_s (z_sub_n (z_sub_s (z_sub_s z_sub_nil))))) ((AL_X12_readStep (w := w) hk0 hG w) _ _ _ _ _ _ _ h hq)
              · replace h := z_iff c170 h
                cases h
                exact g_vret dX12_readStep_89 rfl hq
            · replace h := z_ift c169 h
              refine g_aload_n dX12_readStep_72 rfl rfl ?_
              refine g_bipush (v := (7 : Int32)) dX12_readStep_73 (by decide) ?_
              refine g_aload_n dX12_readStep_75 rfl rfl ?_
              refine g_get (a := 137) (v := .int (q154.2.1 137 15)) dX12_readStep_76 f_12_106 sh_137 rfl rfl ?_
              obtain ⟨q180, e181, h⟩ := z_bd h
              refine g_callV (a := 137) (as := [.int (7 : Int32), .int (q154.2.1 137 15)]) (rest := []) (c := mX12_fail) (k1 := 0) dX12_readStep_79 rfl rfl rfl sh_137 rfl rfl (Nat.le_of_ble_eq_true rfl) (Nat.le_of_ble_eq_true rfl) (by omega) ?_
              refine A_X12_fail e181 ?_
              show z_G none (k + 1) mX12_readStep 82 [some (.ref 139), some (.int a1), some (.int q41.1), some (.int (1 : Int32)), none] [] q180.2 Q
              refine g_aload_n dX12_readStep_82 rfl rfl ?_
              refine g_get (a := 137) (v := .int (q180.2.1 137 12)) dX12_readStep_83 f_12_212 sh_137 rfl rfl ?_
              refine g_if_le (t := 90) dX12_readStep_86 (by decide) (fun c182 => ?_) (fun c182 => ?_)
              · replace h := z_ift c182 h
                refine g_sipush (v := (1605 : Int32)) dX12_readStep_90 (by decide) ?_
                refine g_bipush (v := (9 : Int32)) dX12_readStep_93 (by decide) ?_
                refine g_aload_n dX12_readStep_95 rfl rfl ?_
                refine g_get (a := 137) (v := .int (q180.2.1 137 25)) dX12_readStep_96 f_12_322 sh_137 rfl rfl ?_
                refine g_imul dX12_readStep_99 ?_
                refine g_iadd dX12_readStep_100 ?_
                refine g_istore (ls' := [some (.ref 139), some (.int a1), some (.int q41.1), some (.int (1 : Int32)), some (.int ((1605 : Int32) + ((9 : Int32) * (q180.2.1 137 25))))]) dX12_readStep_101 (Nat.le_of_ble_eq_true rfl) rfl ?_
                refine g_aload_n dX12_readStep_103 rfl rfl ?_
                refine g_dup dX12_readStep_104 rfl ?_
                refine g_get (a := 137) (v := .int (q180.2.1 137 25)) dX12_readStep_105 f_12_322 sh_137 rfl rfl ?_
                refine g_iconst (v := (1 : Int32)) dX12_readStep_108 (by decide) ?_
                refine g_iadd dX12_readStep_109 ?_
                refine g_putI (a := 137) dX12_readStep_110 f_12_322 sh_137 rfl rfl rfl ?_
                refine g_aload_n dX12_readStep_113 rfl rfl ?_
                obtain ⟨q183, e184, h⟩ := z_bd h
                refine g_callV (a := 137) (as := []) (rest := []) (c := mX12_advance) (k1 := 1) dX12_readStep_114 rfl rfl rfl sh_137 rfl rfl (Nat.le_of_ble_eq_true rfl) (Nat.le_of_ble_eq_true rfl) (by omega) ?_
                refine A_X12_advance e184 ?_
                show z_G none (k + 1) mX12_readStep 117 [some (.ref 139), some (.int a1), some (.int q41.1), some (.int (1 : Int32)), some (.int ((1605 : Int32) + ((9 : Int32) * (q180.2.1 137 25))))] [] q183.2 Q
                refine g_aload_n dX12_readStep_117 rfl rfl ?_
                refine g_get (a := 137) (v := .ref 144) dX12_readStep_118 f_12_35 sh_137 rfl rfl ?_
                refine g_iload dX12_readStep_121 rfl ?_
                refine g_iload_n dX12_readStep_123 rfl rfl ?_
                by_cases g185 : ((1605 : Int32) + ((9 : Int32) * (q180.2.1 137 25))) < 0 ∨ 1875 ≤ ((1605 : Int32) + ((9 : Int32) * (q180.2.1 137 25))).toNatClampNeg
                · rw [if_pos g185] at h; cases h
                replace h := z_iff g185 h
                refine g_iast (a := 142) dX12_readStep_124 sh_142 g185 ?_
                refine g_aload_n dX12_readStep_125 rfl rfl ?_
                refine g_iload dX12_readStep_126 rfl ?_
                obtain ⟨q186, e187, h⟩ := z_bd h
                refine g_callV (a := 137) (as := [.int ((1605 : Int32) + ((9 : Int32) * (q180.2.1 137 25)))]) (rest := []) (c := mX12_readRest) (k1 := 5) dX12_readStep_128 rfl rfl rfl sh_137 rfl rfl (Nat.le_of_ble_eq_true rfl) (Nat.le_of_ble_eq_true rfl) (by omega) ?_
                refine A_X12_readRest e187 ?_
                show z_G none (k + 1) mX12_readStep 131 [some (.ref 139), some (.int a1), some (.int q41.1), some (.int (1 : Int32)), some (.int ((1605 : Int32) + ((9 : Int32) * (q180.2.1 137 25))))] [] q186.2 Q
                refine g_aload_n dX12_readStep_131 rfl rfl ?_
                refine g_aload_n dX12_readStep_132 rfl rfl ?_
                refine g_bipush (v := (59 : Int32)) dX12_readStep_133 (by decide) ?_
                obtain ⟨q188, e189, h⟩ := z_bd h
                refine g_callV (a := 137) (as := [.int (59 : Int32)]) (rest := [.ref 139]) (c := mX12_isSign) (k1 := 0) dX12_readStep_135 rfl rfl rfl sh_137 rfl rfl (Nat.le_of_ble_eq_true rfl) (Nat.le_of_ble_eq_true rfl) (by omega) ?_
                refine A_X12_isSign e189 ?_
                show z_G none (k + 1) mX12_readStep 138 [some (.ref 139), some (.int a1), some (.int q41.1), some (.int (1 : Int32)), some (.int ((1605 : Int32) + ((9 : Int32) * (q180.2.1 137 25))))] [.int (z_tb q188.1), .ref 139] q188.2 Q
                obtain ⟨q190, e191, h⟩ := z_bd h
                refine g_callV (a := 137) (as := [.int (z_tb q188.1)]) (rest := []) (c := mX12_must) (k1 := 2) dX12_readStep_138 rfl rfl rfl sh_137 rfl rfl (Nat.le_of_ble_eq_true rfl) (Nat.le_of_ble_eq_true rfl) (by omega) ?_
                refine A_X12_must e191 ?_
                show z_G none (k + 1) mX12_readStep 141 [some (.ref 139), some (.int a1), some (.int q41.1), some (.int (1 : Int32)), some (.int ((1605 : Int32) + ((9 : Int32) * (q180.2.1 137 25))))] [] q190.2 Q
                exact g_sub (z_sub_s (z_sub_s (z_sub_n (z_sub_s (z_sub_s z_sub_nil))))) ((AL_X12_readStep (w := w) hk0 hG w) _ _ _ _ _ _ _ h hq)
              · replace h := z_iff c182 h
                cases h
                exact g_vret dX12_readStep_89 rfl hq
      · replace h := z_ift c156 h
        refine g_aload_n dX12_readStep_37 rfl rfl ?_
        refine g_get (a := 137) (v := .int (q154.2.1 137 25)) dX12_readStep_38 f_12_322 sh_137 rfl rfl ?_
        refine g_bipush (v := (30 : Int32)) dX12_readStep_41 (by decide) ?_
        refine g_ic_ne (t := 56) dX12_readStep_43 (by decide) (fun c192 => ?_) (fun c192 => ?_)
        · replace h := z_iff c192 h
          refine g_aload_n dX12_readStep_56 rfl rfl ?_
          refine g_get (a := 137) (v := .int (q154.2.1 137 12)) dX12_readStep_57 f_12_212 sh_137 rfl rfl ?_
          refine g_if_ne (t := 82) dX12_readStep_60 (by decide) (fun c193 => ?_) (fun c193 => ?_)
          · replace h := z_iff c193 h
            refine g_aload_n dX12_readStep_82 rfl rfl ?_
            refine g_get (a := 137) (v := .int (q154.2.1 137 12)) dX12_readStep_83 f_12_212 sh_137 rfl rfl ?_
            refine g_if_le (t := 90) dX12_readStep_86 (by decide) (fun c194 => ?_) (fun c194 => ?_)
            · replace h := z_ift c194 h
              refine g_sipush (v := (1605 : Int32)) dX12_readStep_90 (by decide) ?_
              refine g_bipush (v := (9 : Int32)) dX12_readStep_93 (by decide) ?_
              refine g_aload_n dX12_readStep_95 rfl rfl ?_
              refine g_get (a := 137) (v := .int (q154.2.1 137 25)) dX12_readStep_96 f_12_322 sh_137 rfl rfl ?_
              refine g_imul dX12_readStep_99 ?_
              refine g_iadd dX12_readStep_100 ?_
              refine g_istore (ls' := [some (.ref 139), some (.int a1), some (.int q41.1), some (.int (1 : Int32)), some (.int ((1605 : Int32) + ((9 : Int32) * (q154.2.1 137 25))))]) dX12_readStep_101 (Nat.le_of_ble_eq_true rfl) rfl ?_
              refine g_aload_n dX12_readStep_103 rfl rfl ?_
              refine g_dup dX12_readStep_104 rfl ?_
              refine g_get (a := 137) (v := .int (q154.2.1 137 25)) dX12_readStep_105 f_12_322 sh_137 rfl rfl ?_
              refine g_iconst (v := (1 : Int32)) dX12_readStep_108 (by decide) ?_
              refine g_iadd dX12_readStep_109 ?_
              refine g_putI (a := 137) dX12_readStep_110 f_12_322 sh_137 rfl rfl rfl ?_
              refine g_aload_n dX12_readStep_113 rfl rfl ?_
              obtain ⟨q195, e196, h⟩ := z_bd h
              refine g_callV (a := 137) (as := []) (rest := []) (c := mX12_advance) (k1 := 1) dX12_readStep_114 rfl rfl rfl sh_137 rfl rfl (Nat.le_of_ble_eq_true rfl) (Nat.le_of_ble_eq_true rfl) (by omega) ?_
              refine A_X12_advance e196 ?_
              show z_G none (k + 1) mX12_readStep 117 [some (.ref 139), some (.int a1), some (.int q41.1), some (.int (1 : Int32)), some (.int ((1605 : Int32) + ((9 : Int32) * (q154.2.1 137 25))))] [] q195.2 Q
              refine g_aload_n dX12_readStep_117 rfl rfl ?_
              refine g_get (a := 137) (v := .ref 144) dX12_readStep_118 f_12_35 sh_137 rfl rfl ?_
              refine g_iload dX12_readStep_121 rfl ?_
              refine g_iload_n dX12_readStep_123 rfl rfl ?_
              by_cases g197 : ((1605 : Int32) + ((9 : Int32) * (q154.2.1 137 25))) < 0 ∨ 1875 ≤ ((1605 : Int32) + ((9 : Int32) * (q154.2.1 137 25))).toNatClampNeg
              · rw [if_pos g197] at h; cases h
              replace h := z_iff g197 h
              refine g_iast (a := 142) dX12_readStep_124 sh_142 g197 ?_
              refine g_aload_n dX12_readStep_125 rfl rfl ?_
              refine g_iload dX12_readStep_126 rfl ?_
              obtain ⟨q198, e199, h⟩ := z_bd h
              refine g_callV (a := 137) (as := [.int ((1605 : Int32) + ((9 : Int32) * (q154.2.1 137 25)))]) (rest := []) (c := mX12_readRest) (k1 := 5) dX12_readStep_128 rfl rfl rfl sh_137 rfl rfl (Nat.le_of_ble_eq_true rfl) (Nat.le_of_ble_eq_true rfl) (by omega) ?_
              refine A_X12_readRest e199 ?_
              show z_G none (k + 1) mX12_readStep 131 [some (.ref 139), some (.int a1), some (.int q41.1), some (.int (1 : Int32)), some (.int ((1605 : Int32) + ((9 : Int32) * (q154.2.1 137 25))))] [] q198.2 Q
              refine g_aload_n dX12_readStep_131 rfl rfl ?_
              refine g_aload_n dX12_readStep_132 rfl rfl ?_
              refine g_bipush (v := (59 : Int32)) dX12_readStep_133 (by decide) ?_
              obtain ⟨q200, e201, h⟩ := z_bd h
              refine g_callV (a := 137) (as := [.int (59 : Int32)]) (rest := [.ref 139]) (c := mX12_isSign) (k1 := 0) dX12_readStep_135 rfl rfl rfl sh_137 rfl rfl (Nat.le_of_ble_eq_true rfl) (Nat.le_of_ble_eq_true rfl) (by omega) ?_
              refine A_X12_isSign e201 ?_
              show z_G none (k + 1) mX12_readStep 138 [some (.ref 139), some (.int a1), some (.int q41.1), some (.int (1 : Int32)), some (.int ((1605 : Int32) + ((9 : Int32) * (q154.2.1 137 25))))] [.int (z_tb q200.1), .ref 139] q200.2 Q
              obtain ⟨q202, e203, h⟩ := z_bd h
              refine g_callV (a := 137) (as := [.int (z_tb q200.1)]) (rest := []) (c := mX12_must) (k1 := 2) dX12_readStep_138 rfl rfl rfl sh_137 rfl rfl (Nat.le_of_ble_eq_true rfl) (Nat.le_of_ble_eq_true rfl) (by omega) ?_
              refine A_X12_must e203 ?_
              show z_G none (k + 1) mX12_readStep 141 [some (.ref 139), some (.int a1), some (.int q41.1), some (.int (1 : Int32)), some (.int ((1605 : Int32) + ((9 : Int32) * (q154.2.1 137 25))))] [] q202.2 Q
              exact g_sub (z_sub_s (z_sub_s (z_sub_n (z_sub_s (z_sub_s z_sub_nil))))) ((AL_X12_readStep (w := w) hk0 hG w) _ _ _ _ _ _ _ h hq)
            · replace h := z_iff c194 h
              cases h
              exact g_vret dX12_readStep_89 rfl hq
          · replace h := z_ift c193 h
            refine g_iload_n dX12_readStep_63 rfl rfl ?_
            refine g_if_eq (t := 82) dX12_readStep_64 (by decide) (fun c204 => ?_) (fun c204 => ?_)
            · exact absurd c204 (by decide)
            · skip
              refine g_iload_n dX12_readStep_67 rfl rfl ?_
              refine g_iconst (v := (3 : Int32)) dX12_readStep_68 (by decide) ?_
              refine g_ic_ne (t := 82) dX12_readStep_69 (by decide) (fun c205 => ?_) (fun c205 => ?_)
              · replace h := z_iff c205 h
                refine g_aload_n dX12_readStep_82 rfl rfl ?_
                refine g_get (a := 137) (v := .int (q154.2.1 137 12)) dX12_readStep_83 f_12_212 sh_137 rfl rfl ?_
                refine g_if_le (t := 90) dX12_readStep_86 (by decide) (fun c206 => ?_) (fun c206 => ?_)
                · replace h := z_ift c206 h
                  refine g_sipush (v := (1605 : Int32)) dX12_readStep_90 (by decide) ?_
                  refine g_bipush (v := (9 : Int32)) dX12_readStep_93 (by decide) ?_
                  refine g_aload_n dX12_readStep_95 rfl rfl ?_
                  refine g_get (a := 137) (v := .int (q154.2.1 137 25)) dX12_readStep_96 f_12_322 sh_137 rfl rfl ?_
                  refine g_imul dX12_readStep_99 ?_
                  refine g_iadd dX12_readStep_100 ?_
                  refine g_istore (ls' := [some (.ref 139), some (.int a1), some (.int q41.1), some (.int (1 : Int32)), some (.int ((1605 : Int32) + ((9 : Int32) * (q154.2.1 137 25))))]) dX12_readStep_101 (Nat.le_of_ble_eq_true rfl) rfl ?_
                  refine g_aload_n dX12_readStep_103 rfl rfl ?_
                  refine g_dup dX12_readStep_104 rfl ?_
                  refine g_get (a := 137) (v := .int (q154.2.1 137 25)) dX12_readStep_105 f_12_322 sh_137 rfl rfl ?_
                  refine g_iconst (v := (1 : Int32)) dX12_readStep_108 (by decide) ?_
                  refine g_iadd dX12_readStep_109 ?_
                  refine g_putI (a := 137) dX12_readStep_110 f_12_322 sh_137 rfl rfl rfl ?_
                  refine g_aload_n dX12_readStep_113 rfl rfl ?_
                  obtain ⟨q207, e208, h⟩ := z_bd h
                  refine g_callV (a := 137) (as := []) (rest := []) (c := mX12_advance) (k1 := 1) dX12_readStep_114 rfl rfl rfl sh_137 rfl rfl (Nat.le_of_ble_eq_true rfl) (Nat.le_of_ble_eq_true rfl) (by omega) ?_
                  refine A_X12_advance e208 ?_
                  show z_G none (k + 1) mX12_readStep 117 [some (.ref 139), some (.int a1), some (.int q41.1), some (.int (1 : Int32)), some (.int ((1605 : Int32) + ((9 : Int32) * (q154.2.1 137 25))))] [] q207.2 Q
                  refine g_aload_n dX12_readStep_117 rfl rfl ?_
                  refine g_get (a := 137) (v := .ref 144) dX12_readStep_118 f_12_35 sh_137 rfl rfl ?_
                  refine g_iload dX12_readStep_121 rfl ?_
                  refine g_iload_n dX12_readStep_123 rfl rfl ?_
                  by_cases g209 : ((1605 : Int32) + ((9 : Int32) * (q154.2.1 137 25))) < 0 ∨ 1875 ≤ ((1605 : Int32) + ((9 : Int32) * (q154.2.1 137 25))).toNatClampNeg
                  · rw [if_pos g209] at h; cases h
                  replace h := z_iff g209 h
                  refine g_iast (a := 142) dX12_readStep_124 sh_142 g209 ?_
                  refine g_aload_n dX12_readStep_125 rfl rfl ?_
                  refine g_iload dX12_readStep_126 rfl ?_
                  obtain ⟨q210, e211, h⟩ := z_bd h
                  refine g_callV (a := 137) (as := [.int ((1605 : Int32) + ((9 : Int32) * (q154.2.1 137 25)))]) (rest := []) (c := mX12_readRest) (k1 := 5) dX12_readStep_128 rfl rfl rfl sh_137 rfl rfl (Nat.le_of_ble_eq_true rfl) (Nat.le_of_ble_eq_true rfl) (by omega) ?_
                  refine A_X12_readRest e211 ?_
                  show z_G none (k + 1) mX12_readStep 131 [some (.ref 139), some (.int a1), some (.int q41.1), some (.int (1 : Int32)), some (.int ((1605 : Int32) + ((9 : Int32) * (q154.2.1 137 25))))] [] q210.2 Q
                  refine g_aload_n dX12_readStep_131 rfl rfl ?_
                  refine g_aload_n dX12_readStep_132 rfl rfl ?_
                  refine g_bipush (v := (59 : Int32)) dX12_readStep_133 (by decide) ?_
                  obtain ⟨q212, e213, h⟩ := z_bd h
                  refine g_callV (a := 137) (as := [.int (59 : Int32)]) (rest := [.ref 139]) (c := mX12_isSign) (k1 := 0) dX12_readStep_135 rfl rfl rfl sh_137 rfl rfl (Nat.le_of_ble_eq_true rfl) (Nat.le_of_ble_eq_true rfl) (by omega) ?_
                  refine A_X12_isSign e213 ?_
                  show z_G none (k + 1) mX12_readStep 138 [some (.ref 139), some (.int a1), some (.int q41.1), some (.int (1 : Int32)), some (.int ((1605 : Int32) + ((9 : Int32) * (q154.2.1 137 25))))] [.int (z_tb q212.1), .ref 139] q212.2 Q
                  obtain ⟨q214, e215, h⟩ := z_bd h
                  refine g_callV (a := 137) (as := [.int (z_tb q212.1)]) (rest := []) (c := mX12_must) (k1 := 2) dX12_readStep_138 rfl rfl rfl sh_137 rfl rfl (Nat.le_of_ble_eq_true rfl) (Nat.le_of_ble_eq_true rfl) (by omega) ?_
                  refine A_X12_must e215 ?_
                  show z_G none (k + 1) mX12_readStep 141 [some (.ref 139), some (.int a1), some (.int q41.1), some (.int (1 : Int32)), some (.int ((1605 : Int32) + ((9 : Int32) * (q154.2.1 137 25))))] [] q214.2 Q
                  exact g_sub (z_sub_s (z_sub_s (z_sub_n (z_sub_s (z_sub_s z_sub_nil))))) ((AL_X12_readStep (w := w) hk0 hG w) _ _ _ _ _ _ _ h hq)
                · replace h := z_iff c206 h
                  cases h
                  exact g_vret dX12_readStep_89 rfl hq
              · replace h := z_ift c205 h
                refine g_aload_n dX12_readStep_72 rfl rfl ?_
                refine g_bipush (v := (7 : Int32)) dX12_readStep_73 (by decide) ?_
                refine g_aload_n dX12_readStep_75 rfl rfl ?_
                refine g_get (a := 137) (v := .int (q154.2.1 137 15)) dX12_readStep_76 f_12_106 sh_137 rfl rfl ?_
                obtain ⟨q216, e217, h⟩ := z_bd h
                refine g_callV (a := 137) (as := [.int (7 : Int32), .int (q154.2.1 137 15)]) (rest := []) (c := mX12_fail) (k1 := 0) dX12_readStep_79 rfl rfl rfl sh_137 rfl rfl (Nat.le_of_ble_eq_true rfl) (Nat.le_of_ble_eq_true rfl) (by omega) ?_
                refine A_X12_fail e217 ?_
                show z_G none (k + 1) mX12_readStep 82 [some (.ref 139), some (.int a1), some (.int q41.1), some (.int (1 : Int32)), none] [] q216.2 Q
                refine g_aload_n dX12_readStep_82 rfl rfl ?_
                refine g_get (a := 137) (v := .int (q216.2.1 137 12)) dX12_readStep_83 f_12_212 sh_137 rfl rfl ?_
                refine g_if_le (t := 90) dX12_readStep_86 (by decide) (fun c218 => ?_) (fun c218 => ?_)
                · replace h := z_ift c218 h
                  refine g_sipush (v := (1605 : Int32)) dX12_readStep_90 (by decide) ?_
                  refine g_bipush (v := (9 : Int32)) dX12_readStep_93 (by decide) ?_
                  refine g_aload_n dX12_readStep_95 rfl rfl ?_
                  refine g_get (a := 137) (v := .int (q216.2.1 137 25)) dX12_readStep_96 f_12_322 sh_137 rfl rfl ?_
                  refine g_imul dX12_readStep_99 ?_
                  refine g_iadd dX12_readStep_100 ?_
                  refine g_istore (ls' := [some (.ref 139), some (.int a1), some (.int q41.1), some (.int (1 : Int32)), some (.int ((1605 : Int32) + ((9 : Int32) * (q216.2.1 137 25))))]) dX12_readStep_101 (Nat.le_of_ble_eq_true rfl) rfl ?_
                  refine g_aload_n dX12_readStep_103 rfl rfl ?_
                  refine g_dup dX12_readStep_104 rfl ?_
                  refine g_get (a := 137) (v := .int (q216.2.1 137 25)) dX12_readStep_105 f_12_322 sh_137 rfl rfl ?_
                  refine g_iconst (v := (1 : Int32)) dX12_readStep_108 (by decide) ?_
                  refine g_iadd dX12_readStep_109 ?_
                  refine g_putI (a := 137) dX12_readStep_110 f_12_322 sh_137 rfl rfl rfl ?_
                  refine g_aload_n dX12_readStep_113 rfl rfl ?_
                  obtain ⟨q219, e220, h⟩ := z_bd h
                  refine g_callV (a := 137) (as := []) (rest := []) (c := mX12_advance) (k1 := 1) dX12_readStep_114 rfl rfl rfl sh_137 rfl rfl (Nat.le_of_ble_eq_true rfl) (Nat.le_of_ble_eq_true rfl) (by omega) ?_
                  refine A_X12_advance e220 ?_
                  show z_G none (k + 1) mX12_readStep 117 [some (.ref 139), some (.int a1), some (.int q41.1), some (.int (1 : Int32)), some (.int ((1605 : Int32) + ((9 : Int32) * (q216.2.1 137 25))))] [] q219.2 Q
                  refine g_aload_n dX12_readStep_117 rfl rfl ?_
                  refine g_get (a := 137) (v := .ref 144) dX12_readStep_118 f_12_35 sh_137 rfl rfl ?_
                  refine g_iload dX12_readStep_121 rfl ?_
                  refine g_iload_n dX12_readStep_123 rfl rfl ?_
                  by_cases g221 : ((1605 : Int32) + ((9 : Int32) * (q216.2.1 137 25))) < 0 ∨ 1875 ≤ ((1605 : Int32) + ((9 : Int32) * (q216.2.1 137 25))).toNatClampNeg
                  · rw [if_pos g221] at h; cases h
                  replace h := z_iff g221 h
                  refine g_iast (a := 142) dX12_readStep_124 sh_142 g221 ?_
                  refine g_aload_n dX12_readStep_125 rfl rfl ?_
                  refine g_iload dX12_readStep_126 rfl ?_
                  obtain ⟨q222, e223, h⟩ := z_bd h
                  refine g_callV (a := 137) (as := [.int ((1605 : Int32) + ((9 : Int32) * (q216.2.1 137 25)))]) (rest := []) (c := mX12_readRest) (k1 := 5) dX12_readStep_128 rfl rfl rfl sh_137 rfl rfl (Nat.le_of_ble_eq_true rfl) (Nat.le_of_ble_eq_true rfl) (by omega) ?_
                  refine A_X12_readRest e223 ?_
                  show z_G none (k + 1) mX12_readStep 131 [some (.ref 139), some (.int a1), some (.int q41.1), some (.int (1 : Int32)), some (.int ((1605 : Int32) + ((9 : Int32) * (q216.2.1 137 25))))] [] q222.2 Q
                  refine g_aload_n dX12_readStep_131 rfl rfl ?_
                  refine g_aload_n dX12_readStep_132 rfl rfl ?_
                  refine g_bipush (v := (59 : Int32)) dX12_readStep_133 (by decide) ?_
                  obtain ⟨q224, e225, h⟩ := z_bd h
                  refine g_callV (a := 137) (as := [.int (59 : Int32)]) (rest := [.ref 139]) (c := mX12_isSign) (k1 := 0) dX12_readStep_135 rfl rfl rfl sh_137 rfl rfl (Nat.le_of_ble_eq_true rfl) (Nat.le_of_ble_eq_true rfl) (by omega) ?_
                  refine A_X12_isSign e225 ?_
                  show z_G none (k + 1) mX12_readStep 138 [some (.ref 139), some (.int a1), some (.int q41.1), some (.int (1 : Int32)), some (.int ((1605 : Int32) + ((9 : Int32) * (q216.2.1 137 25))))] [.int (z_tb q224.1), .ref 139] q224.2 Q
                  obtain ⟨q226, e227, h⟩ := z_bd h
                  refine g_callV (a := 137) (as := [.int (z_tb q224.1)]) (rest := []) (c := mX12_must) (k1 := 2) dX12_readStep_138 rfl rfl rfl sh_137 rfl rfl (Nat.le_of_ble_eq_true rfl) (Nat.le_of_ble_eq_true rfl) (by omega) ?_
                  refine A_X12_must e227 ?_
                  show z_G none (k + 1) mX12_readStep 141 [some (.ref 139), some (.int a1), some (.int q41.1), some (.int (1 : Int32)), some (.int ((1605 : Int32) + ((9 : Int32) * (q216.2.1 137 25))))] [] q226.2 Q
                  exact g_sub (z_sub_s (z_sub_s (z_sub_n (z_sub_s (z_sub_s z_sub_nil))))) ((AL_X12_readStep (w := w) hk0 hG w) _ _ _ _ _ _ _ h hq)
                · replace h := z_iff c218 h
                  cases h
                  exact g_vret dX12_readStep_89 rfl hq
        · replace h := z_ift c192 h
          refine g_aload_n dX12_readStep_46 rfl rfl ?_
          refine g_bipush (v := (6 : Int32)) dX12_readStep_47 (by decide) ?_
          refine g_aload_n dX12_readStep_49 rfl rfl ?_
          refine g_get (a := 137) (v := .int (q154.2.1 137 15)) dX12_readStep_50 f_12_106 sh_137 rfl rfl ?_
          obtain ⟨q228, e229, h⟩ := z_bd h
          refine g_callV (a := 137) (as := [.int (6 : Int32), .int (q154.2.1 137 15)]) (rest := []) (c := mX12_fail) (k1 := 0) dX12_readStep_53 rfl rfl rfl sh_137 rfl rfl (Nat.le_of_ble_eq_true rfl) (Nat.le_of_ble_eq_true rfl) (by omega) ?_
          refine A_X12_fail e229 ?_
          show z_G none (k + 1) mX12_readStep 56 [some (.ref 139), some (.int a1), some (.int q41.1), some (.int (1 : Int32)), none] [] q228.2 Q
          refine g_aload_n dX12_readStep_56 rfl rfl ?_
          refine g_get (a := 137) (v := .int (q228.2.1 137 12)) dX12_readStep_57 f_12_212 sh_137 rfl rfl ?_
          refine g_if_ne (t := 82) dX12_readStep_60 (by decide) (fun c230 => ?_) (fun c230 => ?_)
          · replace h := z_iff c230 h
            refine g_aload_n dX12_readStep_82 rfl rfl ?_
            refine g_get (a := 137) (v := .int (q228.2.1 137 12)) dX12_readStep_83 f_12_212 sh_137 rfl rfl ?_
            refine g_if_le (t := 90) dX12_readStep_86 (by decide) (fun c231 => ?_) (fun c231 => ?_)
            · replace h := z_ift c231 h
              refine g_sipush (v := (1605 : Int32)) dX12_readStep_90 (by decide) ?_
              refine g_bipush (v := (9 : Int32)) dX12_readStep_93 (by decide) ?_
              refine g_aload_n dX12_readStep_95 rfl rfl ?_
              refine g_get (a := 137) (v := .int (q228.2.1 137 25)) dX12_readStep_96 f_12_322 sh_137 rfl rfl ?_
              refine g_imul dX12_readStep_99 ?_
              refine g_iadd dX12_readStep_100 ?_
              refine g_istore (ls' := [some (.ref 139), some (.int a1), some (.int q41.1), some (.int (1 : Int32)), some (.int ((1605 : Int32) + ((9 : Int32) * (q228.2.1 137 25))))]) dX12_readStep_101 (Nat.le_of_ble_eq_true rfl) rfl ?_
              refine g_aload_n dX12_readStep_103 rfl rfl ?_
              refine g_dup dX12_readStep_104 rfl ?_
              refine g_get (a := 137) (v := .int (q228.2.1 137 25)) dX12_readStep_105 f_12_322 sh_137 rfl rfl ?_
              refine g_iconst (v := (1 : Int32)) dX12_readStep_108 (by decide) ?_
              refine g_iadd dX12_readStep_109 ?_
              refine g_putI (a := 137) dX12_readStep_110 f_12_322 sh_137 rfl rfl rfl ?_
              refine g_aload_n dX12_readStep_113 rfl rfl ?_
              obtain ⟨q232, e233, h⟩ := z_bd h
              refine g_callV (a := 137) (as := []) (rest := []) (c := mX12_advance) (k1 := 1) dX12_readStep_114 rfl rfl rfl sh_137 rfl rfl (Nat.le_of_ble_eq_true rfl) (Nat.le_of_ble_eq_true rfl) (by omega) ?_
              refine A_X12_advance e233 ?_
              show z_G none (k + 1) mX12_readStep 117 [some (.ref 139), some (.int a1), some (.int q41.1), some (.int (1 : Int32)), some (.int ((1605 : Int32) + ((9 : Int32) * (q228.2.1 137 25))))] [] q232.2 Q
              refine g_aload_n dX12_readStep_117 rfl rfl ?_
              refine g_get (a := 137) (v := .ref 144) dX12_readStep_118 f_12_35 sh_137 rfl rfl ?_
              refine g_iload dX12_readStep_121 rfl ?_
              refine g_iload_n dX12_readStep_123 rfl rfl ?_
              by_cases g234 : ((1605 : Int32) + ((9 : Int32) * (q228.2.1 137 25))) < 0 ∨ 1875 ≤ ((1605 : Int32) + ((9 : Int32) * (q228.2.1 137 25))).toNatClampNeg
              · rw [if_pos g234] at h; cases h
              replace h := z_iff g234 h
              refine g_iast (a := 142) dX12_readStep_124 sh_142 g234 ?_
              refine g_aload_n dX12_readStep_125 rfl rfl ?_
              refine g_iload dX12_readStep_126 rfl ?_
              obtain ⟨q235, e236, h⟩ := z_bd h
              refine g_callV (a := 137) (as := [.int ((1605 : Int32) + ((9 : Int32) * (q228.2.1 137 25)))]) (rest := []) (c := mX12_readRest) (k1 := 5) dX12_readStep_128 rfl rfl rfl sh_137 rfl rfl (Nat.le_of_ble_eq_true rfl) (Nat.le_of_ble_eq_true rfl) (by omega) ?_
              refine A_X12_readRest e236 ?_
              show z_G none (k + 1) mX12_readStep 131 [some (.ref 139), some (.int a1), some (.int q41.1), some (.int (1 : Int32)), some (.int ((1605 : Int32) + ((9 : Int32) * (q228.2.1 137 25))))] [] q235.2 Q
              refine g_aload_n dX12_readStep_131 rfl rfl ?_
              refine g_aload_n dX12_readStep_132 rfl rfl ?_
              refine g_bipush (v := (59 : Int32)) dX12_readStep_133 (by decide) ?_
              obtain ⟨q237, e238, h⟩ := z_bd h
              refine g_callV (a := 137) (as := [.int (59 : Int32)]) (rest := [.ref 139]) (c := mX12_isSign) (k1 := 0) dX12_readStep_135 rfl rfl rfl sh_137 rfl rfl (Nat.le_of_ble_eq_true rfl) (Nat.le_of_ble_eq_true rfl) (by omega) ?_
              refine A_X12_isSign e238 ?_
              show z_G none (k + 1) mX12_readStep 138 [some (.ref 139), some (.int a1), some (.int q41.1), some (.int (1 : Int32)), some (.int ((1605 : Int32) + ((9 : Int32) * (q228.2.1 137 25))))] [.int (z_tb q237.1), .ref 139] q237.2 Q
              obtain ⟨q239, e240, h⟩ := z_bd h
              refine g_callV (a := 137) (as := [.int (z_tb q237.1)]) (rest := []) (c := mX12_must) (k1 := 2) dX12_readStep_138 rfl rfl rfl sh_137 rfl rfl (Nat.le_of_ble_eq_true rfl) (Nat.le_of_ble_eq_true rfl) (by omega) ?_
              refine A_X12_must e240 ?_
              show z_G none (k + 1) mX12_readStep 141 [some (.ref 139), some (.int a1), some (.int q41.1), some (.int (1 : Int32)), some (.int ((1605 : Int32) + ((9 : Int32) * (q228.2.1 137 25))))] [] q239.2 Q
              exact g_sub (z_sub_s (z_sub_s (z_sub_n (z_sub_s (z_sub_s z_sub_nil))))) ((AL_X12_readStep (w := w) hk0 hG w) _ _ _ _ _ _ _ h hq)
            · replace h := z_iff c231 h
              cases h
              exact g_vret dX12_readStep_89 rfl hq
          · replace h := z_ift c230 h
            refine g_iload_n dX12_readStep_63 rfl rfl ?_
            refine g_if_eq (t := 82) dX12_readStep_64 (by decide) (fun c241 => ?_) (fun c241 => ?_)
            · exact absurd c241 (by decide)
            · skip
              refine g_iload_n dX12_readStep_67 rfl rfl ?_
              refine g_iconst (v := (3 : Int32)) dX12_readStep_68 (by decide) ?_
              refine g_ic_ne (t := 82) dX12_readStep_69 (by decide) (fun c242 => ?_) (fun c242 => ?_)
              · replace h := z_iff c242 h
                refine g_aload_n dX12_readStep_82 rfl rfl ?_
                refine g_get (a := 137) (v := .int (q228.2.1 137 12)) dX12_readStep_83 f_12_212 sh_137 rfl rfl ?_
                refine g_if_le (t := 90) dX12_readStep_86 (by decide) (fun c243 => ?_) (fun c243 => ?_)
                · replace h := z_ift c243 h
                  refine g_sipush (v := (1605 : Int32)) dX12_readStep_90 (by decide) ?_
                  refine g_bipush (v := (9 : Int32)) dX12_readStep_93 (by decide) ?_
                  refine g_aload_n dX12_readStep_95 rfl rfl ?_
                  refine g_get (a := 137) (v := .int (q228.2.1 137 25)) dX12_readStep_96 f_12_322 sh_137 rfl rfl ?_
                  refine g_imul dX12_readStep_99 ?_
                  refine g_iadd dX12_readStep_100 ?_
                  refine g_istore (ls' := [some (.ref 139), some (.int a1), some (.int q41.1), some (.int (1 : Int32)), some (.int ((1605 : Int32) + ((9 : Int32) * (q228.2.1 137 25))))]) dX12_readStep_101 (Nat.le_of_ble_eq_true rfl) rfl ?_
                  refine g_aload_n dX12_readStep_103 rfl rfl ?_
                  refine g_dup dX12_readStep_104 rfl ?_
                  refine g_get (a := 137) (v := .int (q228.2.1 137 25)) dX12_readStep_105 f_12_322 sh_137 rfl rfl ?_
                  refine g_iconst (v := (1 : Int32)) dX12_readStep_108 (by decide) ?_
                  refine g_iadd dX12_readStep_109 ?_
                  refine g_putI (a := 137) dX12_readStep_110 f_12_322 sh_137 rfl rfl rfl ?_
                  refine g_aload_n dX12_readStep_113 rfl rfl ?_
                  obtain ⟨q244, e245, h⟩ := z_bd h
                  refine g_callV (a := 137) (as := []) (rest := []) (c := mX12_advance) (k1 := 1) dX12_readStep_114 rfl rfl rfl sh_137 rfl rfl (Nat.le_of_ble_eq_true rfl) (Nat.le_of_ble_eq_true rfl) (by omega) ?_
                  refine A_X12_advance e245 ?_
                  show z_G none (k + 1) mX12_readStep 117 [some (.ref 139), some (.int a1), some (.int q41.1), some (.int (1 : Int32)), some (.int ((1605 : Int32) + ((9 : Int32) * (q228.2.1 137 25))))] [] q244.2 Q
                  refine g_aload_n dX12_readStep_117 rfl rfl ?_
                  refine g_get (a := 137) (v := .ref 144) dX12_readStep_118 f_12_35 sh_137 rfl rfl ?_
                  refine g_iload dX12_readStep_121 rfl ?_
                  refine g_iload_n dX12_readStep_123 rfl rfl ?_
                  by_cases g246 : ((1605 : Int32) + ((9 : Int32) * (q228.2.1 137 25))) < 0 ∨ 1875 ≤ ((1605 : Int32) + ((9 : Int32) * (q228.2.1 137 25))).toNatClampNeg
                  · rw [if_pos g246] at h; cases h
                  replace h := z_iff g246 h
                  refine g_iast (a := 142) dX12_readStep_124 sh_142 g246 ?_
                  refine g_aload_n dX12_readStep_125 rfl rfl ?_
                  refine g_iload dX12_readStep_126 rfl ?_
                  obtain ⟨q247, e248, h⟩ := z_bd h
                  refine g_callV (a := 137) (as := [.int ((1605 : Int32) + ((9 : Int32) * (q228.2.1 137 25)))]) (rest := []) (c := mX12_readRest) (k1 := 5) dX12_readStep_128 rfl rfl rfl sh_137 rfl rfl (Nat.le_of_ble_eq_true rfl) (Nat.le_of_ble_eq_true rfl) (by omega) ?_
                  refine A_X12_readRest e248 ?_
                  show z_G none (k + 1) mX12_readStep 131 [some (.ref 139), some (.int a1), some (.int q41.1), some (.int (1 : Int32)), some (.int ((1605 : Int32) + ((9 : Int32) * (q228.2.1 137 25))))] [] q247.2 Q
                  refine g_aload_n dX12_readStep_131 rfl rfl ?_
                  refine g_aload_n dX12_readStep_132 rfl rfl ?_
                  refine g_bipush (v := (59 : Int32)) dX12_readStep_133 (by decide) ?_
                  obtain ⟨q249, e250, h⟩ := z_bd h
                  refine g_callV (a := 137) (as := [.int (59 : Int32)]) (rest := [.ref 139]) (c := mX12_isSign) (k1 := 0) dX12_readStep_135 rfl rfl rfl sh_137 rfl rfl (Nat.le_of_ble_eq_true rfl) (Nat.le_of_ble_eq_true rfl) (by omega) ?_
                  refine A_X12_isSign e250 ?_
                  show z_G none (k + 1) mX12_readStep 138 [some (.ref 139), some (.int a1), some (.int q41.1), some (.int (1 : Int32)), some (.int ((1605 : Int32) + ((9 : Int32) * (q228.2.1 137 25))))] [.int (z_tb q249.1), .ref 139] q249.2 Q
                  obtain ⟨q251, e252, h⟩ := z_bd h
                  refine g_callV (a := 137) (as := [.int (z_tb q249.1)]) (rest := []) (c := mX12_must) (k1 := 2) dX12_readStep_138 rfl rfl rfl sh_137 rfl rfl (Nat.le_of_ble_eq_true rfl) (Nat.le_of_ble_eq_true rfl) (by omega) ?_
                  refine A_X12_must e252 ?_
                  show z_G none (k + 1) mX12_readStep 141 [some (.ref 139), some (.int a1), some (.int q41.1), some (.int (1 : Int32)), some (.int ((1605 : Int32) + ((9 : Int32) * (q228.2.1 137 25))))] [] q251.2 Q
                  exact g_sub (z_sub_s (z_sub_s (z_sub_n (z_sub_s (z_sub_s z_sub_nil))))) ((AL_X12_readStep (w := w) hk0 hG w) _ _ _ _ _ _ _ h hq)
                · replace h := z_iff c243 h
                  cases h
                  exact g_vret dX12_readStep_89 rfl hq
              · replace h := z_ift c242 h
                refine g_aload_n dX12_readStep_72 rfl rfl ?_
                refine g_bipush (v := (7 : Int32)) dX12_readStep_73 (by decide) ?_
                refine g_aload_n dX12_readStep_75 rfl rfl ?_
                refine g_get (a := 137) (v := .int (q228.2.1 137 15)) dX12_readStep_76 f_12_106 sh_137 rfl rfl ?_
                obtain ⟨q253, e254, h⟩ := z_bd h
                refine g_callV (a := 137) (as := [.int (7 : Int32), .int (q228.2.1 137 15)]) (rest := []) (c := mX12_fail) (k1 := 0) dX12_readStep_79 rfl rfl rfl sh_137 rfl rfl (Nat.le_of_ble_eq_true rfl) (Nat.le_of_ble_eq_true rfl) (by omega) ?_
                refine A_X12_fail e254 ?_
                show z_G none (k + 1) mX12_readStep 82 [some (.ref 139), some (.int a1), some (.int q41.1), some (.int (1 : Int32)), none] [] q253.2 Q
                refine g_aload_n dX12_readStep_82 rfl rfl ?_
                refine g_get (a := 137) (v := .int (q253.2.1 137 12)) dX12_readStep_83 f_12_212 sh_137 rfl rfl ?_
                refine g_if_le (t := 90) dX12_readStep_86 (by decide) (fun c255 => ?_) (fun c255 => ?_)
                · replace h := z_ift c255 h
                  refine g_sipush (v := (1605 : Int32)) dX12_readStep_90 (by decide) ?_
                  refine g_bipush (v := (9 : Int32)) dX12_readStep_93 (by decide) ?_
                  refine g_aload_n dX12_readStep_95 rfl rfl ?_
                  refine g_get (a := 137) (v := .int (q253.2.1 137 25)) dX12_readStep_96 f_12_322 sh_137 rfl rfl ?_
                  refine g_imul dX12_readStep_99 ?_
                  refine g_iadd dX12_readStep_100 ?_
                  refine g_istore (ls' := [some (.ref 139), some (.int a1), some (.int q41.1), some (.int (1 : Int32)), some (.int ((1605 : Int32) + ((9 : Int32) * (q253.2.1 137 25))))]) dX12_readStep_101 (Nat.le_of_ble_eq_true rfl) rfl ?_
                  refine g_aload_n dX12_readStep_103 rfl rfl ?_
                  refine g_dup dX12_readStep_104 rfl ?_
                  refine g_get (a := 137) (v := .int (q253.2.1 137 25)) dX12_readStep_105 f_12_322 sh_137 rfl rfl ?_
                  refine g_iconst (v := (1 : Int32)) dX12_readStep_108 (by decide) ?_
                  refine g_iadd dX12_readStep_109 ?_
                  refine g_putI (a := 137) dX12_readStep_110 f_12_322 sh_137 rfl rfl rfl ?_
                  refine g_aload_n dX12_readStep_113 rfl rfl ?_
                  obtain ⟨q256, e257, h⟩ := z_bd h
                  refine g_callV (a := 137) (as := []) (rest := []) (c := mX12_advance) (k1 := 1) dX12_readStep_114 rfl rfl rfl sh_137 rfl rfl (Nat.le_of_ble_eq_true rfl) (Nat.le_of_ble_eq_true rfl) (by omega) ?_
                  refine A_X12_advance e257 ?_
                  show z_G none (k + 1) mX12_readStep 117 [some (.ref 139), some (.int a1), some (.int q41.1), some (.int (1 : Int32)), some (.int ((1605 : Int32) + ((9 : Int32) * (q253.2.1 137 25))))] [] q256.2 Q
                  refine g_aload_n dX12_readStep_117 rfl rfl ?_
                  refine g_get (a := 137) (v := .ref 144) dX12_readStep_118 f_12_35 sh_137 rfl rfl ?_
                  refine g_iload dX12_readStep_121 rfl ?_
                  refine g_iload_n dX12_readStep_123 rfl rfl ?_
                  by_cases g258 : ((1605 : Int32) + ((9 : Int32) * (q253.2.1 137 25))) < 0 ∨ 1875 ≤ ((1605 : Int32) + ((9 : Int32) * (q253.2.1 137 25))).toNatClampNeg
                  · rw [if_pos g258] at h; cases h
                  replace h := z_iff g258 h
                  refine g_iast (a := 142) dX12_readStep_124 sh_142 g258 ?_
                  refine g_aload_n dX12_readStep_125 rfl rfl ?_
                  refine g_iload dX12_readStep_126 rfl ?_
                  obtain ⟨q259, e260, h⟩ := z_bd h
                  refine g_callV (a := 137) (as := [.int ((1605 : Int32) + ((9 : Int32) * (q253.2.1 137 25)))]) (rest := []) (c := mX12_readRest) (k1 := 5) dX12_readStep_128 rfl rfl rfl sh_137 rfl rfl (Nat.le_of_ble_eq_true rfl) (Nat.le_of_ble_eq_true rfl) (by omega) ?_
                  refine A_X12_readRest e260 ?_
                  show z_G none (k + 1) mX12_readStep 131 [some (.ref 139), some (.int a1), some (.int q41.1), some (.int (1 : Int32)), some (.int ((1605 : Int32) + ((9 : Int32) * (q253.2.1 137 25))))] [] q259.2 Q
                  refine g_aload_n dX12_readStep_131 rfl rfl ?_
                  refine g_aload_n dX12_readStep_132 rfl rfl ?_
                  refine g_bipush (v := (59 : Int32)) dX12_readStep_133 (by decide) ?_
                  obtain ⟨q261, e262, h⟩ := z_bd h
                  refine g_callV (a := 137) (as := [.int (59 : Int32)]) (rest := [.ref 139]) (c := mX12_isSign) (k1 := 0) dX12_readStep_135 rfl rfl rfl sh_137 rfl rfl (Nat.le_of_ble_eq_true rfl) (Nat.le_of_ble_eq_true rfl) (by omega) ?_
                  refine A_X12_isSign e262 ?_
                  show z_G none (k + 1) mX12_readStep 138 [some (.ref 139), some (.int a1), some (.int q41.1), some (.int (1 : Int32)), some (.int ((1605 : Int32) + ((9 : Int32) * (q253.2.1 137 25))))] [.int (z_tb q261.1), .ref 139] q261.2 Q
                  obtain ⟨q263, e264, h⟩ := z_bd h
                  refine g_callV (a := 137) (as := [.int (z_tb q261.1)]) (rest := []) (c := mX12_must) (k1 := 2) dX12_readStep_138 rfl rfl rfl sh_137 rfl rfl (Nat.le_of_ble_eq_true rfl) (Nat.le_of_ble_eq_true rfl) (by omega) ?_
                  refine A_X12_must e264 ?_
                  show z_G none (k + 1) mX12_readStep 141 [some (.ref 139), some (.int a1), some (.int q41.1), some (.int (1 : Int32)), some (.int ((1605 : Int32) + ((9 : Int32) * (q253.2.1 137 25))))] [] q263.2 Q
                  exact g_sub (z_sub_s (z_sub_s (z_sub_n (z_sub_s (z_sub_s z_sub_nil))))) ((AL_X12_readStep (w := w) hk0 hG w) _ _ _ _ _ _ _ h hq)
                · replace h := z_iff c255 h
                  cases h
                  exact g_vret dX12_readStep_89 rfl hq
  · replace h := z_iff c43 h
    refine g_iload_n dX12_readStep_10 rfl rfl ?_
    refine g_bipush (v := (6 : Int32)) dX12_readStep_11 (by decide) ?_
    refine g_ic_ne (t := 20) dX12_readStep_13 (by decide) (fun c265 => ?_) (fun c265 => ?_)
    · replace h := z_iff c265 h
      refine g_iconst (v := (0 : Int32)) dX12_readStep_20 (by decide) ?_
      refine g_istore_n (ls' := [some (.ref 139), some (.int a1), some (.int q41.1), some (.int (0 : Int32)), none]) dX12_readStep_21 rfl (Nat.le_of_ble_eq_true rfl) rfl ?_
      refine g_iload_n dX12_readStep_22 rfl rfl ?_
      refine g_if_ge (t := 30) dX12_readStep_23 (by decide) (fun c266 => ?_) (fun c266 => ?_)
      · replace h := z_ift c266 h
        refine g_aload_n dX12_readStep_30 rfl rfl ?_
        refine g_get (a := 137) (v := .int (q41.2.1 137 12)) dX12_readStep_31 f_12_212 sh_137 rfl rfl ?_
        refine g_if_ne (t := 56) dX12_readStep_34 (by decide) (fun c267 => ?_) (fun c267 => ?_)
        · replace h := z_iff c267 h
          refine g_aload_n dX12_readStep_56 rfl rfl ?_
          refine g_get (a := 137) (v := .int (q41.2.1 137 12)) dX12_readStep_57 f_12_212 sh_137 rfl rfl ?_
          refine g_if_ne (t := 82) dX12_readStep_60 (by decide) (fun c268 => ?_) (fun c268 => ?_)
          · replace h := z_iff c268 h
            refine g_aload_n dX12_readStep_82 rfl rfl ?_
            refine g_get (a := 137) (v := .int (q41.2.1 137 12)) dX12_readStep_83 f_12_212 sh_137 rfl rfl ?_
            refine g_if_le (t := 90) dX12_readStep_86 (by decide) (fun c269 => ?_) (fun c269 => ?_)
            · replace h := z_ift c269 h
              refine g_sipush (v := (1605 : Int32)) dX12_readStep_90 (by decide) ?_
              refine g_bipush (v := (9 : Int32)) dX12_readStep_93 (by decide) ?_
              refine g_aload_n dX12_readStep_95 rfl rfl ?_
              refine g_get (a := 137) (v := .int (q41.2.1 137 25)) dX12_readStep_96 f_12_322 sh_137 rfl rfl ?_
              refine g_imul dX12_readStep_99 ?_
              refine g_iadd dX12_readStep_100 ?_
              refine g_istore (ls' := [some (.ref 139), some (.int a1), some (.int q41.1), some (.int (0 : Int32)), some (.int ((1605 : Int32) + ((9 : Int32) * (q41.2.1 137 25))))]) dX12_readStep_101 (Nat.le_of_ble_eq_true rfl) rfl ?_
              refine g_aload_n dX12_readStep_103 rfl rfl ?_
              refine g_dup dX12_readStep_104 rfl ?_
              refine g_get (a := 137) (v := .int (q41.2.1 137 25)) dX12_readStep_105 f_12_322 sh_137 rfl rfl ?_
              refine g_iconst (v := (1 : Int32)) dX12_readStep_108 (by decide) ?_
              refine g_iadd dX12_readStep_109 ?_
              refine g_putI (a := 137) dX12_readStep_110 f_12_322 sh_137 rfl rfl rfl ?_
              refine g_aload_n dX12_readStep_113 rfl rfl ?_
              obtain ⟨q270, e271, h⟩ := z_bd h
              refine g_callV (a := 137) (as := []) (rest := []) (c := mX12_advance) (k1 := 1) dX12_readStep_114 rfl rfl rfl sh_137 rfl rfl (Nat.le_of_ble_eq_true rfl) (Nat.le_of_ble_eq_true rfl) (by omega) ?_
              refine A_X12_advance e271 ?_
              show z_G none (k + 1) mX12_readStep 117 [some (.ref 139), some (.int a1), some (.int q41.1), some (.int (0 : Int32)), some (.int ((1605 : Int32) + ((9 : Int32) * (q41.2.1 137 25))))] [] q270.2 Q
              refine g_aload_n dX12_readStep_117 rfl rfl ?_
              refine g_get (a := 137) (v := .ref 144) dX12_readStep_118 f_12_35 sh_137 rfl rfl ?_
              refine g_iload dX12_readStep_121 rfl ?_
              refine g_iload_n dX12_readStep_123 rfl rfl ?_
              by_cases g272 : ((1605 : Int32) + ((9 : Int32) * (q41.2.1 137 25))) < 0 ∨ 1875 ≤ ((1605 : Int32) + ((9 : Int32) * (q41.2.1 137 25))).toNatClampNeg
              · rw [if_pos g272] at h; cases h
              replace h := z_iff g272 h
              refine g_iast (a := 142) dX12_readStep_124 sh_142 g272 ?_
              refine g_aload_n dX12_readStep_125 rfl rfl ?_
              refine g_iload dX12_readStep_126 rfl ?_
              obtain ⟨q273, e274, h⟩ := z_bd h
              refine g_callV (a := 137) (as := [.int ((1605 : Int32) + ((9 : Int32) * (q41.2.1 137 25)))]) (rest := []) (c := mX12_readRest) (k1 := 5) dX12_readStep_128 rfl rfl rfl sh_137 rfl rfl (Nat.le_of_ble_eq_true rfl) (Nat.le_of_ble_eq_true rfl) (by omega) ?_
              refine A_X12_readRest e274 ?_
              show z_G none (k + 1) mX12_readStep 131 [some (.ref 139), some (.int a1), some (.int q41.1), some (.int (0 : Int32)), some (.int ((1605 : Int32) + ((9 : Int32) * (q41.2.1 137 25))))] [] q273.2 Q
              refine g_aload_n dX12_readStep_131 rfl rfl ?_
              refine g_aload_n dX12_readStep_132 rfl rfl ?_
              refine g_bipush (v := (59 : Int32)) dX12_readStep_133 (by decide) ?_
              obtain ⟨q275, e276, h⟩ := z_bd h
              refine g_callV (a := 137) (as := [.int (59 : Int32)]) (rest := [.ref 139]) (c := mX12_isSign) (k1 := 0) dX12_readStep_135 rfl rfl rfl sh_137 rfl rfl (Nat.le_of_ble_eq_true rfl) (Nat.le_of_ble_eq_true rfl) (by omega) ?_
              refine A_X12_isSign e276 ?_
              show z_G none (k + 1) mX12_readStep 138 [some (.ref 139), some (.int a1), some (.int q41.1), some (.int (0 : Int32)), some (.int ((1605 : Int32) + ((9 : Int32) * (q41.2.1 137 25))))] [.int (z_tb q275.1), .ref 139] q275.2 Q
              obtain ⟨q277, e278, h⟩ := z_bd h
              refine g_callV (a := 137) (as := [.int (z_tb q275.1)]) (rest := []) (c := mX12_must) (k1 := 2) dX12_readStep_138 rfl rfl rfl sh_137 rfl rfl (Nat.le_of_ble_eq_true rfl) (Nat.le_of_ble_eq_true rfl) (by omega) ?_
              refine A_X12_must e278 ?_
              show z_G none (k + 1) mX12_readStep 141 [some (.ref 139), some (.int a1), some (.int q41.1), some (.int (0 : Int32)), some (.int ((1605 : Int32) + ((9 : Int32) * (q41.2.1 137 25))))] [] q277.2 Q
              exact g_sub (z_sub_s (z_sub_s (z_sub_n (z_sub_s (z_sub_s z_sub_nil))))) ((AL_X12_readStep (w := w) hk0 hG w) _ _ _ _ _ _ _ h hq)
            · replace h := z_iff c269 h
              cases h
              exact g_vret dX12_readStep_89 rfl hq
          · replace h := z_ift c268 h
            refine g_iload_n dX12_readStep_63 rfl rfl ?_
            refine g_if_eq (t := 82) dX12_readStep_64 (by decide) (fun c279 => ?_) (fun c279 => ?_)
            · skip
              refine g_aload_n dX12_readStep_82 rfl rfl ?_
              refine g_get (a := 137) (v := .int (q41.2.1 137 12)) dX12_readStep_83 f_12_212 sh_137 rfl rfl ?_
              refine g_if_le (t := 90) dX12_readStep_86 (by decide) (fun c280 => ?_) (fun c280 => ?_)
              · replace h := z_ift c280 h
                refine g_sipush (v := (1605 : Int32)) dX12_readStep_90 (by decide) ?_
                refine g_bipush (v := (9 : Int32)) dX12_readStep_93 (by decide) ?_
                refine g_aload_n dX12_readStep_95 rfl rfl ?_
                refine g_get (a := 137) (v := .int (q41.2.1 137 25)) dX12_readStep_96 f_12_322 sh_137 rfl rfl ?_
                refine g_imul dX12_readStep_99 ?_
                refine g_iadd dX12_readStep_100 ?_
                refine g_istore (ls' := [some (.ref 139), some (.int a1), some (.int q41.1), some (.int (0 : Int32)), some (.int ((1605 : Int32) + ((9 : Int32) * (q41.2.1 137 25))))]) dX12_readStep_101 (Nat.le_of_ble_eq_true rfl) rfl ?_
                refine g_aload_n dX12_readStep_103 rfl rfl ?_
                refine g_dup dX12_readStep_104 rfl ?_
                refine g_get (a := 137) (v := .int (q41.2.1 137 25)) dX12_readStep_105 f_12_322 sh_137 rfl rfl ?_
                refine g_iconst (v := (1 : Int32)) dX12_readStep_108 (by decide) ?_
                refine g_iadd dX12_readStep_109 ?_
                refine g_putI (a := 137) dX12_readStep_110 f_12_322 sh_137 rfl rfl rfl ?_
                refine g_aload_n dX12_readStep_113 rfl rfl ?_
                obtain ⟨q281, e282, h⟩ := z_bd h
                refine g_callV (a := 137) (as := []) (rest := []) (c := mX12_advance) (k1 := 1) dX12_readStep_114 rfl rfl rfl sh_137 rfl rfl (Nat.le_of_ble_eq_true rfl) (Nat.le_of_ble_eq_true rfl) (by omega) ?_
                refine A_X12_advance e282 ?_
                show z_G none (k + 1) mX12_readStep 117 [some (.ref 139), some (.int a1), some (.int q41.1), some (.int (0 : Int32)), some (.int ((1605 : Int32) + ((9 : Int32) * (q41.2.1 137 25))))] [] q281.2 Q
                refine g_aload_n dX12_readStep_117 rfl rfl ?_
                refine g_get (a := 137) (v := .ref 144) dX12_readStep_118 f_12_35 sh_137 rfl rfl ?_
                refine g_iload dX12_readStep_121 rfl ?_
                refine g_iload_n dX12_readStep_123 rfl rfl ?_
                by_cases g283 : ((1605 : Int32) + ((9 : Int32) * (q41.2.1 137 25))) < 0 ∨ 1875 ≤ ((1605 : Int32) + ((9 : Int32) * (q41.2.1 137 25))).toNatClampNeg
                · rw [if_pos g283] at h; cases h
                replace h := z_iff g283 h
                refine g_iast (a := 142) dX12_readStep_124 sh_142 g283 ?_
                refine g_aload_n dX12_readStep_125 rfl rfl ?_
                refine g_iload dX12_readStep_126 rfl ?_
                obtain ⟨q284, e285, h⟩ := z_bd h
                refine g_callV (a := 137) (as := [.int ((1605 : Int32) + ((9 : Int32) * (q41.2.1 137 25)))]) (rest := []) (c := mX12_readRest) (k1 := 5) dX12_readStep_128 rfl rfl rfl sh_137 rfl rfl (Nat.le_of_ble_eq_true rfl) (Nat.le_of_ble_eq_true rfl) (by omega) ?_
                refine A_X12_readRest e285 ?_
                show z_G none (k + 1) mX12_readStep 131 [some (.ref 139), some (.int a1), some (.int q41.1), some (.int (0 : Int32)), some (.int ((1605 : Int32) + ((9 : Int32) * (q41.2.1 137 25))))] [] q284.2 Q
                refine g_aload_n dX12_readStep_131 rfl rfl ?_
                refine g_aload_n dX12_readStep_132 rfl rfl ?_
                refine g_bipush (v := (59 : Int32)) dX12_readStep_133 (by decide) ?_
                obtain ⟨q286, e287, h⟩ := z_bd h
                refine g_callV (a := 137) (as := [.int (59 : Int32)]) (rest := [.ref 139]) (c := mX12_isSign) (k1 := 0) dX12_readStep_135 rfl rfl rfl sh_137 rfl rfl (Nat.le_of_ble_eq_true rfl) (Nat.le_of_ble_eq_true rfl) (by omega) ?_
                refine A_X12_isSign e287 ?_
                show z_G none (k + 1) mX12_readStep 138 [some (.ref 139), some (.int a1), some (.int q41.1), some (.int (0 : Int32)), some (.int ((1605 : Int32) + ((9 : Int32) * (q41.2.1 137 25))))] [.int (z_tb q286.1), .ref 139] q286.2 Q
                obtain ⟨q288, e289, h⟩ := z_bd h
                refine g_callV (a := 137) (as := [.int (z_tb q286.1)]) (rest := []) (c := mX12_must) (k1 := 2) dX12_readStep_138 rfl rfl rfl sh_137 rfl rfl (Nat.le_of_ble_eq_true rfl) (Nat.le_of_ble_eq_true rfl) (by omega) ?_
                refine A_X12_must e289 ?_
                show z_G none (k + 1) mX12_readStep 141 [some (.ref 139), some (.int a1), some (.int q41.1), some (.int (0 : Int32)), some (.int ((1605 : Int32) + ((9 : Int32) * (q41.2.1 137 25))))] [] q288.2 Q
                exact g_sub (z_sub_s (z_sub_s (z_sub_n (z_sub_s (z_sub_s z_sub_nil))))) ((AL_X12_readStep (w := w) hk0 hG w) _ _ _ _ _ _ _ h hq)
              · replace h := z_iff c280 h
                cases h
                exact g_vret dX12_readStep_89 rfl hq
            · exact absurd c279 (by decide)
        · replace h := z_ift c267 h
          refine g_aload_n dX12_readStep_37 rfl rfl ?_
          refine g_get (a := 137) (v := .int (q41.2.1 137 25)) dX12_readStep_38 f_12_322 sh_137 rfl rfl ?_
          refine g_bipush (v := (30 : Int32)) dX12_readStep_41 (by decide) ?_
          refine g_ic_ne (t := 56) dX12_readStep_43 (by decide) (fun c290 => ?_) (fun c290 => ?_)
          · replace h := z_iff c290 h
            refine g_aload_n dX12_readStep_56 rfl rfl ?_
            refine g_get (a := 137) (v := .int (q41.2.1 137 12)) dX12_readStep_57 f_12_212 sh_137 rfl rfl ?_
            refine g_if_ne (t := 82) dX12_readStep_60 (by decide) (fun c291 => ?_) (fun c291 => ?_)
            · replace h := z_iff c291 h
              refine g_aload_n dX12_readStep_82 rfl rfl ?_
              refine g_get (a := 137) (v := .int (q41.2.1 137 12)) dX12_readStep_83 f_12_212 sh_137 rfl rfl ?_
              refine g_if_le (t := 90) dX12_readStep_86 (by decide) (fun c292 => ?_) (fun c292 => ?_)
              · replace h := z_ift c292 h
                refine g_sipush (v := (1605 : Int32)) dX12_readStep_90 (by decide) ?_
                refine g_bipush (v := (9 : Int32)) dX12_readStep_93 (by decide) ?_
                refine g_aload_n dX12_readStep_95 rfl rfl ?_
                refine g_get (a := 137) (v := .int (q41.2.1 137 25)) dX12_readStep_96 f_12_322 sh_137 rfl rfl ?_
                refine g_imul dX12_readStep_99 ?_
                refine g_iadd dX12_readStep_100 ?_
                refine g_istore (ls' := [some (.ref 139), some (.int a1), some (.int q41.1), some (.int (0 : Int32)), some (.int ((1605 : Int32) + ((9 : Int32) * (q41.2.1 137 25))))]) dX12_readStep_101 (Nat.le_of_ble_eq_true rfl) rfl ?_
                refine g_aload_n dX12_readStep_103 rfl rfl ?_
                refine g_dup dX12_readStep_104 rfl ?_
                refine g_get (a := 137) (v := .int (q41.2.1 137 25)) dX12_readStep_105 f_12_322 sh_137 rfl rfl ?_
                refine g_iconst (v := (1 : Int32)) dX12_readStep_108 (by decide) ?_
                refine g_iadd dX12_readStep_109 ?_
                refine g_putI (a := 137) dX12_readStep_110 f_12_322 sh_137 rfl rfl rfl ?_
                refine g_aload_n dX12_readStep_113 rfl rfl ?_
                obtain ⟨q293, e294, h⟩ := z_bd h
                refine g_callV (a := 137) (as := []) (rest := []) (c := mX12_advance) (k1 := 1) dX12_readStep_114 rfl rfl rfl sh_137 rfl rfl (Nat.le_of_ble_eq_true rfl) (Nat.le_of_ble_eq_true rfl) (by omega) ?_
                refine A_X12_advance e294 ?_
                show z_G none (k + 1) mX12_readStep 117 [some (.ref 139), some (.int a1), some (.int q41.1), some (.int (0 : Int32)), some (.int ((1605 : Int32) + ((9 : Int32) * (q41.2.1 137 25))))] [] q293.2 Q
                refine g_aload_n dX12_readStep_117 rfl rfl ?_
                refine g_get (a := 137) (v := .ref 144) dX12_readStep_118 f_12_35 sh_137 rfl rfl ?_
                refine g_iload dX12_readStep_121 rfl ?_
                refine g_iload_n dX12_readStep_123 rfl rfl ?_
                by_cases g295 : ((1605 : Int32) + ((9 : Int32) * (q41.2.1 137 25))) < 0 ∨ 1875 ≤ ((1605 : Int32) + ((9 : Int32) * (q41.2.1 137 25))).toNatClampNeg
                · rw [if_pos g295] at h; cases h
                replace h := z_iff g295 h
                refine g_iast (a := 142) dX12_readStep_124 sh_142 g295 ?_
                refine g_aload_n dX12_readStep_125 rfl rfl ?_
                refine g_iload dX12_readStep_126 rfl ?_
                obtain ⟨q296, e297, h⟩ := z_bd h
                refine g_callV (a := 137) (as := [.int ((1605 : Int32) + ((9 : Int32) * (q41.2.1 137 25)))]) (rest := []) (c := mX12_readRest) (k1 := 5) dX12_readStep_128 rfl rfl rfl sh_137 rfl rfl (Nat.le_of_ble_eq_true rfl) (Nat.le_of_ble_eq_true rfl) (by omega) ?_
                refine A_X12_readRest e297 ?_
                show z_G none (k + 1) mX12_readStep 131 [some (.ref 139), some (.int a1), some (.int q41.1), some (.int (0 : Int32)), some (.int ((1605 : Int32) + ((9 : Int32) * (q41.2.1 137 25))))] [] q296.2 Q
                refine g_aload_n dX12_readStep_131 rfl rfl ?_
                refine g_aload_n dX12_readStep_132 rfl rfl ?_
                refine g_bipush (v := (59 : Int32)) dX12_readStep_133 (by decide) ?_
                obtain ⟨q298, e299, h⟩ := z_bd h
                refine g_callV (a := 137) (as := [.int (59 : Int32)]) (rest := [.ref 139]) (c := mX12_isSign) (k1 := 0) dX12_readStep_135 rfl rfl rfl sh_137 rfl rfl (Nat.le_of_ble_eq_true rfl) (Nat.le_of_ble_eq_true rfl) (by omega) ?_
                refine A_X12_isSign e299 ?_
                show z_G none (k + 1) mX12_readStep 138 [some (.ref 139), some (.int a1), some (.int q41.1), some (.int (0 : Int32)), some (.int ((1605 : Int32) + ((9 : Int32) * (q41.2.1 137 25))))] [.int (z_tb q298.1), .ref 139] q298.2 Q
                obtain ⟨q300, e301, h⟩ := z_bd h
                refine g_callV (a := 137) (as := [.int (z_tb q298.1)]) (rest := []) (c := mX12_must) (k1 := 2) dX12_readStep_138 rfl rfl rfl sh_137 rfl rfl (Nat.le_of_ble_eq_true rfl) (Nat.le_of_ble_eq_true rfl) (by omega) ?_
                refine A_X12_must e301 ?_
                show z_G none (k + 1) mX12_readStep 141 [some (.ref 139), some (.int a1), some (.int q41.1), some (.int (0 : Int32)), some (.int ((1605 : Int32) + ((9 : Int32) * (q41.2.1 137 25))))] [] q300.2 Q
                exact g_sub (z_sub_s (z_sub_s (z_sub_n (z_sub_s (z_sub_s z_sub_nil))))) ((AL_X12_readStep (w := w) hk0 hG w) _ _ _ _ _ _ _ h hq)
              · replace h := z_iff c292 h
                cases h
                exact g_vret dX12_readStep_89 rfl hq
            · replace h := z_ift c291 h
              refine g_iload_n dX12_readStep_63 rfl rfl ?_
              refine g_if_eq (t := 82) dX12_readStep_64 (by decide) (fun c302 => ?_) (fun c302 => ?_)
              · skip
                refine g_aload_n dX12_readStep_82 rfl rfl ?_
                refine g_get (a := 137) (v := .int (q41.2.1 137 12)) dX12_readStep_83 f_12_212 sh_137 rfl rfl ?_
                refine g_if_le (t := 90) dX12_readStep_86 (by decide) (fun c303 => ?_) (fun c303 => ?_)
                · replace h := z_ift c303 h
                  refine g_sipush (v := (1605 : Int32)) dX12_readStep_90 (by decide) ?_
                  refine g_bipush (v := (9 : Int32)) dX12_readStep_93 (by decide) ?_
                  refine g_aload_n dX12_readStep_95 rfl rfl ?_
                  refine g_get (a := 137) (v := .int (q41.2.1 137 25)) dX12_readStep_96 f_12_322 sh_137 rfl rfl ?_
                  refine g_imul dX12_readStep_99 ?_
                  refine g_iadd dX12_readStep_100 ?_
                  refine g_istore (ls' := [some (.ref 139), some (.int a1), some (.int q41.1), some (.int (0 : Int32)), some (.int ((1605 : Int32) + ((9 : Int32) * (q41.2.1 137 25))))]) dX12_readStep_101 (Nat.le_of_ble_eq_true rfl) rfl ?_
                  refine g_aload_n dX12_readStep_103 rfl rfl ?_
                  refine g_dup dX12_readStep_104 rfl ?_
                  refine g_get (a := 137) (v := .int (q41.2.1 137 25)) dX12_readStep_105 f_12_322 sh_137 rfl rfl ?_
                  refine g_iconst (v := (1 : Int32)) dX12_readStep_108 (by decide) ?_
                  refine g_iadd dX12_readStep_109 ?_
                  refine g_putI (a := 137) dX12_readStep_110 f_12_322 sh_137 rfl rfl rfl ?_
                  refine g_aload_n dX12_readStep_113 rfl rfl ?_
                  obtain ⟨q304, e305, h⟩ := z_bd h
                  refine g_callV (a := 137) (as := []) (rest := []) (c := mX12_advance) (k1 := 1) dX12_readStep_114 rfl rfl rfl sh_137 rfl rfl (Nat.le_of_ble_eq_true rfl) (Nat.le_of_ble_eq_true rfl) (by omega) ?_
                  refine A_X12_advance e305 ?_
                  show z_G none (k + 1) mX12_readStep 117 [some (.ref 139), some (.int a1), some (.int q41.1), some (.int (0 : Int32)), some (.int ((1605 : Int32) + ((9 : Int32) * (q41.2.1 137 25))))] [] q304.2 Q
                  refine g_aload_n dX12_readStep_117 rfl rfl ?_
                  refine g_get (a := 137) (v := .ref 144) dX12_readStep_118 f_12_35 sh_137 rfl rfl ?_
                  refine g_iload dX12_readStep_121 rfl ?_
                  refine g_iload_n dX12_readStep_123 rfl rfl ?_
                  by_cases g306 : ((1605 : Int32) + ((9 : Int32) * (q41.2.1 137 25))) < 0 ∨ 1875 ≤ ((1605 : Int32) + ((9 : Int32) * (q41.2.1 137 25))).toNatClampNeg
                  · rw [if_pos g306] at h; cases h
                  replace h := z_iff g306 h
                  refine g_iast (a := 142) dX12_readStep_124 sh_142 g306 ?_
                  refine g_aload_n dX12_readStep_125 rfl rfl ?_
                  refine g_iload dX12_readStep_126 rfl ?_
                  obtain ⟨q307, e308, h⟩ := z_bd h
                  refine g_callV (a := 137) (as := [.int ((1605 : Int32) + ((9 : Int32) * (q41.2.1 137 25)))]) (rest := []) (c := mX12_readRest) (k1 := 5) dX12_readStep_128 rfl rfl rfl sh_137 rfl rfl (Nat.le_of_ble_eq_true rfl) (Nat.le_of_ble_eq_true rfl) (by omega) ?_
                  refine A_X12_readRest e308 ?_
                  show z_G none (k + 1) mX12_readStep 131 [some (.ref 139), some (.int a1), some (.int q41.1), some (.int (0 : Int32)), some (.int ((1605 : Int32) + ((9 : Int32) * (q41.2.1 137 25))))] [] q307.2 Q
                  refine g_aload_n dX12_readStep_131 rfl rfl ?_
                  refine g_aload_n dX12_readStep_132 rfl rfl ?_
                  refine g_bipush (v := (59 : Int32)) dX12_readStep_133 (by decide) ?_
                  obtain ⟨q309, e310, h⟩ := z_bd h
                  refine g_callV (a := 137) (as := [.int (59 : Int32)]) (rest := [.ref 139]) (c := mX12_isSign) (k1 := 0) dX12_readStep_135 rfl rfl rfl sh_137 rfl rfl (Nat.le_of_ble_eq_true rfl) (Nat.le_of_ble_eq_true rfl) (by omega) ?_
                  refine A_X12_isSign e310 ?_
                  show z_G none (k + 1) mX12_readStep 138 [some (.ref 139), some (.int a1), some (.int q41.1), some (.int (0 : Int32)), some (.int ((1605 : Int32) + ((9 : Int32) * (q41.2.1 137 25))))] [.int (z_tb q309.1), .ref 139] q309.2 Q
                  obtain ⟨q311, e312, h⟩ := z_bd h
                  refine g_callV (a := 137) (as := [.int (z_tb q309.1)]) (rest := []) (c := mX12_must) (k1 := 2) dX12_readStep_138 rfl rfl rfl sh_137 rfl rfl (Nat.le_of_ble_eq_true rfl) (Nat.le_of_ble_eq_true rfl) (by omega) ?_
                  refine A_X12_must e312 ?_
                  show z_G none (k + 1) mX12_readStep 141 [some (.ref 139), some (.int a1), some (.int q41.1), some (.int (0 : Int32)), some (.int ((1605 : Int32) + ((9 : Int32) * (q41.2.1 137 25))))] [] q311.2 Q
                  exact g_sub (z_sub_s (z_sub_s (z_sub_n (z_sub_s (z_sub_s z_sub_nil))))) ((AL_X12_readStep (w := w) hk0 hG w) _ _ _ _ _ _ _ h hq)
                · replace h := z_iff c303 h
                  cases h
                  exact g_vret dX12_readStep_89 rfl hq
              · exact absurd c302 (by decide)
          · replace h := z_ift c290 h
            refine g_aload_n dX12_readStep_46 rfl rfl ?_
            refine g_bipush (v := (6 : Int32)) dX12_readStep_47 (by decide) ?_
            refine g_aload_n dX12_readStep_49 rfl rfl ?_
            refine g_get (a := 137) (v := .int (q41.2.1 137 15)) dX12_readStep_50 f_12_106 sh_137 rfl rfl ?_
            obtain ⟨q313, e314, h⟩ := z_bd h
            refine g_callV (a := 137) (as := [.int (6 : Int32), .int (q41.2.1 137 15)]) (rest := []) (c := mX12_fail) (k1 := 0) dX12_readStep_53 rfl rfl rfl sh_137 rfl rfl (Nat.le_of_ble_eq_true rfl) (Nat.le_of_ble_eq_true rfl) (by omega) ?_
            refine A_X12_fail e314 ?_
            show z_G none (k + 1) mX12_readStep 56 [some (.ref 139), some (.int a1), some (.int q41.1), some (.int (0 : Int32)), none] [] q313.2 Q
            refine g_aload_n dX12_readStep_56 rfl rfl ?_
            refine g_get (a := 137) (v := .int (q313.2.1 137 12)) dX12_readStep_57 f_12_212 sh_137 rfl rfl ?_
            refine g_if_ne (t := 82) dX12_readStep_60 (by decide) (fun c315 => ?_) (fun c315 => ?_)
            · replace h := z_iff c315 h
              refine g_aload_n dX12_readStep_82 rfl rfl ?_
              refine g_get (a := 137) (v := .int (q313.2.1 137 12)) dX12_readStep_83 f_12_212 sh_137 rfl rfl ?_
              refine g_if_le (t := 90) dX12_readStep_86 (by decide) (fun c316 => ?_) (fun c316 => ?_)
              · replace h := z_ift c316 h
                refine g_sipush (v := (1605 : Int32)) dX12_readStep_90 (by decide) ?_
                refine g_bipush (v := (9 : Int32)) dX12_readStep_93 (by decide) ?_
                refine g_aload_n dX12_readStep_95 rfl rfl ?_
                refine g_get (a := 137) (v := .int (q313.2.1 137 25)) dX12_readStep_96 f_12_322 sh_137 rfl rfl ?_
                refine g_imul dX12_readStep_99 ?_
                refine g_iadd dX12_readStep_100 ?_
                refine g_istore (ls' := [some (.ref 139), some (.int a1), some (.int q41.1), some (.int (0 : Int32)), some (.int ((1605 : Int32) + ((9 : Int32) * (q313.2.1 137 25))))]) dX12_readStep_101 (Nat.le_of_ble_eq_true rfl) rfl ?_
                refine g_aload_n dX12_readStep_103 rfl rfl ?_
                refine g_dup dX12_readStep_104 rfl ?_
                refine g_get (a := 137) (v := .int (q313.2.1 137 25)) dX12_readStep_105 f_12_322 sh_137 rfl rfl ?_
                refine g_iconst (v := (1 : Int32)) dX12_readStep_108 (by decide) ?_
                refine g_iadd dX12_readStep_109 ?_
                refine g_putI (a := 137) dX12_readStep_110 f_12_322 sh_137 rfl rfl rfl ?_
                refine g_aload_n dX12_readStep_113 rfl rfl ?_
                obtain ⟨q317, e318, h⟩ := z_bd h
                refine g_callV (a := 137) (as := []) (rest := []) (c := mX12_advance) (k1 := 1) dX12_readStep_114 rfl rfl rfl sh_137 rfl rfl (Nat.le_of_ble_eq_true rfl) (Nat.le_of_ble_eq_true rfl) (by omega) ?_
                refine A_X12_advance e318 ?_
                show z_G none (k + 1) mX12_readStep 117 [some (.ref 139), some (.int a1), some (.int q41.1), some (.int (0 : Int32)), some (.int ((1605 : Int32) + ((9 : Int32) * (q313.2.1 137 25))))] [] q317.2 Q
                refine g_aload_n dX12_readStep_117 rfl rfl ?_
                refine g_get (a := 137) (v := .ref 144) dX12_readStep_118 f_12_35 sh_137 rfl rfl ?_
                refine g_iload dX12_readStep_121 rfl ?_
                refine g_iload_n dX12_readStep_123 rfl rfl ?_
                by_cases g319 : ((1605 : Int32) + ((9 : Int32) * (q313.2.1 137 25))) < 0 ∨ 1875 ≤ ((1605 : Int32) + ((9 : Int32) * (q313.2.1 137 25))).toNatClampNeg
                · rw [if_pos g319] at h; cases h
                replace h := z_iff g319 h
                refine g_iast (a := 142) dX12_readStep_124 sh_142 g319 ?_
                refine g_aload_n dX12_readStep_125 rfl rfl ?_
                refine g_iload dX12_readStep_126 rfl ?_
                obtain ⟨q320, e321, h⟩ := z_bd h
                refine g_callV (a := 137) (as := [.int ((1605 : Int32) + ((9 : Int32) * (q313.2.1 137 25)))]) (rest := []) (c := mX12_readRest) (k1 := 5) dX12_readStep_128 rfl rfl rfl sh_137 rfl rfl (Nat.le_of_ble_eq_true rfl) (Nat.le_of_ble_eq_true rfl) (by omega) ?_
                refine A_X12_readRest e321 ?_
                show z_G none (k + 1) mX12_readStep 131 [some (.ref 139), some (.int a1), some (.int q41.1), some (.int (0 : Int32)), some (.int ((1605 : Int32) + ((9 : Int32) * (q313.2.1 137 25))))] [] q320.2 Q
                refine g_aload_n dX12_readStep_131 rfl rfl ?_
                refine g_aload_n dX12_readStep_132 rfl rfl ?_
                refine g_bipush (v := (59 : Int32)) dX12_readStep_133 (by decide) ?_
                obtain ⟨q322, e323, h⟩ := z_bd h
                refine g_callV (a := 137) (as := [.int (59 : Int32)]) (rest := [.ref 139]) (c := mX12_isSign) (k1 := 0) dX12_readStep_135 rfl rfl rfl sh_137 rfl rfl (Nat.le_of_ble_eq_true rfl) (Nat.le_of_ble_eq_true rfl) (by omega) ?_
                refine A_X12_isSign e323 ?_
                show z_G none (k + 1) mX12_readStep 138 [some (.ref 139), some (.int a1), some (.int q41.1), some (.int (0 : Int32)), some (.int ((1605 : Int32) + ((9 : Int32) * (q313.2.1 137 25))))] [.int (z_tb q322.1), .ref 139] q322.2 Q
                obtain ⟨q324, e325, h⟩ := z_bd h
                refine g_callV (a := 137) (as := [.int (z_tb q322.1)]) (rest := []) (c := mX12_must) (k1 := 2) dX12_readStep_138 rfl rfl rfl sh_137 rfl rfl (Nat.le_of_ble_eq_true rfl) (Nat.le_of_ble_eq_true rfl) (by omega) ?_
                refine A_X12_must e325 ?_
                show z_G none (k + 1) mX12_readStep 141 [some (.ref 139), some (.int a1), some (.int q41.1), some (.int (0 : Int32)), some (.int ((1605 : Int32) + ((9 : Int32) * (q313.2.1 137 25))))] [] q324.2 Q
                exact g_sub (z_sub_s (z_sub_s (z_sub_n (z_sub_s (z_sub_s z_sub_nil))))) ((AL_X12_readStep (w := w) hk0 hG w) _ _ _ _ _ _ _ h hq)
              · replace h := z_iff c316 h
                cases h
                exact g_vret dX12_readStep_89 rfl hq
            · replace h := z_ift c315 h
              refine g_iload_n dX12_readStep_63 rfl rfl ?_
              refine g_if_eq (t := 82) dX12_readStep_64 (by decide) (fun c326 => ?_) (fun c326 => ?_)
              · skip
                refine g_aload_n dX12_readStep_82 rfl rfl ?_
                refine g_get (a := 137) (v := .int (q313.2.1 137 12)) dX12_readStep_83 f_12_212 sh_137 rfl rfl ?_
                refine g_if_le (t := 90) dX12_readStep_86 (by decide) (fun c327 => ?_) (fun c327 => ?_)
                · replace h := z_ift c327 h
                  refine g_sipush (v := (1605 : Int32)) dX12_readStep_90 (by decide) ?_
                  refine g_bipush (v := (9 : Int32)) dX12_readStep_93 (by decide) ?_
                  refine g_aload_n dX12_readStep_95 rfl rfl ?_
                  refine g_get (a := 137) (v := .int (q313.2.1 137 25)) dX12_readStep_96 f_12_322 sh_137 rfl rfl ?_
                  refine g_imul dX12_readStep_99 ?_
                  refine g_iadd dX12_readStep_100 ?_
                  refine g_istore (ls' := [some (.ref 139), some (.int a1), some (.int q41.1), some (.int (0 : Int32)), some (.int ((1605 : Int32) + ((9 : Int32) * (q313.2.1 137 25))))]) dX12_readStep_101 (Nat.le_of_ble_eq_true rfl) rfl ?_
                  refine g_aload_n dX12_readStep_103 rfl rfl ?_
                  refine g_dup dX12_readStep_104 rfl ?_
                  refine g_get (a := 137) (v := .int (q313.2.1 137 25)) dX12_readStep_105 f_12_322 sh_137 rfl rfl ?_
                  refine g_iconst (v := (1 : Int32)) dX12_readStep_108 (by decide) ?_
                  refine g_iadd dX12_readStep_109 ?_
                  refine g_putI (a := 137) dX12_readStep_110 f_12_322 sh_137 rfl rfl rfl ?_
                  refine g_aload_n dX12_readStep_113 rfl rfl ?_
                  obtain ⟨q328, e329, h⟩ := z_bd h
                  refine g_callV (a := 137) (as := []) (rest := []) (c := mX12_advance) (k1 := 1) dX12_readStep_114 rfl rfl rfl sh_137 rfl rfl (Nat.le_of_ble_eq_true rfl) (Nat.le_of_ble_eq_true rfl) (by omega) ?_
                  refine A_X12_advance e329 ?_
                  show z_G none (k + 1) mX12_readStep 117 [some (.ref 139), some (.int a1), some (.int q41.1), some (.int (0 : Int32)), some (.int ((1605 : Int32) + ((9 : Int32) * (q313.2.1 137 25))))] [] q328.2 Q
                  refine g_aload_n dX12_readStep_117 rfl rfl ?_
                  refine g_get (a := 137) (v := .ref 144) dX12_readStep_118 f_12_35 sh_137 rfl rfl ?_
                  refine g_iload dX12_readStep_121 rfl ?_
                  refine g_iload_n dX12_readStep_123 rfl rfl ?_
                  by_cases g330 : ((1605 : Int32) + ((9 : Int32) * (q313.2.1 137 25))) < 0 ∨ 1875 ≤ ((1605 : Int32) + ((9 : Int32) * (q313.2.1 137 25))).toNatClampNeg
                  · rw [if_pos g330] at h; cases h
                  replace h := z_iff g330 h
                  refine g_iast (a := 142) dX12_readStep_124 sh_142 g330 ?_
                  refine g_aload_n dX12_readStep_125 rfl rfl ?_
                  refine g_iload dX12_readStep_126 rfl ?_
                  obtain ⟨q331, e332, h⟩ := z_bd h
                  refine g_callV (a := 137) (as := [.int ((1605 : Int32) + ((9 : Int32) * (q313.2.1 137 25)))]) (rest := []) (c := mX12_readRest) (k1 := 5) dX12_readStep_128 rfl rfl rfl sh_137 rfl rfl (Nat.le_of_ble_eq_true rfl) (Nat.le_of_ble_eq_true rfl) (by omega) ?_
                  refine A_X12_readRest e332 ?_
                  show z_G none (k + 1) mX12_readStep 131 [some (.ref 139), some (.int a1), some (.int q41.1), some (.int (0 : Int32)), some (.int ((1605 : Int32) + ((9 : Int32) * (q313.2.1 137 25))))] [] q331.2 Q
                  refine g_aload_n dX12_readStep_131 rfl rfl ?_
                  refine g_aload_n dX12_readStep_132 rfl rfl ?_
                  refine g_bipush (v := (59 : Int32)) dX12_readStep_133 (by decide) ?_
                  obtain ⟨q333, e334, h⟩ := z_bd h
                  refine g_callV (a := 137) (as := [.int (59 : Int32)]) (rest := [.ref 139]) (c := mX12_isSign) (k1 := 0) dX12_readStep_135 rfl rfl rfl sh_137 rfl rfl (Nat.le_of_ble_eq_true rfl) (Nat.le_of_ble_eq_true rfl) (by omega) ?_
                  refine A_X12_isSign e334 ?_
                  show z_G none (k + 1) mX12_readStep 138 [some (.ref 139), some (.int a1), some (.int q41.1), some (.int (0 : Int32)), some (.int ((1605 : Int32) + ((9 : Int32) * (q313.2.1 137 25))))] [.int (z_tb q333.1), .ref 139] q333.2 Q
                  obtain ⟨q335, e336, h⟩ := z_bd h
                  refine g_callV (a := 137) (as := [.int (z_tb q333.1)]) (rest := []) (c := mX12_must) (k1 := 2) dX12_readStep_138 rfl rfl rfl sh_137 rfl rfl (Nat.le_of_ble_eq_true rfl) (Nat.le_of_ble_eq_true rfl) (by omega) ?_
                  refine A_X12_must e336 ?_
                  show z_G none (k + 1) mX12_readStep 141 [some (.ref 139), some (.int a1), some (.int q41.1), some (.int (0 : Int32)), some (.int ((1605 : Int32) + ((9 : Int32) * (q313.2.1 137 25))))] [] q335.2 Q
                  exact g_sub (z_sub_s (z_sub_s (z_sub_n (z_sub_s (z_sub_s z_sub_nil))))) ((AL_X12_readStep (w := w) hk0 hG w) _ _ _ _ _ _ _ h hq)
                · replace h := z_iff c327 h
                  cases h
                  exact g_vret dX12_readStep_89 rfl hq
              · exact absurd c326 (by decide)
      · replace h := z_iff c266 h
        refine g_aload_n dX12_readStep_26 rfl rfl ?_
        obtain ⟨q337, e338, h⟩ := z_bd h
        refine g_callV (a := 137) (as := []) (rest := []) (c := mX12_amiss) (k1 := 1) dX12_readStep_27 rfl rfl rfl sh_137 rfl rfl (Nat.le_of_ble_eq_true rfl) (Nat.le_of_ble_eq_true rfl) (by omega) ?_
        refine A_X12_amiss e338 ?_
        show z_G none (k + 1) mX12_readStep 30 [some (.ref 139), some (.int a1), some (.int q41.1), some (.int (0 : Int32)), none] [] q337.2 Q
        refine g_aload_n dX12_readStep_30 rfl rfl ?_
        refine g_get (a := 137) (v := .int (q337.2.1 137 12)) dX12_readStep_31 f_12_212 sh_137 rfl rfl ?_
        refine g_if_ne (t := 56) dX12_readStep_34 (by decide) (fun c339 => ?_) (fun c339 => ?_)
        · replace h := z_iff c339 h
          refine g_aload_n dX12_readStep_56 rfl rfl ?_
          refine g_get (a := 137) (v := .int (q337.2.1 137 12)) dX12_readStep_57 f_12_212 sh_137 rfl rfl ?_
          refine g_if_ne (t := 82) dX12_readStep_60 (by decide) (fun c340 => ?_) (fun c340 => ?_)
          · replace h := z_iff c340 h
            refine g_aload_n dX12_readStep_82 rfl rfl ?_
            refine g_get (a := 137) (v := .int (q337.2.1 137 12)) dX12_readStep_83 f_12_212 sh_137 rfl rfl ?_
            refine g_if_le (t := 90) dX12_readStep_86 (by decide) (fun c341 => ?_) (fun c341 => ?_)
            · replace h := z_ift c341 h
              refine g_sipush (v := (1605 : Int32)) dX12_readStep_90 (by decide) ?_
              refine g_bipush (v := (9 : Int32)) dX12_readStep_93 (by decide) ?_
              refine g_aload_n dX12_readStep_95 rfl rfl ?_
              refine g_get (a := 137) (v := .int (q337.2.1 137 25)) dX12_readStep_96 f_12_322 sh_137 rfl rfl ?_
              refine g_imul dX12_readStep_99 ?_
              refine g_iadd dX12_readStep_100 ?_
              refine g_istore (ls' := [some (.ref 139), some (.int a1), some (.int q41.1), some (.int (0 : Int32)), some (.int ((1605 : Int32) + ((9 : Int32) * (q337.2.1 137 25))))]) dX12_readStep_101 (Nat.le_of_ble_eq_true rfl) rfl ?_
              refine g_aload_n dX12_readStep_103 rfl rfl ?_
              refine g_dup dX12_readStep_104 rfl ?_
              refine g_get (a := 137) (v := .int (q337.2.1 137 25)) dX12_readStep_105 f_12_322 sh_137 rfl rfl ?_
              refine g_iconst (v := (1 : Int32)) dX12_readStep_108 (by decide) ?_
              refine g_iadd dX12_readStep_109 ?_
              refine g_putI (a := 137) dX12_readStep_110 f_12_322 sh_137 rfl rfl rfl ?_
              refine g_aload_n dX12_readStep_113 rfl rfl ?_
              obtain ⟨q342, e343, h⟩ := z_bd h
              refine g_callV (a := 137) (as := []) (rest := []) (c := mX12_advance) (k1 := 1) dX12_readStep_114 rfl rfl rfl sh_137 rfl rfl (Nat.le_of_ble_eq_true rfl) (Nat.le_of_ble_eq_true rfl) (by omega) ?_
              refine A_X12_advance e343 ?_
              show z_G none (k + 1) mX12_readStep 117 [some (.ref 139), some (.int a1), some (.int q41.1), some (.int (0 : Int32)), some (.int ((1605 : Int32) + ((9 : Int32) * (q337.2.1 137 25))))] [] q342.2 Q
              refine g_aload_n dX12_readStep_117 rfl rfl ?_
              refine g_get (a := 137) (v := .ref 144) dX12_readStep_118 f_12_35 sh_137 rfl rfl ?_
              refine g_iload dX12_readStep_121 rfl ?_
              refine g_iload_n dX12_readStep_123 rfl rfl ?_
              by_cases g344 : ((1605 : Int32) + ((9 : Int32) * (q337.2.1 137 25))) < 0 ∨ 1875 ≤ ((1605 : Int32) + ((9 : Int32) * (q337.2.1 137 25))).toNatClampNeg
              · rw [if_pos g344] at h; cases h
              replace h := z_iff g344 h
              refine g_iast (a := 142) dX12_readStep_124 sh_142 g344 ?_
              refine g_aload_n dX12_readStep_125 rfl rfl ?_
              refine g_iload dX12_readStep_126 rfl ?_
              obtain ⟨q345, e346, h⟩ := z_bd h
              refine g_callV (a := 137) (as := [.int ((1605 : Int32) + ((9 : Int32) * (q337.2.1 137 25)))]) (rest := []) (c := mX12_readRest) (k1 := 5) dX12_readStep_128 rfl rfl rfl sh_137 rfl rfl (Nat.le_of_ble_eq_true rfl) (Nat.le_of_ble_eq_true rfl) (by omega) ?_
              refine A_X12_readRest e346 ?_
              show z_G none (k + 1) mX12_readStep 131 [some (.ref 139), some (.int a1), some (.int q41.1), some (.int (0 : Int32)), some (.int ((1605 : Int32) + ((9 : Int32) * (q337.2.1 137 25))))] [] q345.2 Q
              refine g_aload_n dX12_readStep_131 rfl rfl ?_
              refine g_aload_n dX12_readStep_132 rfl rfl ?_
              refine g_bipush (v := (59 : Int32)) dX12_readStep_133 (by decide) ?_
              obtain ⟨q347, e348, h⟩ := z_bd h
              refine g_callV (a := 137) (as := [.int (59 : Int32)]) (rest := [.ref 139]) (c := mX12_isSign) (k1 := 0) dX12_readStep_135 rfl rfl rfl sh_137 rfl rfl (Nat.le_of_ble_eq_true rfl) (Nat.le_of_ble_eq_true rfl) (by omega) ?_
              refine A_X12_isSign e348 ?_
              show z_G none (k + 1) mX12_readStep 138 [some (.ref 139), some (.int a1), some (.int q41.1), some (.int (0 : Int32)), some (.int ((1605 : Int32) + ((9 : Int32) * (q337.2.1 137 25))))] [.int (z_tb q347.1), .ref 139] q347.2 Q
              obtain ⟨q349, e350, h⟩ := z_bd h
              refine g_callV (a := 137) (as := [.int (z_tb q347.1)]) (rest := []) (c := mX12_must) (k1 := 2) dX12_readStep_138 rfl rfl rfl sh_137 rfl rfl (Nat.le_of_ble_eq_true rfl) (Nat.le_of_ble_eq_true rfl) (by omega) ?_
              refine A_X12_must e350 ?_
              show z_G none (k + 1) mX12_readStep 141 [some (.ref 139), some (.int a1), some (.int q41.1), some (.int (0 : Int32)), some (.int ((1605 : Int32) + ((9 : Int32) * (q337.2.1 137 25))))] [] q349.2 Q
              exact g_sub (z_sub_s (z_sub_s (z_sub_n (z_sub_s (z_sub_s z_sub_nil))))) ((AL_X12_readStep (w := w) hk0 hG w) _ _ _ _ _ _ _ h hq)
            · replace h := z_iff c341 h
              cases h
              exact g_vret dX12_readStep_89 rfl hq
          · replace h := z_ift c340 h
            refine g_iload_n dX12_readStep_63 rfl rfl ?_
            refine g_if_eq (t := 82) dX12_readStep_64 (by decide) (fun c351 => ?_) (fun c351 => ?_)
            · skip
              refine g_aload_n dX12_readStep_82 rfl rfl ?_
              refine g_get (a := 137) (v := .int (q337.2.1 137 12)) dX12_readStep_83 f_12_212 sh_137 rfl rfl ?_
              refine g_if_le (t := 90) dX12_readStep_86 (by decide) (fun c352 => ?_) (fun c352 => ?_)
              · replace h := z_ift c352 h
                refine g_sipush (v := (1605 : Int32)) dX12_readStep_90 (by decide) ?_
                refine g_bipush (v := (9 : Int32)) dX12_readStep_93 (by decide) ?_
                refine g_aload_n dX12_readStep_95 rfl rfl ?_
                refine g_get (a := 137) (v := .int (q337.2.1 137 25)) dX12_readStep_96 f_12_322 sh_137 rfl rfl ?_
                refine g_imul dX12_readStep_99 ?_
                refine g_iadd dX12_readStep_100 ?_
                refine g_istore (ls' := [some (.ref 139), some (.int a1), some (.int q41.1), some (.int (0 : Int32)), some (.int ((1605 : Int32) + ((9 : Int32) * (q337.2.1 137 25))))]) dX12_readStep_101 (Nat.le_of_ble_eq_true rfl) rfl ?_
                refine g_aload_n dX12_readStep_103 rfl rfl ?_
                refine g_dup dX12_readStep_104 rfl ?_
                refine g_get (a := 137) (v := .int (q337.2.1 137 25)) dX12_readStep_105 f_12_322 sh_137 rfl rfl ?_
                refine g_iconst (v := (1 : Int32)) dX12_readStep_108 (by decide) ?_
                refine g_iadd dX12_readStep_109 ?_
                refine g_putI (a := 137) dX12_readStep_110 f_12_322 sh_137 rfl rfl rfl ?_
                refine g_aload_n dX12_readStep_113 rfl rfl ?_
                obtain ⟨q353, e354, h⟩ := z_bd h
                refine g_callV (a := 137) (as := []) (rest := []) (c := mX12_advance) (k1 := 1) dX12_readStep_114 rfl rfl rfl sh_137 rfl rfl (Nat.le_of_ble_eq_true rfl) (Nat.le_of_ble_eq_true rfl) (by omega) ?_
                refine A_X12_advance e354 ?_
                show z_G none (k + 1) mX12_readStep 117 [some (.ref 139), some (.int a1), some (.int q41.1), some (.int (0 : Int32)), some (.int ((1605 : Int32) + ((9 : Int32) * (q337.2.1 137 25))))] [] q353.2 Q
                refine g_aload_n dX12_readStep_117 rfl rfl ?_
                refine g_get (a := 137) (v := .ref 144) dX12_readStep_118 f_12_35 sh_137 rfl rfl ?_
                refine g_iload dX12_readStep_121 rfl ?_
                refine g_iload_n dX12_readStep_123 rfl rfl ?_
                by_cases g355 : ((1605 : Int32) + ((9 : Int32) * (q337.2.1 137 25))) < 0 ∨ 1875 ≤ ((1605 : Int32) + ((9 : Int32) * (q337.2.1 137 25))).toNatClampNeg
                · rw [if_pos g355] at h; cases h
                replace h := z_iff g355 h
                refine g_iast (a := 142) dX12_readStep_124 sh_142 g355 ?_
                refine g_aload_n dX12_readStep_125 rfl rfl ?_
                refine g_iload dX12_readStep_126 rfl ?_
                obtain ⟨q356, e357, h⟩ := z_bd h
                refine g_callV (a := 137) (as := [.int ((1605 : Int32) + ((9 : Int32) * (q337.2.1 137 25)))]) (rest := []) (c := mX12_readRest) (k1 := 5) dX12_readStep_128 rfl rfl rfl sh_137 rfl rfl (Nat.le_of_ble_eq_true rfl) (Nat.le_of_ble_eq_true rfl) (by omega) ?_
                refine A_X12_readRest e357 ?_
                show z_G none (k + 1) mX12_readStep 131 [some (.ref 139), some (.int a1), some (.int q41.1), some (.int (0 : Int32)), some (.int ((1605 : Int32) + ((9 : Int32) * (q337.2.1 137 25))))] [] q356.2 Q
                refine g_aload_n dX12_readStep_131 rfl rfl ?_
                refine g_aload_n dX12_readStep_132 rfl rfl ?_
                refine g_bipush (v := (59 : Int32)) dX12_readStep_133 (by decide) ?_
                obtain ⟨q358, e359, h⟩ := z_bd h
                refine g_callV (a := 137) (as := [.int (59 : Int32)]) (rest := [.ref 139]) (c := mX12_isSign) (k1 := 0) dX12_readStep_135 rfl rfl rfl sh_137 rfl rfl (Nat.le_of_ble_eq_true rfl) (Nat.le_of_ble_eq_true rfl) (by omega) ?_
                refine A_X12_isSign e359 ?_
                show z_G none (k + 1) mX12_readStep 138 [some (.ref 139), some (.int a1), some (.int q41.1), some (.int (0 : Int32)), some (.int ((1605 : Int32) + ((9 : Int32) * (q337.2.1 137 25))))] [.int (z_tb q358.1), .ref 139] q358.2 Q
                obtain ⟨q360, e361, h⟩ := z_bd h
                refine g_callV (a := 137) (as := [.int (z_tb q358.1)]) (rest := []) (c := mX12_must) (k1 := 2) dX12_readStep_138 rfl rfl rfl sh_137 rfl rfl (Nat.le_of_ble_eq_true rfl) (Nat.le_of_ble_eq_true rfl) (by omega) ?_
                refine A_X12_must e361 ?_
                show z_G none (k + 1) mX12_readStep 141 [some (.ref 139), some (.int a1), some (.int q41.1), some (.int (0 : Int32)), some (.int ((1605 : Int32) + ((9 : Int32) * (q337.2.1 137 25))))] [] q360.2 Q
                exact g_sub (z_sub_s (z_sub_s (z_sub_n (z_sub_s (z_sub_s z_sub_nil))))) ((AL_X12_readStep (w := w) hk0 hG w) _ _ _ _ _ _ _ h hq)
              · replace h := z_iff c352 h
                cases h
                exact g_vret dX12_readStep_89 rfl hq
            · exact absurd c351 (by decide)
        · replace h := z_ift c339 h
          refine g_aload_n dX12_readStep_37 rfl rfl ?_
          refine g_get (a := 137) (v := .int (q337.2.1 137 25)) dX12_readStep_38 f_12_322 sh_137 rfl rfl ?_
          refine g_bipush (v := (30 : Int32)) dX12_readStep_41 (by decide) ?_
          refine g_ic_ne (t := 56) dX12_readStep_43 (by decide) (fun c362 => ?_) (fun c362 => ?_)
          · replace h := z_iff c362 h
            refine g_aload_n dX12_readStep_56 rfl rfl ?_
            refine g_get (a := 137) (v := .int (q337.2.1 137 12)) dX12_readStep_57 f_12_212 sh_137 rfl rfl ?_
            refine g_if_ne (t := 82) dX12_readStep_60 (by decide) (fun c363 => ?_) (fun c363 => ?_)
            · replace h := z_iff c363 h
              refine g_aload_n dX12_readStep_82 rfl rfl ?_
              refine g_get (a := 137) (v := .int (q337.2.1 137 12)) dX12_readStep_83 f_12_212 sh_137 rfl rfl ?_
              refine g_if_le (t := 90) dX12_readStep_86 (by decide) (fun c364 => ?_) (fun c364 => ?_)
              · replace h := z_ift c364 h
                refine g_sipush (v := (1605 : Int32)) dX12_readStep_90 (by decide) ?_
                refine g_bipush (v := (9 : Int32)) dX12_readStep_93 (by decide) ?_
                refine g_aload_n dX12_readStep_95 rfl rfl ?_
                refine g_get (a := 137) (v := .int (q337.2.1 137 25)) dX12_readStep_96 f_12_322 sh_137 rfl rfl ?_
                refine g_imul dX12_readStep_99 ?_
                refine g_iadd dX12_readStep_100 ?_
                refine g_istore (ls' := [some (.ref 139), some (.int a1), some (.int q41.1), some (.int (0 : Int32)), some (.int ((1605 : Int32) + ((9 : Int32) * (q337.2.1 137 25))))]) dX12_readStep_101 (Nat.le_of_ble_eq_true rfl) rfl ?_
                refine g_aload_n dX12_readStep_103 rfl rfl ?_
                refine g_dup dX12_readStep_104 rfl ?_
                refine g_get (a := 137) (v := .int (q337.2.1 137 25)) dX12_readStep_105 f_12_322 sh_137 rfl rfl ?_
                refine g_iconst (v := (1 : Int32)) dX12_readStep_108 (by decide) ?_
                refine g_iadd dX12_readStep_109 ?_
                refine g_putI (a := 137) dX12_readStep_110 f_12_322 sh_137 rfl rfl rfl ?_
                refine g_aload_n dX12_readStep_113 rfl rfl ?_
                obtain ⟨q365, e366, h⟩ := z_bd h
                refine g_callV (a := 137) (as := []) (rest := []) (c := mX12_advance) (k1 := 1) dX12_readStep_114 rfl rfl rfl sh_137 rfl rfl (Nat.le_of_ble_eq_true rfl) (Nat.le_of_ble_eq_true rfl) (by omega) ?_
                refine A_X12_advance e366 ?_
                show z_G none (k + 1) mX12_readStep 117 [some (.ref 139), some (.int a1), some (.int q41.1), some (.int (0 : Int32)), some (.int ((1605 : Int32) + ((9 : Int32) * (q337.2.1 137 25))))] [] q365.2 Q
                refine g_aload_n dX12_readStep_117 rfl rfl ?_
                refine g_get (a := 137) (v := .ref 144) dX12_readStep_118 f_12_35 sh_137 rfl rfl ?_
                refine g_iload dX12_readStep_121 rfl ?_
                refine g_iload_n dX12_readStep_123 rfl rfl ?_
                by_cases g367 : ((1605 : Int32) + ((9 : Int32) * (q337.2.1 137 25))) < 0 ∨ 1875 ≤ ((1605 : Int32) + ((9 : Int32) * (q337.2.1 137 25))).toNatClampNeg
                · rw [if_pos g367] at h; cases h
                replace h := z_iff g367 h
                refine g_iast (a := 142) dX12_readStep_124 sh_142 g367 ?_
                refine g_aload_n dX12_readStep_125 rfl rfl ?_
                refine g_iload dX12_readStep_126 rfl ?_
                obtain ⟨q368, e369, h⟩ := z_bd h
                refine g_callV (a := 137) (as := [.int ((1605 : Int32) + ((9 : Int32) * (q337.2.1 137 25)))]) (rest := []) (c := mX12_readRest) (k1 := 5) dX12_readStep_128 rfl rfl rfl sh_137 rfl rfl (Nat.le_of_ble_eq_true rfl) (Nat.le_of_ble_eq_true rfl) (by omega) ?_
                refine A_X12_readRest e369 ?_
                show z_G none (k + 1) mX12_readStep 131 [some (.ref 139), some (.int a1), some (.int q41.1), some (.int (0 : Int32)), some (.int ((1605 : Int32) + ((9 : Int32) * (q337.2.1 137 25))))] [] q368.2 Q
                refine g_aload_n dX12_readStep_131 rfl rfl ?_
                refine g_aload_n dX12_readStep_132 rfl rfl ?_
                refine g_bipush (v := (59 : Int32)) dX12_readStep_133 (by decide) ?_
                obtain ⟨q370, e371, h⟩ := z_bd h
                refine g_callV (a := 137) (as := [.int (59 : Int32)]) (rest := [.ref 139]) (c := mX12_isSign) (k1 := 0) dX12_readStep_135 rfl rfl rfl sh_137 rfl rfl (Nat.le_of_ble_eq_true rfl) (Nat.le_of_ble_eq_true rfl) (by omega) ?_
                refine A_X12_isSign e371 ?_
                show z_G none (k + 1) mX12_readStep 138 [some (.ref 139), some (.int a1), some (.int q41.1), some (.int (0 : Int32)), some (.int ((1605 : Int32) + ((9 : Int32) * (q337.2.1 137 25))))] [.int (z_tb q370.1), .ref 139] q370.2 Q
                obtain ⟨q372, e373, h⟩ := z_bd h
                refine g_callV (a := 137) (as := [.int (z_tb q370.1)]) (rest := []) (c := mX12_must) (k1 := 2) dX12_readStep_138 rfl rfl rfl sh_137 rfl rfl (Nat.le_of_ble_eq_true rfl) (Nat.le_of_ble_eq_true rfl) (by omega) ?_
                refine A_X12_must e373 ?_
                show z_G none (k + 1) mX12_readStep 141 [some (.ref 139), some (.int a1), some (.int q41.1), some (.int (0 : Int32)), some (.int ((1605 : Int32) + ((9 : Int32) * (q337.2.1 137 25))))] [] q372.2 Q
                exact g_sub (z_sub_s (z_sub_s (z_sub_n (z_sub_s (z_sub_s z_sub_nil))))) ((AL_X12_readStep (w := w) hk0 hG w) _ _ _ _ _ _ _ h hq)
              · replace h := z_iff c364 h
                cases h
                exact g_vret dX12_readStep_89 rfl hq
            · replace h := z_ift c363 h
              refine g_iload_n dX12_readStep_63 rfl rfl ?_
              refine g_if_eq (t := 82) dX12_readStep_64 (by decide) (fun c374 => ?_) (fun c374 => ?_)
              · skip
                refine g_aload_n dX12_readStep_82 rfl rfl ?_
                refine g_get (a := 137) (v := .int (q337.2.1 137 12)) dX12_readStep_83 f_12_212 sh_137 rfl rfl ?_
                refine g_if_le (t := 90) dX12_readStep_86 (by decide) (fun c375 => ?_) (fun c375 => ?_)
                · replace h := z_ift c375 h
                  refine g_sipush (v := (1605 : Int32)) dX12_readStep_90 (by decide) ?_
                  refine g_bipush (v := (9 : Int32)) dX12_readStep_93 (by decide) ?_
                  refine g_aload_n dX12_readStep_95 rfl rfl ?_
                  refine g_get (a := 137) (v := .int (q337.2.1 137 25)) dX12_readStep_96 f_12_322 sh_137 rfl rfl ?_
                  refine g_imul dX12_readStep_99 ?_
                  refine g_iadd dX12_readStep_100 ?_
                  refine g_istore (ls' := [some (.ref 139), some (.int a1), some (.int q41.1), some (.int (0 : Int32)), some (.int ((1605 : Int32) + ((9 : Int32) * (q337.2.1 137 25))))]) dX12_readStep_101 (Nat.le_of_ble_eq_true rfl) rfl ?_
                  refine g_aload_n dX12_readStep_103 rfl rfl ?_
                  refine g_dup dX12_readStep_104 rfl ?_
                  refine g_get (a := 137) (v := .int (q337.2.1 137 25)) dX12_readStep_105 f_12_322 sh_137 rfl rfl ?_
                  refine g_iconst (v := (1 : Int32)) dX12_readStep_108 (by decide) ?_
                  refine g_iadd dX12_readStep_109 ?_
                  refine g_putI (a := 137) dX12_readStep_110 f_12_322 sh_137 rfl rfl rfl ?_
                  refine g_aload_n dX12_readStep_113 rfl rfl ?_
                  obtain ⟨q376, e377, h⟩ := z_bd h
                  refine g_callV (a := 137) (as := []) (rest := []) (c := mX12_advance) (k1 := 1) dX12_readStep_114 rfl rfl rfl sh_137 rfl rfl (Nat.le_of_ble_eq_true rfl) (Nat.le_of_ble_eq_true rfl) (by omega) ?_
                  refine A_X12_advance e377 ?_
                  show z_G none (k + 1) mX12_readStep 117 [some (.ref 139), some (.int a1), some (.int q41.1), some (.int (0 : Int32)), some (.int ((1605 : Int32) + ((9 : Int32) * (q337.2.1 137 25))))] [] q376.2 Q
                  refine g_aload_n dX12_readStep_117 rfl rfl ?_
                  refine g_get (a := 137) (v := .ref 144) dX12_readStep_118 f_12_35 sh_137 rfl rfl ?_
                  refine g_iload dX12_readStep_121 rfl ?_
                  refine g_iload_n dX12_readStep_123 rfl rfl ?_
                  by_cases g378 : ((1605 : Int32) + ((9 : Int32) * (q337.2.1 137 25))) < 0 ∨ 1875 ≤ ((1605 : Int32) + ((9 : Int32) * (q337.2.1 137 25))).toNatClampNeg
                  · rw [if_pos g378] at h; cases h
                  replace h := z_iff g378 h
                  refine g_iast (a := 142) dX12_readStep_124 sh_142 g378 ?_
                  refine g_aload_n dX12_readStep_125 rfl rfl ?_
                  refine g_iload dX12_readStep_126 rfl ?_
                  obtain ⟨q379, e380, h⟩ := z_bd h
                  refine g_callV (a := 137) (as := [.int ((1605 : Int32) + ((9 : Int32) * (q337.2.1 137 25)))]) (rest := []) (c := mX12_readRest) (k1 := 5) dX12_readStep_128 rfl rfl rfl sh_137 rfl rfl (Nat.le_of_ble_eq_true rfl) (Nat.le_of_ble_eq_true rfl) (by omega) ?_
                  refine A_X12_readRest e380 ?_
                  show z_G none (k + 1) mX12_readStep 131 [some (.ref 139), some (.int a1), some (.int q41.1), some (.int (0 : Int32)), some (.int ((1605 : Int32) + ((9 : Int32) * (q337.2.1 137 25))))] [] q379.2 Q
                  refine g_aload_n dX12_readStep_131 rfl rfl ?_
                  refine g_aload_n dX12_readStep_132 rfl rfl ?_
                  refine g_bipush (v := (59 : Int32)) dX12_readStep_133 (by decide) ?_
                  obtain ⟨q381, e382, h⟩ := z_bd h
                  refine g_callV (a := 137) (as := [.int (59 : Int32)]) (rest := [.ref 139]) (c := mX12_isSign) (k1 := 0) dX12_readStep_135 rfl rfl rfl sh_137 rfl rfl (Nat.le_of_ble_eq_true rfl) (Nat.le_of_ble_eq_true rfl) (by omega) ?_
                  refine A_X12_isSign e382 ?_
                  show z_G none (k + 1) mX12_readStep 138 [some (.ref 139), some (.int a1), some (.int q41.1), some (.int (0 : Int32)), some (.int ((1605 : Int32) + ((9 : Int32) * (q337.2.1 137 25))))] [.int (z_tb q381.1), .ref 139] q381.2 Q
                  obtain ⟨q383, e384, h⟩ := z_bd h
                  refine g_callV (a := 137) (as := [.int (z_tb q381.1)]) (rest := []) (c := mX12_must) (k1 := 2) dX12_readStep_138 rfl rfl rfl sh_137 rfl rfl (Nat.le_of_ble_eq_true rfl) (Nat.le_of_ble_eq_true rfl) (by omega) ?_
                  refine A_X12_must e384 ?_
                  show z_G none (k + 1) mX12_readStep 141 [some (.ref 139), some (.int a1), some (.int q41.1), some (.int (0 : Int32)), some (.int ((1605 : Int32) + ((9 : Int32) * (q337.2.1 137 25))))] [] q383.2 Q
                  exact g_sub (z_sub_s (z_sub_s (z_sub_n (z_sub_s (z_sub_s z_sub_nil))))) ((AL_X12_readStep (w := w) hk0 hG w) _ _ _ _ _ _ _ h hq)
                · replace h := z_iff c375 h
                  cases h
                  exact g_vret dX12_readStep_89 rfl hq
              · exact absurd c374 (by decide)
          · replace h := z_ift c362 h
            refine g_aload_n dX12_readStep_46 rfl rfl ?_
            refine g_bipush (v := (6 : Int32)) dX12_readStep_47 (by decide) ?_
            refine g_aload_n dX12_readStep_49 rfl rfl ?_
            refine g_get (a := 137) (v := .int (q337.2.1 137 15)) dX12_readStep_50 f_12_106 sh_137 rfl rfl ?_
            obtain ⟨q385, e386, h⟩ := z_bd h
            refine g_callV (a := 137) (as := [.int (6 : Int32), .int (q337.2.1 137 15)]) (rest := []) (c := mX12_fail) (k1 := 0) dX12_readStep_53 rfl rfl rfl sh_137 rfl rfl (Nat.le_of_ble_eq_true rfl) (Nat.le_of_ble_eq_true rfl) (by omega) ?_
            refine A_X12_fail e386 ?_
            show z_G none (k + 1) mX12_readStep 56 [some (.ref 139), some (.int a1), some (.int q41.1), some (.int (0 : Int32)), none] [] q385.2 Q
            refine g_aload_n dX12_readStep_56 rfl rfl ?_
            refine g_get (a := 137) (v := .int (q385.2.1 137 12)) dX12_readStep_57 f_12_212 sh_137 rfl rfl ?_
            refine g_if_ne (t := 82) dX12_readStep_60 (by decide) (fun c387 => ?_) (fun c387 => ?_)
            · replace h := z_iff c387 h
              refine g_aload_n dX12_readStep_82 rfl rfl ?_
              refine g_get (a := 137) (v := .int (q385.2.1 137 12)) dX12_readStep_83 f_12_212 sh_137 rfl rfl ?_
              refine g_if_le (t := 90) dX12_readStep_86 (by decide) (fun c388 => ?_) (fun c388 => ?_)
              · replace h := z_ift c388 h
                refine g_sipush (v := (1605 : Int32)) dX12_readStep_90 (by decide) ?_
                refine g_bipush (v := (9 : Int32)) dX12_readStep_93 (by decide) ?_
                refine g_aload_n dX12_readStep_95 rfl rfl ?_
                refine g_get (a := 137) (v := .int (q385.2.1 137 25)) dX12_readStep_96 f_12_322 sh_137 rfl rfl ?_
                refine g_imul dX12_readStep_99 ?_
                refine g_iadd dX12_readStep_100 ?_
                refine g_istore (ls' := [some (.ref 139), some (.int a1), some (.int q41.1), some (.int (0 : Int32)), some (.int ((1605 : Int32) + ((9 : Int32) * (q385.2.1 137 25))))]) dX12_readStep_101 (Nat.le_of_ble_eq_true rfl) rfl ?_
                refine g_aload_n dX12_readStep_103 rfl rfl ?_
                refine g_dup dX12_readStep_104 rfl ?_
                refine g_get (a := 137) (v := .int (q385.2.1 137 25)) dX12_readStep_105 f_12_322 sh_137 rfl rfl ?_
                refine g_iconst (v := (1 : Int32)) dX12_readStep_108 (by decide) ?_
                refine g_iadd dX12_readStep_109 ?_
                refine g_putI (a := 137) dX12_readStep_110 f_12_322 sh_137 rfl rfl rfl ?_
                refine g_aload_n dX12_readStep_113 rfl rfl ?_
                obtain ⟨q389, e390, h⟩ := z_bd h
                refine g_callV (a := 137) (as := []) (rest := []) (c := mX12_advance) (k1 := 1) dX12_readStep_114 rfl rfl rfl sh_137 rfl rfl (Nat.le_of_ble_eq_true rfl) (Nat.le_of_ble_eq_true rfl) (by omega) ?_
                refine A_X12_advance e390 ?_
                show z_G none (k + 1) mX12_readStep 117 [some (.ref 139), some (.int a1), some (.int q41.1), some (.int (0 : Int32)), some (.int ((1605 : Int32) + ((9 : Int32) * (q385.2.1 137 25))))] [] q389.2 Q
                refine g_aload_n dX12_readStep_117 rfl rfl ?_
                refine g_get (a := 137) (v := .ref 144) dX12_readStep_118 f_12_35 sh_137 rfl rfl ?_
                refine g_iload dX12_readStep_121 rfl ?_
                refine g_iload_n dX12_readStep_123 rfl rfl ?_
                by_cases g391 : ((1605 : Int32) + ((9 : Int32) * (q385.2.1 137 25))) < 0 ∨ 1875 ≤ ((1605 : Int32) + ((9 : Int32) * (q385.2.1 137 25))).toNatClampNeg
                · rw [if_pos g391] at h; cases h
                replace h := z_iff g391 h
                refine g_iast (a := 142) dX12_readStep_124 sh_142 g391 ?_
                refine g_aload_n dX12_readStep_125 rfl rfl ?_
                refine g_iload dX12_readStep_126 rfl ?_
                obtain ⟨q392, e393, h⟩ := z_bd h
                refine g_callV (a := 137) (as := [.int ((1605 : Int32) + ((9 : Int32) * (q385.2.1 137 25)))]) (rest := []) (c := mX12_readRest) (k1 := 5) dX12_readStep_128 rfl rfl rfl sh_137 rfl rfl (Nat.le_of_ble_eq_true rfl) (Nat.le_of_ble_eq_true rfl) (by omega) ?_
                refine A_X12_readRest e393 ?_
                show z_G none (k + 1) mX12_readStep 131 [some (.ref 139), some (.int a1), some (.int q41.1), some (.int (0 : Int32)), some (.int ((1605 : Int32) + ((9 : Int32) * (q385.2.1 137 25))))] [] q392.2 Q
                refine g_aload_n dX12_readStep_131 rfl rfl ?_
                refine g_aload_n dX12_readStep_132 rfl rfl ?_
                refine g_bipush (v := (59 : Int32)) dX12_readStep_133 (by decide) ?_
                obtain ⟨q394, e395, h⟩ := z_bd h
                refine g_callV (a := 137) (as := [.int (59 : Int32)]) (rest := [.ref 139]) (c := mX12_isSign) (k1 := 0) dX12_readStep_135 rfl rfl rfl sh_137 rfl rfl (Nat.le_of_ble_eq_true rfl) (Nat.le_of_ble_eq_true rfl) (by omega) ?_
                refine A_X12_isSign e395 ?_
                show z_G none (k + 1) mX12_readStep 138 [some (.ref 139), some (.int a1), some (.int q41.1), some (.int (0 : Int32)), some (.int ((1605 : Int32) + ((9 : Int32) * (q385.2.1 137 25))))] [.int (z_tb q394.1), .ref 139] q394.2 Q
                obtain ⟨q396, e397, h⟩ := z_bd h
                refine g_callV (a := 137) (as := [.int (z_tb q394.1)]) (rest := []) (c := mX12_must) (k1 := 2) dX12_readStep_138 rfl rfl rfl sh_137 rfl rfl (Nat.le_of_ble_eq_true rfl) (Nat.le_of_ble_eq_true rfl) (by omega) ?_
                refine A_X12_must e397 ?_
                show z_G none (k + 1) mX12_readStep 141 [some (.ref 139), some (.int a1), some (.int q41.1), some (.int (0 : Int32)), some (.int ((1605 : Int32) + ((9 : Int32) * (q385.2.1 137 25))))] [] q396.2 Q
                exact g_sub (z_sub_s (z_sub_s (z_sub_n (z_sub_s (z_sub_s z_sub_nil))))) ((AL_X12_readStep (w := w) hk0 hG w) _ _ _ _ _ _ _ h hq)
              · replace h := z_iff c388 h
                cases h
                exact g_vret dX12_readStep_89 rfl hq
            · replace h := z_ift c387 h
              refine g_iload_n dX12_readStep_63 rfl rfl ?_
              refine g_if_eq (t := 82) dX12_readStep_64 (by decide) (fun c398 => ?_) (fun c398 => ?_)
              · skip
                refine g_aload_n dX12_readStep_82 rfl rfl ?_
                refine g_get (a := 137) (v := .int (q385.2.1 137 12)) dX12_readStep_83 f_12_212 sh_137 rfl rfl ?_
                refine g_if_le (t := 90) dX12_readStep_86 (by decide) (fun c399 => ?_) (fun c399 => ?_)
                · replace h := z_ift c399 h
                  refine g_sipush (v := (1605 : Int32)) dX12_readStep_90 (by decide) ?_
                  refine g_bipush (v := (9 : Int32)) dX12_readStep_93 (by decide) ?_
                  refine g_aload_n dX12_readStep_95 rfl rfl ?_
                  refine g_get (a := 137) (v := .int (q385.2.1 137 25)) dX12_readStep_96 f_12_322 sh_137 rfl rfl ?_
                  refine g_imul dX12_readStep_99 ?_
                  refine g_iadd dX12_readStep_100 ?_
                  refine g_istore (ls' := [some (.ref 139), some (.int a1), some (.int q41.1), some (.int (0 : Int32)), some (.int ((1605 : Int32) + ((9 : Int32) * (q385.2.1 137 25))))]) dX12_readStep_101 (Nat.le_of_ble_eq_true rfl) rfl ?_
                  refine g_aload_n dX12_readStep_103 rfl rfl ?_
                  refine g_dup dX12_readStep_104 rfl ?_
                  refine g_get (a := 137) (v := .int (q385.2.1 137 25)) dX12_readStep_105 f_12_322 sh_137 rfl rfl ?_
                  refine g_iconst (v := (1 : Int32)) dX12_readStep_108 (by decide) ?_
                  refine g_iadd dX12_readStep_109 ?_
                  refine g_putI (a := 137) dX12_readStep_110 f_12_322 sh_137 rfl rfl rfl ?_
                  refine g_aload_n dX12_readStep_113 rfl rfl ?_
                  obtain ⟨q400, e401, h⟩ := z_bd h
                  refine g_callV (a := 137) (as := []) (rest := []) (c := mX12_advance) (k1 := 1) dX12_readStep_114 rfl rfl rfl sh_137 rfl rfl (Nat.le_of_ble_eq_true rfl) (Nat.le_of_ble_eq_true rfl) (by omega) ?_
                  refine A_X12_advance e401 ?_
                  show z_G none (k + 1) mX12_readStep 117 [some (.ref 139), some (.int a1), some (.int q41.1), some (.int (0 : Int32)), some (.int ((1605 : Int32) + ((9 : Int32) * (q385.2.1 137 25))))] [] q400.2 Q
                  refine g_aload_n dX12_readStep_117 rfl rfl ?_
                  refine g_get (a := 137) (v := .ref 144) dX12_readStep_118 f_12_35 sh_137 rfl rfl ?_
                  refine g_iload dX12_readStep_121 rfl ?_
                  refine g_iload_n dX12_readStep_123 rfl rfl ?_
                  by_cases g402 : ((1605 : Int32) + ((9 : Int32) * (q385.2.1 137 25))) < 0 ∨ 1875 ≤ ((1605 : Int32) + ((9 : Int32) * (q385.2.1 137 25))).toNatClampNeg
                  · rw [if_pos g402] at h; cases h
                  replace h := z_iff g402 h
                  refine g_iast (a := 142) dX12_readStep_124 sh_142 g402 ?_
                  refine g_aload_n dX12_readStep_125 rfl rfl ?_
                  refine g_iload dX12_readStep_126 rfl ?_
                  obtain ⟨q403, e404, h⟩ := z_bd h
                  refine g_callV (a := 137) (as := [.int ((1605 : Int32) + ((9 : Int32) * (q385.2.1 137 25)))]) (rest := []) (c := mX12_readRest) (k1 := 5) dX12_readStep_128 rfl rfl rfl sh_137 rfl rfl (Nat.le_of_ble_eq_true rfl) (Nat.le_of_ble_eq_true rfl) (by omega) ?_
                  refine A_X12_readRest e404 ?_
                  show z_G none (k + 1) mX12_readStep 131 [some (.ref 139), some (.int a1), some (.int q41.1), some (.int (0 : Int32)), some (.int ((1605 : Int32) + ((9 : Int32) * (q385.2.1 137 25))))] [] q403.2 Q
                  refine g_aload_n dX12_readStep_131 rfl rfl ?_
                  refine g_aload_n dX12_readStep_132 rfl rfl ?_
                  refine g_bipush (v := (59 : Int32)) dX12_readStep_133 (by decide) ?_
                  obtain ⟨q405, e406, h⟩ := z_bd h
                  refine g_callV (a := 137) (as := [.int (59 : Int32)]) (rest := [.ref 139]) (c := mX12_isSign) (k1 := 0) dX12_readStep_135 rfl rfl rfl sh_137 rfl rfl (Nat.le_of_ble_eq_true rfl) (Nat.le_of_ble_eq_true rfl) (by omega) ?_
                  refine A_X12_isSign e406 ?_
                  show z_G none (k + 1) mX12_readStep 138 [some (.ref 139), some (.int a1), some (.int q41.1), some (.int (0 : Int32)), some (.int ((1605 : Int32) + ((9 : Int32) * (q385.2.1 137 25))))] [.int (z_tb q405.1), .ref 139] q405.2 Q
                  obtain ⟨q407, e408, h⟩ := z_bd h
                  refine g_callV (a := 137) (as := [.int (z_tb q405.1)]) (rest := []) (c := mX12_must) (k1 := 2) dX12_readStep_138 rfl rfl rfl sh_137 rfl rfl (Nat.le_of_ble_eq_true rfl) (Nat.le_of_ble_eq_true rfl) (by omega) ?_
                  refine A_X12_must e408 ?_
                  show z_G none (k + 1) mX12_readStep 141 [some (.ref 139), some (.int a1), some (.int q41.1), some (.int (0 : Int32)), some (.int ((1605 : Int32) + ((9 : Int32) * (q385.2.1 137 25))))] [] q407.2 Q
                  exact g_sub (z_sub_s (z_sub_s (z_sub_n (z_sub_s (z_sub_s z_sub_nil))))) ((AL_X12_readStep (w := w) hk0 hG w) _ _ _ _ _ _ _ h hq)
                · replace h := z_iff c399 h
                  cases h
                  exact g_vret dX12_readStep_89 rfl hq
              · exact absurd c398 (by decide)
    · replace h := z_ift c265 h
      refine g_iconst (v := (1 : Int32)) dX12_readStep_16 (by decide) ?_
      refine g_goto (t := 21) dX12_readStep_17 (by decide) ?_
      refine g_istore_n (ls' := [some (.ref 139), some (.int a1), some (.int q41.1), some (.int (1 : Int32)), none]) dX12_readStep_21 rfl (Nat.le_of_ble_eq_true rfl) rfl ?_
      refine g_iload_n dX12_readStep_22 rfl rfl ?_
      refine g_if_ge (t := 30) dX12_readStep_23 (by decide) (fun c409 => ?_) (fun c409 => ?_)
      · replace h := z_ift c409 h
        refine g_aload_n dX12_readStep_30 rfl rfl ?_
        refine g_get (a := 137) (v := .int (q41.2.1 137 12)) dX12_readStep_31 f_12_212 sh_137 rfl rfl ?_
        refine g_if_ne (t := 56) dX12_readStep_34 (by decide) (fun c410 => ?_) (fun c410 => ?_)
        · replace h := z_iff c410 h
          refine g_aload_n dX12_readStep_56 rfl rfl ?_
          refine g_get (a := 137) (v := .int (q41.2.1 137 12)) dX12_readStep_57 f_12_212 sh_137 rfl rfl ?_
          refine g_if_ne (t := 82) dX12_readStep_60 (by decide) (fun c411 => ?_) (fun c411 => ?_)
          · replace h := z_iff c411 h
            refine g_aload_n dX12_readStep_82 rfl rfl ?_
            refine g_get (a := 137) (v := .int (q41.2.1 137 12)) dX12_readStep_83 f_12_212 sh_137 rfl rfl ?_
            refine g_if_le (t := 90) dX12_readStep_86 (by decide) (fun c412 => ?_) (fun c412 => ?_)
            · replace h := z_ift c412 h
              refine g_sipush (v := (1605 : Int32)) dX12_readStep_90 (by decide) ?_
              refine g_bipush (v := (9 : Int32)) dX12_readStep_93 (by decide) ?_
              refine g_aload_n dX12_readStep_95 rfl rfl ?_
              refine g_get (a := 137) (v := .int (q41.2.1 137 25)) dX12_readStep_96 f_12_322 sh_137 rfl rfl ?_
              refine g_imul dX12_readStep_99 ?_
              refine g_iadd dX12_readStep_100 ?_
              refine g_istore (ls' := [some (.ref 139), some (.int a1), some (.int q41.1), some (.int (1 : Int32)), some (.int ((1605 : Int32) + ((9 : Int32) * (q41.2.1 137 25))))]) dX12_readStep_101 (Nat.le_of_ble_eq_true rfl) rfl ?_
              refine g_aload_n dX12_readStep_103 rfl rfl ?_
              refine g_dup dX12_readStep_104 rfl ?_
              refine g_get (a := 137) (v := .int (q41.2.1 137 25)) dX12_readStep_105 f_12_322 sh_137 rfl rfl ?_
              refine g_iconst (v := (1 : Int32)) dX12_readStep_108 (by decide) ?_
              refine g_iadd dX12_readStep_109 ?_
              refine g_putI (a := 137) dX12_readStep_110 f_12_322 sh_137 rfl rfl rfl ?_
              refine g_aload_n dX12_readStep_113 rfl rfl ?_
              obtain ⟨q413, e414, h⟩ := z_bd h
              refine g_callV (a := 137) (as := []) (rest := []) (c := mX12_advance) (k1 := 1) dX12_readStep_114 rfl rfl rfl sh_137 rfl rfl (Nat.le_of_ble_eq_true rfl) (Nat.le_of_ble_eq_true rfl) (by omega) ?_
              refine A_X12_advance e414 ?_
              show z_G none (k + 1) mX12_readStep 117 [some (.ref 139), some (.int a1), some (.int q41.1), some (.int (1 : Int32)), some (.int ((1605 : Int32) + ((9 : Int32) * (q41.2.1 137 25))))] [] q413.2 Q
              refine g_aload_n dX12_readStep_117 rfl rfl ?_
              refine g_get (a := 137) (v := .ref 144) dX12_readStep_118 f_12_35 sh_137 rfl rfl ?_
              refine g_iload dX12_readStep_121 rfl ?_
              refine g_iload_n dX12_readStep_123 rfl rfl ?_
              by_cases g415 : ((1605 : Int32) + ((9 : Int32) * (q41.2.1 137 25))) < 0 ∨ 1875 ≤ ((1605 : Int32) + ((9 : Int32) * (q41.2.1 137 25))).toNatClampNeg
              · rw [if_pos g415] at h; cases h
              replace h := z_iff g415 h
              refine g_iast (a := 142) dX12_readStep_124 sh_142 g415 ?_
              refine g_aload_n dX12_readStep_125 rfl rfl ?_
              refine g_iload dX12_readStep_126 rfl ?_
              obtain ⟨q416, e417, h⟩ := z_bd h
              refine g_callV (a := 137) (as := [.int ((1605 : Int32) + ((9 : Int32) * (q41.2.1 137 25)))]) (rest := []) (c := mX12_readRest) (k1 := 5) dX12_readStep_128 rfl rfl rfl sh_137 rfl rfl (Nat.le_of_ble_eq_true rfl) (Nat.le_of_ble_eq_true rfl) (by omega) ?_
              refine A_X12_readRest e417 ?_
              show z_G none (k + 1) mX12_readStep 131 [some (.ref 139), some (.int a1), some (.int q41.1), some (.int (1 : Int32)), some (.int ((1605 : Int32) + ((9 : Int32) * (q41.2.1 137 25))))] [] q416.2 Q
              refine g_aload_n dX12_readStep_131 rfl rfl ?_
              refine g_aload_n dX12_readStep_132 rfl rfl ?_
              refine g_bipush (v := (59 : Int32)) dX12_readStep_133 (by decide) ?_
              obtain ⟨q418, e419, h⟩ := z_bd h
              refine g_callV (a := 137) (as := [.int (59 : Int32)]) (rest := [.ref 139]) (c := mX12_isSign) (k1 := 0) dX12_readStep_135 rfl rfl rfl sh_137 rfl rfl (Nat.le_of_ble_eq_true rfl) (Nat.le_of_ble_eq_true rfl) (by omega) ?_
              refine A_X12_isSign e419 ?_
              show z_G none (k + 1) mX12_readStep 138 [some (.ref 139), some (.int a1), some (.int q41.1), some (.int (1 : Int32)), some (.int ((1605 : Int32) + ((9 : Int32) * (q41.2.1 137 25))))] [.int (z_tb q418.1), .ref 139] q418.2 Q
              obtain ⟨q420, e421, h⟩ := z_bd h
              refine g_callV (a := 137) (as := [.int (z_tb q418.1)]) (rest := []) (c := mX12_must) (k1 := 2) dX12_readStep_138 rfl rfl rfl sh_137 rfl rfl (Nat.le_of_ble_eq_true rfl) (Nat.le_of_ble_eq_true rfl) (by omega) ?_
              refine A_X12_must e421 ?_
              show z_G none (k + 1) mX12_readStep 141 [some (.ref 139), some (.int a1), some (.int q41.1), some (.int (1 : Int32)), some (.int ((1605 : Int32) + ((9 : Int32) * (q41.2.1 137 25))))] [] q420.2 Q
              exact g_sub (z_sub_s (z_sub_s (z_sub_n (z_sub_s (z_sub_s z_sub_nil))))) ((AL_X12_readStep (w := w) hk0 hG w) _ _ _ _ _ _ _ h hq)
            · replace h := z_iff c412 h
              cases h
              exact g_vret dX12_readStep_89 rfl hq
          · replace h := z_ift c411 h
            refine g_iload_n dX12_readStep_63 rfl rfl ?_
            refine g_if_eq (t := 82) dX12_readStep_64 (by decide) (fun c422 => ?_) (fun c422 => ?_)
            · exact absurd c422 (by decide)
            · skip
              refine g_iload_n dX12_readStep_67 rfl rfl ?_
              refine g_iconst (v := (3 : Int32)) dX12_readStep_68 (by decide) ?_
              refine g_ic_ne (t := 82) dX12_readStep_69 (by decide) (fun c423 => ?_) (fun c423 => ?_)
              · replace h := z_iff c423 h
                refine g_aload_n dX12_readStep_82 rfl rfl ?_
                refine g_get (a := 137) (v := .int (q41.2.1 137 12)) dX12_readStep_83 f_12_212 sh_137 rfl rfl ?_
                refine g_if_le (t := 90) dX12_readStep_86 (by decide) (fun c424 => ?_) (fun c424 => ?_)
                · replace h := z_ift c424 h
                  refine g_sipush (v := (1605 : Int32)) dX12_readStep_90 (by decide) ?_
                  refine g_bipush (v := (9 : Int32)) dX12_readStep_93 (by decide) ?_
                  refine g_aload_n dX12_readStep_95 rfl rfl ?_
                  refine g_get (a := 137) (v := .int (q41.2.1 137 25)) dX12_readStep_96 f_12_322 sh_137 rfl rfl ?_
                  refine g_imul dX12_readStep_99 ?_
                  refine g_iadd dX12_readStep_100 ?_
                  refine g_istore (ls' := [some (.ref 139), some (.int a1), some (.int q41.1), some (.int (1 : Int32)), some (.int ((1605 : Int32) + ((9 : Int32) * (q41.2.1 137 25))))]) dX12_readStep_101 (Nat.le_of_ble_eq_true rfl) rfl ?_
                  refine g_aload_n dX12_readStep_103 rfl rfl ?_
                  refine g_dup dX12_readStep_104 rfl ?_
                  refine g_get (a := 137) (v := .int (q41.2.1 137 25)) dX12_readStep_105 f_12_322 sh_137 rfl rfl ?_
                  refine g_iconst (v := (1 : Int32)) dX12_readStep_108 (by decide) ?_
                  refine g_iadd dX12_readStep_109 ?_
                  refine g_putI (a := 137) dX12_readStep_110 f_12_322 sh_137 rfl rfl rfl ?_
                  refine g_aload_n dX12_readStep_113 rfl rfl ?_
                  obtain ⟨q425, e426, h⟩ := z_bd h
                  refine g_callV (a := 137) (as := []) (rest := []) (c := mX12_advance) (k1 := 1) dX12_readStep_114 rfl rfl rfl sh_137 rfl rfl (Nat.le_of_ble_eq_true rfl) (Nat.le_of_ble_eq_true rfl) (by omega) ?_
                  refine A_X12_advance e426 ?_
                  show z_G none (k + 1) mX12_readStep 117 [some (.ref 139), some (.int a1), some (.int q41.1), some (.int (1 : Int32)), some (.int ((1605 : Int32) + ((9 : Int32) * (q41.2.1 137 25))))] [] q425.2 Q
                  refine g_aload_n dX12_readStep_117 rfl rfl ?_
                  refine g_get (a := 137) (v := .ref 144) dX12_readStep_118 f_12_35 sh_137 rfl rfl ?_
                  refine g_iload dX12_readStep_121 rfl ?_
                  refine g_iload_n dX12_readStep_123 rfl rfl ?_
                  by_cases g427 : ((1605 : Int32) + ((9 : Int32) * (q41.2.1 137 25))) < 0 ∨ 1875 ≤ ((1605 : Int32) + ((9 : Int32) * (q41.2.1 137 25))).toNatClampNeg
                  · rw [if_pos g427] at h; cases h
                  replace h := z_iff g427 h
                  refine g_iast (a := 142) dX12_readStep_124 sh_142 g427 ?_
                  refine g_aload_n dX12_readStep_125 rfl rfl ?_
                  refine g_iload dX12_readStep_126 rfl ?_
                  obtain ⟨q428, e429, h⟩ := z_bd h
                  refine g_callV (a := 137) (as := [.int ((1605 : Int32) + ((9 : Int32) * (q41.2.1 137 25)))]) (rest := []) (c := mX12_readRest) (k1 := 5) dX12_readStep_128 rfl rfl rfl sh_137 rfl rfl (Nat.le_of_ble_eq_true rfl) (Nat.le_of_ble_eq_true rfl) (by omega) ?_
                  refine A_X12_readRest e429 ?_
                  show z_G none (k + 1) mX12_readStep 131 [some (.ref 139), some (.int a1), some (.int q41.1), some (.int (1 : Int32)), some (.int ((1605 : Int32) + ((9 : Int32) * (q41.2.1 137 25))))] [] q428.2 Q
                  refine g_aload_n dX12_readStep_131 rfl rfl ?_
                  refine g_aload_n dX12_readStep_132 rfl rfl ?_
                  refine g_bipush (v := (59 : Int32)) dX12_readStep_133 (by decide) ?_
                  obtain ⟨q430, e431, h⟩ := z_bd h
                  refine g_callV (a := 137) (as := [.int (59 : Int32)]) (rest := [.ref 139]) (c := mX12_isSign) (k1 := 0) dX12_readStep_135 rfl rfl rfl sh_137 rfl rfl (Nat.le_of_ble_eq_true rfl) (Nat.le_of_ble_eq_true rfl) (by omega) ?_
                  refine A_X12_isSign e431 ?_
                  show z_G none (k + 1) mX12_readStep 138 [some (.ref 139), some (.int a1), some (.int q41.1), some (.int (1 : Int32)), some (.int ((1605 : Int32) + ((9 : Int32) * (q41.2.1 137 25))))] [.int (z_tb q430.1), .ref 139] q430.2 Q
                  obtain ⟨q432, e433, h⟩ := z_bd h
                  refine g_callV (a := 137) (as := [.int (z_tb q430.1)]) (rest := []) (c := mX12_must) (k1 := 2) dX12_readStep_138 rfl rfl rfl sh_137 rfl rfl (Nat.le_of_ble_eq_true rfl) (Nat.le_of_ble_eq_true rfl) (by omega) ?_
                  refine A_X12_must e433 ?_
                  show z_G none (k + 1) mX12_readStep 141 [some (.ref 139), some (.int a1), some (.int q41.1), some (.int (1 : Int32)), some (.int ((1605 : Int32) + ((9 : Int32) * (q41.2.1 137 25))))] [] q432.2 Q
                  exact g_sub (z_sub_s (z_sub_s (z_sub_n (z_sub_s (z_sub_s z_sub_nil))))) ((AL_X12_readStep (w := w) hk0 hG w) _ _ _ _ _ _ _ h hq)
                · replace h := z_iff c424 h
                  cases h
                  exact g_vret dX12_readStep_89 rfl hq
              · replace h := z_ift c423 h
                refine g_aload_n dX12_readStep_72 rfl rfl ?_
                refine g_bipush (v := (7 : Int32)) dX12_readStep_73 (by decide) ?_
                refine g_aload_n dX12_readStep_75 rfl rfl ?_
                refine g_get (a := 137) (v := .int (q41.2.1 137 15)) dX12_readStep_76 f_12_106 sh_137 rfl rfl ?_
                obtain ⟨q434, e435, h⟩ := z_bd h
                refine g_callV (a := 137) (as := [.int (7 : Int32), .int (q41.2.1 137 15)]) (rest := []) (c := mX12_fail) (k1 := 0) dX12_readStep_79 rfl rfl rfl sh_137 rfl rfl (Nat.le_of_ble_eq_true rfl) (Nat.le_of_ble_eq_true rfl) (by omega) ?_
                refine A_X12_fail e435 ?_
                show z_G none (k + 1) mX12_readStep 82 [some (.ref 139), some (.int a1), some (.int q41.1), some (.int (1 : Int32)), none] [] q434.2 Q
                refine g_aload_n dX12_readStep_82 rfl rfl ?_
                refine g_get (a := 137) (v := .int (q434.2.1 137 12)) dX12_readStep_83 f_12_212 sh_137 rfl rfl ?_
                refine g_if_le (t := 90) dX12_readStep_86 (by decide) (fun c436 => ?_) (fun c436 => ?_)
                · replace h := z_ift c436 h
                  refine g_sipush (v := (1605 : Int32)) dX12_readStep_90 (by decide) ?_
                  refine g_bipush (v := (9 : Int32)) dX12_readStep_93 (by decide) ?_
                  refine g_aload_n dX12_readStep_95 rfl rfl ?_
                  refine g_get (a := 137) (v := .int (q434.2.1 137 25)) dX12_readStep_96 f_12_322 sh_137 rfl rfl ?_
                  refine g_imul dX12_readStep_99 ?_
                  refine g_iadd dX12_readStep_100 ?_
                  refine g_istore (ls' := [some (.ref 139), some (.int a1), some (.int q41.1), some (.int (1 : Int32)), some (.int ((1605 : Int32) + ((9 : Int32) * (q434.2.1 137 25))))]) dX12_readStep_101 (Nat.le_of_ble_eq_true rfl) rfl ?_
                  refine g_aload_n dX12_readStep_103 rfl rfl ?_
                  refine g_dup dX12_readStep_104 rfl ?_
                  refine g_get (a := 137) (v := .int (q434.2.1 137 25)) dX12_readStep_105 f_12_322 sh_137 rfl rfl ?_
                  refine g_iconst (v := (1 : Int32)) dX12_readStep_108 (by decide) ?_
                  refine g_iadd dX12_readStep_109 ?_
                  refine g_putI (a := 137) dX12_readStep_110 f_12_322 sh_137 rfl rfl rfl ?_
                  refine g_aload_n dX12_readStep_113 rfl rfl ?_
                  obtain ⟨q437, e438, h⟩ := z_bd h
                  refine g_callV (a := 137) (as := []) (rest := []) (c := mX12_advance) (k1 := 1) dX12_readStep_114 rfl rfl rfl sh_137 rfl rfl (Nat.le_of_ble_eq_true rfl) (Nat.le_of_ble_eq_true rfl) (by omega) ?_
                  refine A_X12_advance e438 ?_
                  show z_G none (k + 1) mX12_readStep 117 [some (.ref 139), some (.int a1), some (.int q41.1), some (.int (1 : Int32)), some (.int ((1605 : Int32) + ((9 : Int32) * (q434.2.1 137 25))))] [] q437.2 Q
                  refine g_aload_n dX12_readStep_117 rfl rfl ?_
                  refine g_get (a := 137) (v := .ref 144) dX12_readStep_118 f_12_35 sh_137 rfl rfl ?_
                  refine g_iload dX12_readStep_121 rfl ?_
                  refine g_iload_n dX12_readStep_123 rfl rfl ?_
                  by_cases g439 : ((1605 : Int32) + ((9 : Int32) * (q434.2.1 137 25))) < 0 ∨ 1875 ≤ ((1605 : Int32) + ((9 : Int32) * (q434.2.1 137 25))).toNatClampNeg
                  · rw [if_pos g439] at h; cases h
                  replace h := z_iff g439 h
                  refine g_iast (a := 142) dX12_readStep_124 sh_142 g439 ?_
                  refine g_aload_n dX12_readStep_125 rfl rfl ?_
                  refine g_iload dX12_readStep_126 rfl ?_
                  obtain ⟨q440, e441, h⟩ := z_bd h
                  refine g_callV (a := 137) (as := [.int ((1605 : Int32) + ((9 : Int32) * (q434.2.1 137 25)))]) (rest := []) (c := mX12_readRest) (k1 := 5) dX12_readStep_128 rfl rfl rfl sh_137 rfl rfl (Nat.le_of_ble_eq_true rfl) (Nat.le_of_ble_eq_true rfl) (by omega) ?_
                  refine A_X12_readRest e441 ?_
                  show z_G none (k + 1) mX12_readStep 131 [some (.ref 139), some (.int a1), some (.int q41.1), some (.int (1 : Int32)), some (.int ((1605 : Int32) + ((9 : Int32) * (q434.2.1 137 25))))] [] q440.2 Q
                  refine g_aload_n dX12_readStep_131 rfl rfl ?_
                  refine g_aload_n dX12_readStep_132 rfl rfl ?_
                  refine g_bipush (v := (59 : Int32)) dX12_readStep_133 (by decide) ?_
                  obtain ⟨q442, e443, h⟩ := z_bd h
                  refine g_callV (a := 137) (as := [.int (59 : Int32)]) (rest := [.ref 139]) (c := mX12_isSign) (k1 := 0) dX12_readStep_135 rfl rfl rfl sh_137 rfl rfl (Nat.le_of_ble_eq_true rfl) (Nat.le_of_ble_eq_true rfl) (by omega) ?_
                  refine A_X12_isSign e443 ?_
                  show z_G none (k + 1) mX12_readStep 138 [some (.ref 139), some (.int a1), some (.int q41.1), some (.int (1 : Int32)), some (.int ((1605 : Int32) + ((9 : Int32) * (q434.2.1 137 25))))] [.int (z_tb q442.1), .ref 139] q442.2 Q
                  obtain ⟨q444, e445, h⟩ := z_bd h
                  refine g_callV (a := 137) (as := [.int (z_tb q442.1)]) (rest := []) (c := mX12_must) (k1 := 2) dX12_readStep_138 rfl rfl rfl sh_137 rfl rfl (Nat.le_of_ble_eq_true rfl) (Nat.le_of_ble_eq_true rfl) (by omega) ?_
                  refine A_X12_must e445 ?_
                  show z_G none (k + 1) mX12_readStep 141 [some (.ref 139), some (.int a1), some (.int q41.1), some (.int (1 : Int32)), some (.int ((1605 : Int32) + ((9 : Int32) * (q434.2.1 137 25))))] [] q444.2 Q
                  exact g_sub (z_sub_s (z_sub_s (z_sub_n (z_sub_s (z_sub_s z_sub_nil))))) ((AL_X12_readStep (w := w) hk0 hG w) _ _ _ _ _ _ _ h hq)
                · replace h := z_iff c436 h
                  cases h
                  exact g_vret dX12_readStep_89 rfl hq
        · replace h := z_ift c410 h
          refine g_aload_n dX12_readStep_37 rfl rfl ?_
          refine g_get (a := 137) (v := .int (q41.2.1 137 25)) dX12_readStep_38 f_12_322 sh_137 rfl rfl ?_
          refine g_bipush (v := (30 : Int32)) dX12_readStep_41 (by decide) ?_
          refine g_ic_ne (t := 56) dX12_readStep_43 (by decide) (fun c446 => ?_) (fun c446 => ?_)
          · replace h := z_iff c446 h
            refine g_aload_n dX12_readStep_56 rfl rfl ?_
            refine g_get (a := 137) (v := .int (q41.2.1 137 12)) dX12_readStep_57 f_12_212 sh_137 rfl rfl ?_
            refine g_if_ne (t := 82) dX12_readStep_60 (by decide) (fun c447 => ?_) (fun c447 => ?_)
            · replace h := z_iff c447 h
              refine g_aload_n dX12_readStep_82 rfl rfl ?_
              refine g_get (a := 137) (v := .int (q41.2.1 137 12)) dX12_readStep_83 f_12_212 sh_137 rfl rfl ?_
              refine g_if_le (t := 90) dX12_readStep_86 (by decide) (fun c448 => ?_) (fun c448 => ?_)
              · replace h := z_ift c448 h
                refine g_sipush (v := (1605 : Int32)) dX12_readStep_90 (by decide) ?_
                refine g_bipush (v := (9 : Int32)) dX12_readStep_93 (by decide) ?_
                refine g_aload_n dX12_readStep_95 rfl rfl ?_
                refine g_get (a := 137) (v := .int (q41.2.1 137 25)) dX12_readStep_96 f_12_322 sh_137 rfl rfl ?_
                refine g_imul dX12_readStep_99 ?_
                refine g_iadd dX12_readStep_100 ?_
                refine g_istore (ls' := [some (.ref 139), some (.int a1), some (.int q41.1), some (.int (1 : Int32)), some (.int ((1605 : Int32) + ((9 : Int32) * (q41.2.1 137 25))))]) dX12_readStep_101 (Nat.le_of_ble_eq_true rfl) rfl ?_
                refine g_aload_n dX12_readStep_103 rfl rfl ?_
                refine g_dup dX12_readStep_104 rfl ?_
                refine g_get (a := 137) (v := .int (q41.2.1 137 25)) dX12_readStep_105 f_12_322 sh_137 rfl rfl ?_
                refine g_iconst (v := (1 : Int32)) dX12_readStep_108 (by decide) ?_
                refine g_iadd dX12_readStep_109 ?_
                refine g_putI (a := 137) dX12_readStep_110 f_12_322 sh_137 rfl rfl rfl ?_
                refine g_aload_n dX12_readStep_113 rfl rfl ?_
                obtain ⟨q449, e450, h⟩ := z_bd h
                refine g_callV (a := 137) (as := []) (rest := []) (c := mX12_advance) (k1 := 1) dX12_readStep_114 rfl rfl rfl sh_137 rfl rfl (Nat.le_of_ble_eq_true rfl) (Nat.le_of_ble_eq_true rfl) (by omega) ?_
                refine A_X12_advance e450 ?_
                show z_G none (k + 1) mX12_readStep 117 [some (.ref 139), some (.int a1), some (.int q41.1), some (.int (1 : Int32)), some (.int ((1605 : Int32) + ((9 : Int32) * (q41.2.1 137 25))))] [] q449.2 Q
                refine g_aload_n dX12_readStep_117 rfl rfl ?_
                refine g_get (a := 137) (v := .ref 144) dX12_readStep_118 f_12_35 sh_137 rfl rfl ?_
                refine g_iload dX12_readStep_121 rfl ?_
                refine g_iload_n dX12_readStep_123 rfl rfl ?_
                by_cases g451 : ((1605 : Int32) + ((9 : Int32) * (q41.2.1 137 25))) < 0 ∨ 1875 ≤ ((1605 : Int32) + ((9 : Int32) * (q41.2.1 137 25))).toNatClampNeg
                · rw [if_pos g451] at h; cases h
                replace h := z_iff g451 h
                refine g_iast (a := 142) dX12_readStep_124 sh_142 g451 ?_
                refine g_aload_n dX12_readStep_125 rfl rfl ?_
                refine g_iload dX12_readStep_126 rfl ?_
                obtain ⟨q452, e453, h⟩ := z_bd h
                refine g_callV (a := 137) (as := [.int ((1605 : Int32) + ((9 : Int32) * (q41.2.1 137 25)))]) (rest := []) (c := mX12_readRest) (k1 := 5) dX12_readStep_128 rfl rfl rfl sh_137 rfl rfl (Nat.le_of_ble_eq_true rfl) (Nat.le_of_ble_eq_true rfl) (by omega) ?_
                refine A_X12_readRest e453 ?_
                show z_G none (k + 1) mX12_readStep 131 [some (.ref 139), some (.int a1), some (.int q41.1), some (.int (1 : Int32)), some (.int ((1605 : Int32) + ((9 : Int32) * (q41.2.1 137 25))))] [] q452.2 Q
                refine g_aload_n dX12_readStep_131 rfl rfl ?_
                refine g_aload_n dX12_readStep_132 rfl rfl ?_
                refine g_bipush (v := (59 : Int32)) dX12_readStep_133 (by decide) ?_
                obtain ⟨q454, e455, h⟩ := z_bd h
                refine g_callV (a := 137) (as := [.int (59 : Int32)]) (rest := [.ref 139]) (c := mX12_isSign) (k1 := 0) dX12_readStep_135 rfl rfl rfl sh_137 rfl rfl (Nat.le_of_ble_eq_true rfl) (Nat.le_of_ble_eq_true rfl) (by omega) ?_
                refine A_X12_isSign e455 ?_
                show z_G none (k + 1) mX12_readStep 138 [some (.ref 139), some (.int a1), some (.int q41.1), some (.int (1 : Int32)), some (.int ((1605 : Int32) + ((9 : Int32) * (q41.2.1 137 25))))] [.int (z_tb q454.1), .ref 139] q454.2 Q
                obtain ⟨q456, e457, h⟩ := z_bd h
                refine g_callV (a := 137) (as := [.int (z_tb q454.1)]) (rest := []) (c := mX12_must) (k1 := 2) dX12_readStep_138 rfl rfl rfl sh_137 rfl rfl (Nat.le_of_ble_eq_true rfl) (Nat.le_of_ble_eq_true rfl) (by omega) ?_
                refine A_X12_must e457 ?_
                show z_G none (k + 1) mX12_readStep 141 [some (.ref 139), some (.int a1), some (.int q41.1), some (.int (1 : Int32)), some (.int ((1605 : Int32) + ((9 : Int32) * (q41.2.1 137 25))))] [] q456.2 Q
                exact g_sub (z_sub_s (z_sub_s (z_sub_n (z_sub_s (z_sub_s z_sub_nil))))) ((AL_X12_readStep (w := w) hk0 hG w) _ _ _ _ _ _ _ h hq)
              · replace h := z_iff c448 h
                cases h
                exact g_vret dX12_readStep_89 rfl hq
            · replace h := z_ift c447 h
              refine g_iload_n dX12_readStep_63 rfl rfl ?_
              refine g_if_eq (t := 82) dX12_readStep_64 (by decide) (fun c458 => ?_) (fun c458 => ?_)
              · exact absurd c458 (by decide)
              · skip
                refine g_iload_n dX12_readStep_67 rfl rfl ?_
                refine g_iconst (v := (3 : Int32)) dX12_readStep_68 (by decide) ?_
                refine g_ic_ne (t := 82) dX12_readStep_69 (by decide) (fun c459 => ?_) (fun c459 => ?_)
                · replace h := z_iff c459 h
                  refine g_aload_n dX12_readStep_82 rfl rfl ?_
                  refine g_get (a := 137) (v := .int (q41.2.1 137 12)) dX12_readStep_83 f_12_212 sh_137 rfl rfl ?_
                  refine g_if_le (t := 90) dX12_readStep_86 (by decide) (fun c460 => ?_) (fun c460 => ?_)
                  · replace h := z_ift c460 h
                    refine g_sipush (v := (1605 : Int32)) dX12_readStep_90 (by decide) ?_
                    refine g_bipush (v := (9 : Int32)) dX12_readStep_93 (by decide) ?_
                    refine g_aload_n dX12_readStep_95 rfl rfl ?_
                    refine g_get (a := 137) (v := .int (q41.2.1 137 25)) dX12_readStep_96 f_12_322 sh_137 rfl rfl ?_
                    refine g_imul dX12_readStep_99 ?_
                    refine g_iadd dX12_readStep_100 ?_
                    refine g_istore (ls' := [some (.ref 139), some (.int a1), some (.int q41.1), some (.int (1 : Int32)), some (.int ((1605 : Int32) + ((9 : Int32) * (q41.2.1 137 25))))]) dX12_readStep_101 (Nat.le_of_ble_eq_true rfl) rfl ?_
                    refine g_aload_n dX12_readStep_103 rfl rfl ?_
                    refine g_dup dX12_readStep_104 rfl ?_
                    refine g_get (a := 137) (v := .int (q41.2.1 137 25)) dX12_readStep_105 f_12_322 sh_137 rfl rfl ?_
                    refine g_iconst (v := (1 : Int32)) dX12_readStep_108 (by decide) ?_
                    refine g_iadd dX12_readStep_109 ?_
                    refine g_putI (a := 137) dX12_readStep_110 f_12_322 sh_137 rfl rfl rfl ?_
                    refine g_aload_n dX12_readStep_113 rfl rfl ?_
                    obtain ⟨q461, e462, h⟩ := z_bd h
                    refine g_callV (a := 137) (as := []) (rest := []) (c := mX12_advance) (k1 := 1) dX12_readStep_114 rfl rfl rfl sh_137 rfl rfl (Nat.le_of_ble_eq_true rfl) (Nat.le_of_ble_eq_true rfl) (by omega) ?_
                    refine A_X12_advance e462 ?_
                    show z_G none (k + 1) mX12_readStep 117 [some (.ref 139), some (.int a1), some (.int q41.1), some (.int (1 : Int32)), some (.int ((1605 : Int32) + ((9 : Int32) * (q41.2.1 137 25))))] [] q461.2 Q
                    refine g_aload_n dX12_readStep_117 rfl rfl ?_
                    refine g_get (a := 137) (v := .ref 144) dX12_readStep_118 f_12_35 sh_137 rfl rfl ?_
                    refine g_iload dX12_readStep_121 rfl ?_
                    refine g_iload_n dX12_readStep_123 rfl rfl ?_
                    by_cases g463 : ((1605 : Int32) + ((9 : Int32) * (q41.2.1 137 25))) < 0 ∨ 1875 ≤ ((1605 : Int32) + ((9 : Int32) * (q41.2.1 137 25))).toNatClampNeg
                    · rw [if_pos g463] at h; cases h
                    replace h := z_iff g463 h
                    refine g_iast (a := 142) dX12_readStep_124 sh_142 g463 ?_
                    refine g_aload_n dX12_readStep_125 rfl rfl ?_
                    refine g_iload dX12_readStep_126 rfl ?_
                    obtain ⟨q464, e465, h⟩ := z_bd h
                    refine g_callV (a := 137) (as := [.int ((1605 : Int32) + ((9 : Int32) * (q41.2.1 137 25)))]) (rest := []) (c := mX12_readRest) (k1 := 5) dX12_readStep_128 rfl rfl rfl sh_137 rfl rfl (Nat.le_of_ble_eq_true rfl) (Nat.le_of_ble_eq_true rfl) (by omega) ?_
                    refine A_X12_readRest e465 ?_
                    show z_G none (k + 1) mX12_readStep 131 [some (.ref 139), some (.int a1), some (.int q41.1), some (.int (1 : Int32)), some (.int ((1605 : Int32) + ((9 : Int32) * (q41.2.1 137 25))))] [] q464.2 Q
                    refine g_aload_n dX12_readStep_131 rfl rfl ?_
                    refine g_aload_n dX12_readStep_132 rfl rfl ?_
                    refine g_bipush (v := (59 : Int32)) dX12_readStep_133 (by decide) ?_
                    obtain ⟨q466, e467, h⟩ := z_bd h
                    refine g_callV (a := 137) (as := [.int (59 : Int32)]) (rest := [.ref 139]) (c := mX12_isSign) (k1 := 0) dX12_readStep_135 rfl rfl rfl sh_137 rfl rfl (Nat.le_of_ble_eq_true rfl) (Nat.le_of_ble_eq_true rfl) (by omega) ?_
                    refine A_X12_isSign e467 ?_
                    show z_G none (k + 1) mX12_readStep 138 [some (.ref 139), some (.int a1), some (.int q41.1), some (.int (1 : Int32)), some (.int ((1605 : Int32) + ((9 : Int32) * (q41.2.1 137 25))))] [.int (z_tb q466.1), .ref 139] q466.2 Q
                    obtain ⟨q468, e469, h⟩ := z_bd h
                    refine g_callV (a := 137) (as := [.int (z_tb q466.1)]) (rest := []) (c := mX12_must) (k1 := 2) dX12_readStep_138 rfl rfl rfl sh_137 rfl rfl (Nat.le_of_ble_eq_true rfl) (Nat.le_of_ble_eq_true rfl) (by omega) ?_
                    refine A_X12_must e469 ?_
                    show z_G none (k + 1) mX12_readStep 141 [some (.ref 139), some (.int a1), some (.int q41.1), some (.int (1 : Int32)), some (.int ((1605 : Int32) + ((9 : Int32) * (q41.2.1 137 25))))] [] q468.2 Q
                    exact g_sub (z_sub_s (z_sub_s (z_sub_n (z_sub_s (z_sub_s z_sub_nil))))) ((AL_X12_readStep (w := w) hk0 hG w) _ _ _ _ _ _ _ h hq)
                  · replace h := z_iff c460 h
                    cases h
                    exact g_vret dX12_readStep_89 rfl hq
                · replace h := z_ift c459 h
                  refine g_aload_n dX12_readStep_72 rfl rfl ?_
                  refine g_bipush (v := (7 : Int32)) dX12_readStep_73 (by decide) ?_
                  refine g_aload_n dX12_readStep_75 rfl rfl ?_
                  refine g_get (a := 137) (v := .int (q41.2.1 137 15)) dX12_readStep_76 f_12_106 sh_137 rfl rfl ?_
                  obtain ⟨q470, e471, h⟩ := z_bd h
                  refine g_callV (a := 137) (as := [.int (7 : Int32), .int (q41.2.1 137 15)]) (rest := []) (c := mX12_fail) (k1 := 0) dX12_readStep_79 rfl rfl rfl sh_137 rfl rfl (Nat.le_of_ble_eq_true rfl) (Nat.le_of_ble_eq_true rfl) (by omega) ?_
                  refine A_X12_fail e471 ?_
                  show z_G none (k + 1) mX12_readStep 82 [some (.ref 139), some (.int a1), some (.int q41.1), some (.int (1 : Int32)), none] [] q470.2 Q
                  refine g_aload_n dX12_readStep_82 rfl rfl ?_
                  refine g_get (a := 137) (v := .int (q470.2.1 137 12)) dX12_readStep_83 f_12_212 sh_137 rfl rfl ?_
                  refine g_if_le (t := 90) dX12_readStep_86 (by decide) (fun c472 => ?_) (fun c472 => ?_)
                  · replace h := z_ift c472 h
                    refine g_sipush (v := (1605 : Int32)) dX12_readStep_90 (by decide) ?_
                    refine g_bipush (v := (9 : Int32)) dX12_readStep_93 (by decide) ?_
                    refine g_aload_n dX12_readStep_95 rfl rfl ?_
                    refine g_get (a := 137) (v := .int (q470.2.1 137 25)) dX12_readStep_96 f_12_322 sh_137 rfl rfl ?_
                    refine g_imul dX12_readStep_99 ?_
                    refine g_iadd dX12_readStep_100 ?_
                    refine g_istore (ls' := [some (.ref 139), some (.int a1), some (.int q41.1), some (.int (1 : Int32)), some (.int ((1605 : Int32) + ((9 : Int32) * (q470.2.1 137 25))))]) dX12_readStep_101 (Nat.le_of_ble_eq_true rfl) rfl ?_
                    refine g_aload_n dX12_readStep_103 rfl rfl ?_
                    refine g_dup dX12_readStep_104 rfl ?_
                    refine g_get (a := 137) (v := .int (q470.2.1 137 25)) dX12_readStep_105 f_12_322 sh_137 rfl rfl ?_
                    refine g_iconst (v := (1 : Int32)) dX12_readStep_108 (by decide) ?_
                    refine g_iadd dX12_readStep_109 ?_
                    refine g_putI (a := 137) dX12_readStep_110 f_12_322 sh_137 rfl rfl rfl ?_
                    refine g_aload_n dX12_readStep_113 rfl rfl ?_
                    obtain ⟨q473, e474, h⟩ := z_bd h
                    refine g_callV (a := 137) (as := []) (rest := []) (c := mX12_advance) (k1 := 1) dX12_readStep_114 rfl rfl rfl sh_137 rfl rfl (Nat.le_of_ble_eq_true rfl) (Nat.le_of_ble_eq_true rfl) (by omega) ?_
                    refine A_X12_advance e474 ?_
                    show z_G none (k + 1) mX12_readStep 117 [some (.ref 139), some (.int a1), some (.int q41.1), some (.int (1 : Int32)), some (.int ((1605 : Int32) + ((9 : Int32) * (q470.2.1 137 25))))] [] q473.2 Q
                    refine g_aload_n dX12_readStep_117 rfl rfl ?_
                    refine g_get (a := 137) (v := .ref 144) dX12_readStep_118 f_12_35 sh_137 rfl rfl ?_
                    refine g_iload dX12_readStep_121 rfl ?_
                    refine g_iload_n dX12_readStep_123 rfl rfl ?_
                    by_cases g475 : ((1605 : Int32) + ((9 : Int32) * (q470.2.1 137 25))) < 0 ∨ 1875 ≤ ((1605 : Int32) + ((9 : Int32) * (q470.2.1 137 25))).toNatClampNeg
                    · rw [if_pos g475] at h; cases h
                    replace h := z_iff g475 h
                    refine g_iast (a := 142) dX12_readStep_124 sh_142 g475 ?_
                    refine g_aload_n dX12_readStep_125 rfl rfl ?_
                    refine g_iload dX12_readStep_126 rfl ?_
                    obtain ⟨q476, e477, h⟩ := z_bd h
                    refine g_callV (a := 137) (as := [.int ((1605 : Int32) + ((9 : Int32) * (q470.2.1 137 25)))]) (rest := []) (c := mX12_readRest) (k1 := 5) dX12_readStep_128 rfl rfl rfl sh_137 rfl rfl (Nat.le_of_ble_eq_true rfl) (Nat.le_of_ble_eq_true rfl) (by omega) ?_
                    refine A_X12_readRest e477 ?_
                    show z_G none (k + 1) mX12_readStep 131 [some (.ref 139), some (.int a1), some (.int q41.1), some (.int (1 : Int32)), some (.int ((1605 : Int32) + ((9 : Int32) * (q470.2.1 137 25))))] [] q476.2 Q
                    refine g_aload_n dX12_readStep_131 rfl rfl ?_
                    refine g_aload_n dX12_readStep_132 rfl rfl ?_
                    refine g_bipush (v := (59 : Int32)) dX12_readStep_133 (by decide) ?_
                    obtain ⟨q478, e479, h⟩ := z_bd h
                    refine g_callV (a := 137) (as := [.int (59 : Int32)]) (rest := [.ref 139]) (c := mX12_isSign) (k1 := 0) dX12_readStep_135 rfl rfl rfl sh_137 rfl rfl (Nat.le_of_ble_eq_true rfl) (Nat.le_of_ble_eq_true rfl) (by omega) ?_
                    refine A_X12_isSign e479 ?_
                    show z_G none (k + 1) mX12_readStep 138 [some (.ref 139), some (.int a1), some (.int q41.1), some (.int (1 : Int32)), some (.int ((1605 : Int32) + ((9 : Int32) * (q470.2.1 137 25))))] [.int (z_tb q478.1), .ref 139] q478.2 Q
                    obtain ⟨q480, e481, h⟩ := z_bd h
                    refine g_callV (a := 137) (as := [.int (z_tb q478.1)]) (rest := []) (c := mX12_must) (k1 := 2) dX12_readStep_138 rfl rfl rfl sh_137 rfl rfl (Nat.le_of_ble_eq_true rfl) (Nat.le_of_ble_eq_true rfl) (by omega) ?_
                    refine A_X12_must e481 ?_
                    show z_G none (k + 1) mX12_readStep 141 [some (.ref 139), some (.int a1), some (.int q41.1), some (.int (1 : Int32)), some (.int ((1605 : Int32) + ((9 : Int32) * (q470.2.1 137 25))))] [] q480.2 Q
                    exact g_sub (z_sub_s (z_sub_s (z_sub_n (z_sub_s (z_sub_s z_sub_nil))))) ((AL_X12_readStep (w := w) hk0 hG w) _ _ _ _ _ _ _ h hq)
                  · replace h := z_iff c472 h
                    cases h
                    exact g_vret dX12_readStep_89 rfl hq
          · replace h := z_ift c446 h
            refine g_aload_n dX12_readStep_46 rfl rfl ?_
            refine g_bipush (v := (6 : Int32)) dX12_readStep_47 (by decide) ?_
            refine g_aload_n dX12_readStep_49 rfl rfl ?_
            refine g_get (a := 137) (v := .int (q41.2.1 137 15)) dX12_readStep_50 f_12_106 sh_137 rfl rfl ?_
            obtain ⟨q482, e483, h⟩ := z_bd h
            refine g_callV (a := 137) (as := [.int (6 : Int32), .int (q41.2.1 137 15)]) (rest := []) (c := mX12_fail) (k1 := 0) dX12_readStep_53 rfl rfl rfl sh_137 rfl rfl (Nat.le_of_ble_eq_true rfl) (Nat.le_of_ble_eq_true rfl) (by omega) ?_
            refine A_X12_fail e483 ?_
            show z_G none (k + 1) mX12_readStep 56 [some (.ref 139), some (.int a1), some (.int q41.1), some (.int (1 : Int32)), none] [] q482.2 Q
            refine g_aload_n dX12_readStep_56 rfl rfl ?_
            refine g_get (a := 137) (v := .int (q482.2.1 137 12)) dX12_readStep_57 f_12_212 sh_137 rfl rfl ?_
            refine g_if_ne (t := 82) dX12_readStep_60 (by decide) (fun c484 => ?_) (fun c484 => ?_)
            · replace h := z_iff c484 h
              refine g_aload_n dX12_readStep_82 rfl rfl ?_
              refine g_get (a := 137) (v := .int (q482.2.1 137 12)) dX12_readStep_83 f_12_212 sh_137 rfl rfl ?_
              refine g_if_le (t := 90) dX12_readStep_86 (by decide) (fun c485 => ?_) (fun c485 => ?_)
              · replace h := z_ift c485 h
                refine g_sipush (v := (1605 : Int32)) dX12_readStep_90 (by decide) ?_
                refine g_bipush (v := (9 : Int32)) dX12_readStep_93 (by decide) ?_
                refine g_aload_n dX12_readStep_95 rfl rfl ?_
                refine g_get (a := 137) (v := .int (q482.2.1 137 25)) dX12_readStep_96 f_12_322 sh_137 rfl rfl ?_
                refine g_imul dX12_readStep_99 ?_
                refine g_iadd dX12_readStep_100 ?_
                refine g_istore (ls' := [some (.ref 139), some (.int a1), some (.int q41.1), some (.int (1 : Int32)), some (.int ((1605 : Int32) + ((9 : Int32) * (q482.2.1 137 25))))]) dX12_readStep_101 (Nat.le_of_ble_eq_true rfl) rfl ?_
                refine g_aload_n dX12_readStep_103 rfl rfl ?_
                refine g_dup dX12_readStep_104 rfl ?_
                refine g_get (a := 137) (v := .int (q482.2.1 137 25)) dX12_readStep_105 f_12_322 sh_137 rfl rfl ?_
                refine g_iconst (v := (1 : Int32)) dX12_readStep_108 (by decide) ?_
                refine g_iadd dX12_readStep_109 ?_
                refine g_putI (a := 137) dX12_readStep_110 f_12_322 sh_137 rfl rfl rfl ?_
                refine g_aload_n dX12_readStep_113 rfl rfl ?_
                obtain ⟨q486, e487, h⟩ := z_bd h
                refine g_callV (a := 137) (as := []) (rest := []) (c := mX12_advance) (k1 := 1) dX12_readStep_114 rfl rfl rfl sh_137 rfl rfl (Nat.le_of_ble_eq_true rfl) (Nat.le_of_ble_eq_true rfl) (by omega) ?_
                refine A_X12_advance e487 ?_
                show z_G none (k + 1) mX12_readStep 117 [some (.ref 139), some (.int a1), some (.int q41.1), some (.int (1 : Int32)), some (.int ((1605 : Int32) + ((9 : Int32) * (q482.2.1 137 25))))] [] q486.2 Q
                refine g_aload_n dX12_readStep_117 rfl rfl ?_
                refine g_get (a := 137) (v := .ref 144) dX12_readStep_118 f_12_35 sh_137 rfl rfl ?_
                refine g_iload dX12_readStep_121 rfl ?_
                refine g_iload_n dX12_readStep_123 rfl rfl ?_
                by_cases g488 : ((1605 : Int32) + ((9 : Int32) * (q482.2.1 137 25))) < 0 ∨ 1875 ≤ ((1605 : Int32) + ((9 : Int32) * (q482.2.1 137 25))).toNatClampNeg
                · rw [if_pos g488] at h; cases h
                replace h := z_iff g488 h
                refine g_iast (a := 142) dX12_readStep_124 sh_142 g488 ?_
                refine g_aload_n dX12_readStep_125 rfl rfl ?_
                refine g_iload dX12_readStep_126 rfl ?_
                obtain ⟨q489, e490, h⟩ := z_bd h
                refine g_callV (a := 137) (as := [.int ((1605 : Int32) + ((9 : Int32) * (q482.2.1 137 25)))]) (rest := []) (c := mX12_readRest) (k1 := 5) dX12_readStep_128 rfl rfl rfl sh_137 rfl rfl (Nat.le_of_ble_eq_true rfl) (Nat.le_of_ble_eq_true rfl) (by omega) ?_
                refine A_X12_readRest e490 ?_
                show z_G none (k + 1) mX12_readStep 131 [some (.ref 139), some (.int a1), some (.int q41.1), some (.int (1 : Int32)), some (.int ((1605 : Int32) + ((9 : Int32) * (q482.2.1 137 25))))] [] q489.2 Q
                refine g_aload_n dX12_readStep_131 rfl rfl ?_
                refine g_aload_n dX12_readStep_132 rfl rfl ?_
                refine g_bipush (v := (59 : Int32)) dX12_readStep_133 (by decide) ?_
                obtain ⟨q491, e492, h⟩ := z_bd h
                refine g_callV (a := 137) (as := [.int (59 : Int32)]) (rest := [.ref 139]) (c := mX12_isSign) (k1 := 0) dX12_readStep_135 rfl rfl rfl sh_137 rfl rfl (Nat.le_of_ble_eq_true rfl) (Nat.le_of_ble_eq_true rfl) (by omega) ?_
                refine A_X12_isSign e492 ?_
                show z_G none (k + 1) mX12_readStep 138 [some (.ref 139), some (.int a1), some (.int q41.1), some (.int (1 : Int32)), some (.int ((1605 : Int32) + ((9 : Int32) * (q482.2.1 137 25))))] [.int (z_tb q491.1), .ref 139] q491.2 Q
                obtain ⟨q493, e494, h⟩ := z_bd h
                refine g_callV (a := 137) (as := [.int (z_tb q491.1)]) (rest := []) (c := mX12_must) (k1 := 2) dX12_readStep_138 rfl rfl rfl sh_137 rfl rfl (Nat.le_of_ble_eq_true rfl) (Nat.le_of_ble_eq_true rfl) (by omega) ?_
                refine A_X12_must e494 ?_
                show z_G none (k + 1) mX12_readStep 141 [some (.ref 139), some (.int a1), some (.int q41.1), some (.int (1 : Int32)), some (.int ((1605 : Int32) + ((9 : Int32) * (q482.2.1 137 25))))] [] q493.2 Q
                exact g_sub (z_sub_s (z_sub_s (z_sub_n (z_sub_s (z_sub_s z_sub_nil))))) ((AL_X12_readStep (w := w) hk0 hG w) _ _ _ _ _ _ _ h hq)
              · replace h := z_iff c485 h
                cases h
                exact g_vret dX12_readStep_89 rfl hq
            · replace h := z_ift c484 h
              refine g_iload_n dX12_readStep_63 rfl rfl ?_
              refine g_if_eq (t := 82) dX12_readStep_64 (by decide) (fun c495 => ?_) (fun c495 => ?_)
              · exact absurd c495 (by decide)
              · skip
                refine g_iload_n dX12_readStep_67 rfl rfl ?_
                refine g_iconst (v := (3 : Int32)) dX12_readStep_68 (by decide) ?_
                refine g_ic_ne (t := 82) dX12_readStep_69 (by decide) (fun c496 => ?_) (fun c496 => ?_)
                · replace h := z_iff c496 h
                  refine g_aload_n dX12_readStep_82 rfl rfl ?_
                  refine g_get (a := 137) (v := .int (q482.2.1 137 12)) dX12_readStep_83 f_12_212 sh_137 rfl rfl ?_
                  refine g_if_le (t := 90) dX12_readStep_86 (by decide) (fun c497 => ?_) (fun c497 => ?_)
                  · replace h := z_ift c497 h
                    refine g_sipush (v := (1605 : Int32)) dX12_readStep_90 (by decide) ?_
                    refine g_bipush (v := (9 : Int32)) dX12_readStep_93 (by decide) ?_
                    refine g_aload_n dX12_readStep_95 rfl rfl ?_
                    refine g_get (a := 137) (v := .int (q482.2.1 137 25)) dX12_readStep_96 f_12_322 sh_137 rfl rfl ?_
                    refine g_imul dX12_readStep_99 ?_
                    refine g_iadd dX12_readStep_100 ?_
                    refine g_istore (ls' := [some (.ref 139), some (.int a1), some (.int q41.1), some (.int (1 : Int32)), some (.int ((1605 : Int32) + ((9 : Int32) * (q482.2.1 137 25))))]) dX12_readStep_101 (Nat.le_of_ble_eq_true rfl) rfl ?_
                    refine g_aload_n dX12_readStep_103 rfl rfl ?_
                    refine g_dup dX12_readStep_104 rfl ?_
                    refine g_get (a := 137) (v := .int (q482.2.1 137 25)) dX12_readStep_105 f_12_322 sh_137 rfl rfl ?_
                    refine g_iconst (v := (1 : Int32)) dX12_readStep_108 (by decide) ?_
                    refine g_iadd dX12_readStep_109 ?_
                    refine g_putI (a := 137) dX12_readStep_110 f_12_322 sh_137 rfl rfl rfl ?_
                    refine g_aload_n dX12_readStep_113 rfl rfl ?_
                    obtain ⟨q498, e499, h⟩ := z_bd h
                    refine g_callV (a := 137) (as := []) (rest := []) (c := mX12_advance) (k1 := 1) dX12_readStep_114 rfl rfl rfl sh_137 rfl rfl (Nat.le_of_ble_eq_true rfl) (Nat.le_of_ble_eq_true rfl) (by omega) ?_
                    refine A_X12_advance e499 ?_
                    show z_G none (k + 1) mX12_readStep 117 [some (.ref 139), some (.int a1), some (.int q41.1), some (.int (1 : Int32)), some (.int ((1605 : Int32) + ((9 : Int32) * (q482.2.1 137 25))))] [] q498.2 Q
                    refine g_aload_n dX12_readStep_117 rfl rfl ?_
                    refine g_get (a := 137) (v := .ref 144) dX12_readStep_118 f_12_35 sh_137 rfl rfl ?_
                    refine g_iload dX12_readStep_121 rfl ?_
                    refine g_iload_n dX12_readStep_123 rfl rfl ?_
                    by_cases g500 : ((1605 : Int32) + ((9 : Int32) * (q482.2.1 137 25))) < 0 ∨ 1875 ≤ ((1605 : Int32) + ((9 : Int32) * (q482.2.1 137 25))).toNatClampNeg
                    · rw [if_pos g500] at h; cases h
                    replace h := z_iff g500 h
                    refine g_iast (a := 142) dX12_readStep_124 sh_142 g500 ?_
                    refine g_aload_n dX12_readStep_125 rfl rfl ?_
                    refine g_iload dX12_readStep_126 rfl ?_
                    obtain ⟨q501, e502, h⟩ := z_bd h
                    refine g_callV (a := 137) (as := [.int ((1605 : Int32) + ((9 : Int32) * (q482.2.1 137 25)))]) (rest := []) (c := mX12_readRest) (k1 := 5) dX12_readStep_128 rfl rfl rfl sh_137 rfl rfl (Nat.le_of_ble_eq_true rfl) (Nat.le_of_ble_eq_true rfl) (by omega) ?_
                    refine A_X12_readRest e502 ?_
                    show z_G none (k + 1) mX12_readStep 131 [some (.ref 139), some (.int a1), some (.int q41.1), some (.int (1 : Int32)), some (.int ((1605 : Int32) + ((9 : Int32) * (q482.2.1 137 25))))] [] q501.2 Q
                    refine g_aload_n dX12_readStep_131 rfl rfl ?_
                    refine g_aload_n dX12_readStep_132 rfl rfl ?_
                    refine g_bipush (v := (59 : Int32)) dX12_readStep_133 (by decide) ?_
                    obtain ⟨q503, e504, h⟩ := z_bd h
                    refine g_callV (a := 137) (as := [.int (59 : Int32)]) (rest := [.ref 139]) (c := mX12_isSign) (k1 := 0) dX12_readStep_135 rfl rfl rfl sh_137 rfl rfl (Nat.le_of_ble_eq_true rfl) (Nat.le_of_ble_eq_true rfl) (by omega) ?_
                    refine A_X12_isSign e504 ?_
                    show z_G none (k + 1) mX12_readStep 138 [some (.ref 139), some (.int a1), some (.int q41.1), some (.int (1 : Int32)), some (.int ((1605 : Int32) + ((9 : Int32) * (q482.2.1 137 25))))] [.int (z_tb q503.1), .ref 139] q503.2 Q
                    obtain ⟨q505, e506, h⟩ := z_bd h
                    refine g_callV (a := 137) (as := [.int (z_tb q503.1)]) (rest := []) (c := mX12_must) (k1 := 2) dX12_readStep_138 rfl rfl rfl sh_137 rfl rfl (Nat.le_of_ble_eq_true rfl) (Nat.le_of_ble_eq_true rfl) (by omega) ?_
                    refine A_X12_must e506 ?_
                    show z_G none (k + 1) mX12_readStep 141 [some (.ref 139), some (.int a1), some (.int q41.1), some (.int (1 : Int32)), some (.int ((1605 : Int32) + ((9 : Int32) * (q482.2.1 137 25))))] [] q505.2 Q
                    exact g_sub (z_sub_s (z_sub_s (z_sub_n (z_sub_s (z_sub_s z_sub_nil))))) ((AL_X12_readStep (w := w) hk0 hG w) _ _ _ _ _ _ _ h hq)
                  · replace h := z_iff c497 h
                    cases h
                    exact g_vret dX12_readStep_89 rfl hq
                · replace h := z_ift c496 h
                  refine g_aload_n dX12_readStep_72 rfl rfl ?_
                  refine g_bipush (v := (7 : Int32)) dX12_readStep_73 (by decide) ?_
                  refine g_aload_n dX12_readStep_75 rfl rfl ?_
                  refine g_get (a := 137) (v := .int (q482.2.1 137 15)) dX12_readStep_76 f_12_106 sh_137 rfl rfl ?_
                  obtain ⟨q507, e508, h⟩ := z_bd h
                  refine g_callV (a := 137) (as := [.int (7 : Int32), .int (q482.2.1 137 15)]) (rest := []) (c := mX12_fail) (k1 := 0) dX12_readStep_79 rfl rfl rfl sh_137 rfl rfl (Nat.le_of_ble_eq_true rfl) (Nat.le_of_ble_eq_true rfl) (by omega) ?_
                  refine A_X12_fail e508 ?_
                  show z_G none (k + 1) mX12_readStep 82 [some (.ref 139), some (.int a1), some (.int q41.1), some (.int (1 : Int32)), none] [] q507.2 Q
                  refine g_aload_n dX12_readStep_82 rfl rfl ?_
                  refine g_get (a := 137) (v := .int (q507.2.1 137 12)) dX12_readStep_83 f_12_212 sh_137 rfl rfl ?_
                  refine g_if_le (t := 90) dX12_readStep_86 (by decide) (fun c509 => ?_) (fun c509 => ?_)
                  · replace h := z_ift c509 h
                    refine g_sipush (v := (1605 : Int32)) dX12_readStep_90 (by decide) ?_
                    refine g_bipush (v := (9 : Int32)) dX12_readStep_93 (by decide) ?_
                    refine g_aload_n dX12_readStep_95 rfl rfl ?_
                    refine g_get (a := 137) (v := .int (q507.2.1 137 25)) dX12_readStep_96 f_12_322 sh_137 rfl rfl ?_
                    refine g_imul dX12_readStep_99 ?_
                    refine g_iadd dX12_readStep_100 ?_
                    refine g_istore (ls' := [some (.ref 139), some (.int a1), some (.int q41.1), some (.int (1 : Int32)), some (.int ((1605 : Int32) + ((9 : Int32) * (q507.2.1 137 25))))]) dX12_readStep_101 (Nat.le_of_ble_eq_true rfl) rfl ?_
                    refine g_aload_n dX12_readStep_103 rfl rfl ?_
                    refine g_dup dX12_readStep_104 rfl ?_
                    refine g_get (a := 137) (v := .int (q507.2.1 137 25)) dX12_readStep_105 f_12_322 sh_137 rfl rfl ?_
                    refine g_iconst (v := (1 : Int32)) dX12_readStep_108 (by decide) ?_
                    refine g_iadd dX12_readStep_109 ?_
                    refine g_putI (a := 137) dX12_readStep_110 f_12_322 sh_137 rfl rfl rfl ?_
                    refine g_aload_n dX12_readStep_113 rfl rfl ?_
                    obtain ⟨q510, e511, h⟩ := z_bd h
                    refine g_callV (a := 137) (as := []) (rest := []) (c := mX12_advance) (k1 := 1) dX12_readStep_114 rfl rfl rfl sh_137 rfl rfl (Nat.le_of_ble_eq_true rfl) (Nat.le_of_ble_eq_true rfl) (by omega) ?_
                    refine A_X12_advance e511 ?_
                    show z_G none (k + 1) mX12_readStep 117 [some (.ref 139), some (.int a1), some (.int q41.1), some (.int (1 : Int32)), some (.int ((1605 : Int32) + ((9 : Int32) * (q507.2.1 137 25))))] [] q510.2 Q
                    refine g_aload_n dX12_readStep_117 rfl rfl ?_
                    refine g_get (a := 137) (v := .ref 144) dX12_readStep_118 f_12_35 sh_137 rfl rfl ?_
                    refine g_iload dX12_readStep_121 rfl ?_
                    refine g_iload_n dX12_readStep_123 rfl rfl ?_
                    by_cases g512 : ((1605 : Int32) + ((9 : Int32) * (q507.2.1 137 25))) < 0 ∨ 1875 ≤ ((1605 : Int32) + ((9 : Int32) * (q507.2.1 137 25))).toNatClampNeg
                    · rw [if_pos g512] at h; cases h
                    replace h := z_iff g512 h
                    refine g_iast (a := 142) dX12_readStep_124 sh_142 g512 ?_
                    refine g_aload_n dX12_readStep_125 rfl rfl ?_
                    refine g_iload dX12_readStep_126 rfl ?_
                    obtain ⟨q513, e514, h⟩ := z_bd h
                    refine g_callV (a := 137) (as := [.int ((1605 : Int32) + ((9 : Int32) * (q507.2.1 137 25)))]) (rest := []) (c := mX12_readRest) (k1 := 5) dX12_readStep_128 rfl rfl rfl sh_137 rfl rfl (Nat.le_of_ble_eq_true rfl) (Nat.le_of_ble_eq_true rfl) (by omega) ?_
                    refine A_X12_readRest e514 ?_
                    show z_G none (k + 1) mX12_readStep 131 [some (.ref 139), some (.int a1), some (.int q41.1), some (.int (1 : Int32)), some (.int ((1605 : Int32) + ((9 : Int32) * (q507.2.1 137 25))))] [] q513.2 Q
                    refine g_aload_n dX12_readStep_131 rfl rfl ?_
                    refine g_aload_n dX12_readStep_132 rfl rfl ?_
                    refine g_bipush (v := (59 : Int32)) dX12_readStep_133 (by decide) ?_
                    obtain ⟨q515, e516, h⟩ := z_bd h
                    refine g_callV (a := 137) (as := [.int (59 : Int32)]) (rest := [.ref 139]) (c := mX12_isSign) (k1 := 0) dX12_readStep_135 rfl rfl rfl sh_137 rfl rfl (Nat.le_of_ble_eq_true rfl) (Nat.le_of_ble_eq_true rfl) (by omega) ?_
                    refine A_X12_isSign e516 ?_
                    show z_G none (k + 1) mX12_readStep 138 [some (.ref 139), some (.int a1), some (.int q41.1), some (.int (1 : Int32)), some (.int ((1605 : Int32) + ((9 : Int32) * (q507.2.1 137 25))))] [.int (z_tb q515.1), .ref 139] q515.2 Q
                    obtain ⟨q517, e518, h⟩ := z_bd h
                    refine g_callV (a := 137) (as := [.int (z_tb q515.1)]) (rest := []) (c := mX12_must) (k1 := 2) dX12_readStep_138 rfl rfl rfl sh_137 rfl rfl (Nat.le_of_ble_eq_true rfl) (Nat.le_of_ble_eq_true rfl) (by omega) ?_
                    refine A_X12_must e518 ?_
                    show z_G none (k + 1) mX12_readStep 141 [some (.ref 139), some (.int a1), some (.int q41.1), some (.int (1 : Int32)), some (.int ((1605 : Int32) + ((9 : Int32) * (q507.2.1 137 25))))] [] q517.2 Q
                    exact g_sub (z_sub_s (z_sub_s (z_sub_n (z_sub_s (z_sub_s z_sub_nil))))) ((AL_X12_readStep (w := w) hk0 hG w) _ _ _ _ _ _ _ h hq)
                  · replace h := z_iff c509 h
                    cases h
                    exact g_vret dX12_readStep_89 rfl hq
      · replace h := z_iff c409 h
        refine g_aload_n dX12_readStep_26 rfl rfl ?_
        obtain ⟨q519, e520, h⟩ := z_bd h
        refine g_callV (a := 137) (as := []) (rest := []) (c := mX12_amiss) (k1 := 1) dX12_readStep_27 rfl rfl rfl sh_137 rfl rfl (Nat.le_of_ble_eq_true rfl) (Nat.le_of_ble_eq_true rfl) (by omega) ?_
        refine A_X12_amiss e520 ?_
        show z_G none (k + 1) mX12_readStep 30 [some (.ref 139), some (.int a1), some (.int q41.1), some (.int (1 : Int32)), none] [] q519.2 Q
        refine g_aload_n dX12_readStep_30 rfl rfl ?_
        refine g_get (a := 137) (v := .int (q519.2.1 137 12)) dX12_readStep_31 f_12_212 sh_137 rfl rfl ?_
        refine g_if_ne (t := 56) dX12_readStep_34 (by decide) (fun c521 => ?_) (fun c521 => ?_)
        · replace h := z_iff c521 h
          refine g_aload_n dX12_readStep_56 rfl rfl ?_
          refine g_get (a := 137) (v := .int (q519.2.1 137 12)) dX12_readStep_57 f_12_212 sh_137 rfl rfl ?_
          refine g_if_ne (t := 82) dX12_readStep_60 (by decide) (fun c522 => ?_) (fun c522 => ?_)
          · replace h := z_iff c522 h
            refine g_aload_n dX12_readStep_82 rfl rfl ?_
            refine g_get (a := 137) (v := .int (q519.2.1 137 12)) dX12_readStep_83 f_12_212 sh_137 rfl rfl ?_
            refine g_if_le (t := 90) dX12_readStep_86 (by decide) (fun c523 => ?_) (fun c523 => ?_)
            · replace h := z_ift c523 h
              refine g_sipush (v := (1605 : Int32)) dX12_readStep_90 (by decide) ?_
              refine g_bipush (v := (9 : Int32)) dX12_readStep_93 (by decide) ?_
              refine g_aload_n dX12_readStep_95 rfl rfl ?_
              refine g_get (a := 137) (v := .int (q519.2.1 137 25)) dX12_readStep_96 f_12_322 sh_137 rfl rfl ?_
              refine g_imul dX12_readStep_99 ?_
              refine g_iadd dX12_readStep_100 ?_
              refine g_istore (ls' := [some (.ref 139), some (.int a1), some (.int q41.1), some (.int (1 : Int32)), some (.int ((1605 : Int32) + ((9 : Int32) * (q519.2.1 137 25))))]) dX12_readStep_101 (Nat.le_of_ble_eq_true rfl) rfl ?_
              refine g_aload_n dX12_readStep_103 rfl rfl ?_
              refine g_dup dX12_readStep_104 rfl ?_
              refine g_get (a := 137) (v := .int (q519.2.1 137 25)) dX12_readStep_105 f_12_322 sh_137 rfl rfl ?_
              refine g_iconst (v := (1 : Int32)) dX12_readStep_108 (by decide) ?_
              refine g_iadd dX12_readStep_109 ?_
              refine g_putI (a := 137) dX12_readStep_110 f_12_322 sh_137 rfl rfl rfl ?_
              refine g_aload_n dX12_readStep_113 rfl rfl ?_
              obtain ⟨q524, e525, h⟩ := z_bd h
              refine g_callV (a := 137) (as := []) (rest := []) (c := mX12_advance) (k1 := 1) dX12_readStep_114 rfl rfl rfl sh_137 rfl rfl (Nat.le_of_ble_eq_true rfl) (Nat.le_of_ble_eq_true rfl) (by omega) ?_
              refine A_X12_advance e525 ?_
              show z_G none (k + 1) mX12_readStep 117 [some (.ref 139), some (.int a1), some (.int q41.1), some (.int (1 : Int32)), some (.int ((1605 : Int32) + ((9 : Int32) * (q519.2.1 137 25))))] [] q524.2 Q
              refine g_aload_n dX12_readStep_117 rfl rfl ?_
              refine g_get (a := 137) (v := .ref 144) dX12_readStep_118 f_12_35 sh_137 rfl rfl ?_
              refine g_iload dX12_readStep_121 rfl ?_
              refine g_iload_n dX12_readStep_123 rfl rfl ?_
              by_cases g526 : ((1605 : Int32) + ((9 : Int32) * (q519.2.1 137 25))) < 0 ∨ 1875 ≤ ((1605 : Int32) + ((9 : Int32) * (q519.2.1 137 25))).toNatClampNeg
              · rw [if_pos g526] at h; cases h
              replace h := z_iff g526 h
              refine g_iast (a := 142) dX12_readStep_124 sh_142 g526 ?_
              refine g_aload_n dX12_readStep_125 rfl rfl ?_
              refine g_iload dX12_readStep_126 rfl ?_
              obtain ⟨q527, e528, h⟩ := z_bd h
              refine g_callV (a := 137) (as := [.int ((1605 : Int32) + ((9 : Int32) * (q519.2.1 137 25)))]) (rest := []) (c := mX12_readRest) (k1 := 5) dX12_readStep_128 rfl rfl rfl sh_137 rfl rfl (Nat.le_of_ble_eq_true rfl) (Nat.le_of_ble_eq_true rfl) (by omega) ?_
              refine A_X12_readRest e528 ?_
              show z_G none (k + 1) mX12_readStep 131 [some (.ref 139), some (.int a1), some (.int q41.1), some (.int (1 : Int32)), some (.int ((1605 : Int32) + ((9 : Int32) * (q519.2.1 137 25))))] [] q527.2 Q
              refine g_aload_n dX12_readStep_131 rfl rfl ?_
              refine g_aload_n dX12_readStep_132 rfl rfl ?_
              refine g_bipush (v := (59 : Int32)) dX12_readStep_133 (by decide) ?_
              obtain ⟨q529, e530, h⟩ := z_bd h
              refine g_callV (a := 137) (as := [.int (59 : Int32)]) (rest := [.ref 139]) (c := mX12_isSign) (k1 := 0) dX12_readStep_135 rfl rfl rfl sh_137 rfl rfl (Nat.le_of_ble_eq_true rfl) (Nat.le_of_ble_eq_true rfl) (by omega) ?_
              refine A_X12_isSign e530 ?_
              show z_G none (k + 1) mX12_readStep 138 [some (.ref 139), some (.int a1), some (.int q41.1), some (.int (1 : Int32)), some (.int ((1605 : Int32) + ((9 : Int32) * (q519.2.1 137 25))))] [.int (z_tb q529.1), .ref 139] q529.2 Q
              obtain ⟨q531, e532, h⟩ := z_bd h
              refine g_callV (a := 137) (as := [.int (z_tb q529.1)]) (rest := []) (c := mX12_must) (k1 := 2) dX12_readStep_138 rfl rfl rfl sh_137 rfl rfl (Nat.le_of_ble_eq_true rfl) (Nat.le_of_ble_eq_true rfl) (by omega) ?_
              refine A_X12_must e532 ?_
              show z_G none (k + 1) mX12_readStep 141 [some (.ref 139), some (.int a1), some (.int q41.1), some (.int (1 : Int32)), some (.int ((1605 : Int32) + ((9 : Int32) * (q519.2.1 137 25))))] [] q531.2 Q
              exact g_sub (z_sub_s (z_sub_s (z_sub_n (z_sub_s (z_sub_s z_sub_nil))))) ((AL_X12_readStep (w := w) hk0 hG w) _ _ _ _ _ _ _ h hq)
            · replace h := z_iff c523 h
              cases h
              exact g_vret dX12_readStep_89 rfl hq
          · replace h := z_ift c522 h
            refine g_iload_n dX12_readStep_63 rfl rfl ?_
            refine g_if_eq (t := 82) dX12_readStep_64 (by decide) (fun c533 => ?_) (fun c533 => ?_)
            · exact absurd c533 (by decide)
            · skip
              refine g_iload_n dX12_readStep_67 rfl rfl ?_
              refine g_iconst (v := (3 : Int32)) dX12_readStep_68 (by decide) ?_
              refine g_ic_ne (t := 82) dX12_readStep_69 (by decide) (fun c534 => ?_) (fun c534 => ?_)
              · replace h := z_iff c534 h
                refine g_aload_n dX12_readStep_82 rfl rfl ?_
                refine g_get (a := 137) (v := .int (q519.2.1 137 12)) dX12_readStep_83 f_12_212 sh_137 rfl rfl ?_
                refine g_if_le (t := 90) dX12_readStep_86 (by decide) (fun c535 => ?_) (fun c535 => ?_)
                · replace h := z_ift c535 h
                  refine g_sipush (v := (1605 : Int32)) dX12_readStep_90 (by decide) ?_
                  refine g_bipush (v := (9 : Int32)) dX12_readStep_93 (by decide) ?_
                  refine g_aload_n dX12_readStep_95 rfl rfl ?_
                  refine g_get (a := 137) (v := .int (q519.2.1 137 25)) dX12_readStep_96 f_12_322 sh_137 rfl rfl ?_
                  refine g_imul dX12_readStep_99 ?_
                  refine g_iadd dX12_readStep_100 ?_
                  refine g_istore (ls' := [some (.ref 139), some (.int a1), some (.int q41.1), some (.int (1 : Int32)), some (.int ((1605 : Int32) + ((9 : Int32) * (q519.2.1 137 25))))]) dX12_readStep_101 (Nat.le_of_ble_eq_true rfl) rfl ?_
                  refine g_aload_n dX12_readStep_103 rfl rfl ?_
                  refine g_dup dX12_readStep_104 rfl ?_
                  refine g_get (a := 137) (v := .int (q519.2.1 137 25)) dX12_readStep_105 f_12_322 sh_137 rfl rfl ?_
                  refine g_iconst (v := (1 : Int32)) dX12_readStep_108 (by decide) ?_
                  refine g_iadd dX12_readStep_109 ?_
                  refine g_putI (a := 137) dX12_readStep_110 f_12_322 sh_137 rfl rfl rfl ?_
                  refine g_aload_n dX12_readStep_113 rfl rfl ?_
                  obtain ⟨q536, e537, h⟩ := z_bd h
                  refine g_callV (a := 137) (as := []) (rest := []) (c := mX12_advance) (k1 := 1) dX12_readStep_114 rfl rfl rfl sh_137 rfl rfl (Nat.le_of_ble_eq_true rfl) (Nat.le_of_ble_eq_true rfl) (by omega) ?_
                  refine A_X12_advance e537 ?_
                  show z_G none (k + 1) mX12_readStep 117 [some (.ref 139), some (.int a1), some (.int q41.1), some (.int (1 : Int32)), some (.int ((1605 : Int32) + ((9 : Int32) * (q519.2.1 137 25))))] [] q536.2 Q
                  refine g_aload_n dX12_readStep_117 rfl rfl ?_
                  refine g_get (a := 137) (v := .ref 144) dX12_readStep_118 f_12_35 sh_137 rfl rfl ?_
                  refine g_iload dX12_readStep_121 rfl ?_
                  refine g_iload_n dX12_readStep_123 rfl rfl ?_
                  by_cases g538 : ((1605 : Int32) + ((9 : Int32) * (q519.2.1 137 25))) < 0 ∨ 1875 ≤ ((1605 : Int32) + ((9 : Int32) * (q519.2.1 137 25))).toNatClampNeg
                  · rw [if_pos g538] at h; cases h
                  replace h := z_iff g538 h
                  refine g_iast (a := 142) dX12_readStep_124 sh_142 g538 ?_
                  refine g_aload_n dX12_readStep_125 rfl rfl ?_
                  refine g_iload dX12_readStep_126 rfl ?_
                  obtain ⟨q539, e540, h⟩ := z_bd h
                  refine g_callV (a := 137) (as := [.int ((1605 : Int32) + ((9 : Int32) * (q519.2.1 137 25)))]) (rest := []) (c := mX12_readRest) (k1 := 5) dX12_readStep_128 rfl rfl rfl sh_137 rfl rfl (Nat.le_of_ble_eq_true rfl) (Nat.le_of_ble_eq_true rfl) (by omega) ?_
                  refine A_X12_readRest e540 ?_
                  show z_G none (k + 1) mX12_readStep 131 [some (.ref 139), some (.int a1), some (.int q41.1), some (.int (1 : Int32)), some (.int ((1605 : Int32) + ((9 : Int32) * (q519.2.1 137 25))))] [] q539.2 Q
                  refine g_aload_n dX12_readStep_131 rfl rfl ?_
                  refine g_aload_n dX12_readStep_132 rfl rfl ?_
                  refine g_bipush (v := (59 : Int32)) dX12_readStep_133 (by decide) ?_
                  obtain ⟨q541, e542, h⟩ := z_bd h
                  refine g_callV (a := 137) (as := [.int (59 : Int32)]) (rest := [.ref 139]) (c := mX12_isSign) (k1 := 0) dX12_readStep_135 rfl rfl rfl sh_137 rfl rfl (Nat.le_of_ble_eq_true rfl) (Nat.le_of_ble_eq_true rfl) (by omega) ?_
                  refine A_X12_isSign e542 ?_
                  show z_G none (k + 1) mX12_readStep 138 [some (.ref 139), some (.int a1), some (.int q41.1), some (.int (1 : Int32)), some (.int ((1605 : Int32) + ((9 : Int32) * (q519.2.1 137 25))))] [.int (z_tb q541.1), .ref 139] q541.2 Q
                  obtain ⟨q543, e544, h⟩ := z_bd h
                  refine g_callV (a := 137) (as := [.int (z_tb q541.1)]) (rest := []) (c := mX12_must) (k1 := 2) dX12_readStep_138 rfl rfl rfl sh_137 rfl rfl (Nat.le_of_ble_eq_true rfl) (Nat.le_of_ble_eq_true rfl) (by omega) ?_
                  refine A_X12_must e544 ?_
                  show z_G none (k + 1) mX12_readStep 141 [some (.ref 139), some (.int a1), some (.int q41.1), some (.int (1 : Int32)), some (.int ((1605 : Int32) + ((9 : Int32) * (q519.2.1 137 25))))] [] q543.2 Q
                  exact g_sub (z_sub_s (z_sub_s (z_sub_n (z_sub_s (z_sub_s z_sub_nil))))) ((AL_X12_readStep (w := w) hk0 hG w) _ _ _ _ _ _ _ h hq)
                · replace h := z_iff c535 h
                  cases h
                  exact g_vret dX12_readStep_89 rfl hq
              · replace h := z_ift c534 h
                refine g_aload_n dX12_readStep_72 rfl rfl ?_
                refine g_bipush (v := (7 : Int32)) dX12_readStep_73 (by decide) ?_
                refine g_aload_n dX12_readStep_75 rfl rfl ?_
                refine g_get (a := 137) (v := .int (q519.2.1 137 15)) dX12_readStep_76 f_12_106 sh_137 rfl rfl ?_
                obtain ⟨q545, e546, h⟩ := z_bd h
                refine g_callV (a := 137) (as := [.int (7 : Int32), .int (q519.2.1 137 15)]) (rest := []) (c := mX12_fail) (k1 := 0) dX12_readStep_79 rfl rfl rfl sh_137 rfl rfl (Nat.le_of_ble_eq_true rfl) (Nat.le_of_ble_eq_true rfl) (by omega) ?_
                refine A_X12_fail e546 ?_
                show z_G none (k + 1) mX12_readStep 82 [some (.ref 139), some (.int a1), some (.int q41.1), some (.int (1 : Int32)), none] [] q545.2 Q
                refine g_aload_n dX12_readStep_82 rfl rfl ?_
                refine g_get (a := 137) (v := .int (q545.2.1 137 12)) dX12_readStep_83 f_12_212 sh_137 rfl rfl ?_
                refine g_if_le (t := 90) dX12_readStep_86 (by decide) (fun c547 => ?_) (fun c547 => ?_)
                · replace h := z_ift c547 h
                  refine g_sipush (v := (1605 : Int32)) dX12_readStep_90 (by decide) ?_
                  refine g_bipush (v := (9 : Int32)) dX12_readStep_93 (by decide) ?_
                  refine g_aload_n dX12_readStep_95 rfl rfl ?_
                  refine g_get (a := 137) (v := .int (q545.2.1 137 25)) dX12_readStep_96 f_12_322 sh_137 rfl rfl ?_
                  refine g_imul dX12_readStep_99 ?_
                  refine g_iadd dX12_readStep_100 ?_
                  refine g_istore (ls' := [some (.ref 139), some (.int a1), some (.int q41.1), some (.int (1 : Int32)), some (.int ((1605 : Int32) + ((9 : Int32) * (q545.2.1 137 25))))]) dX12_readStep_101 (Nat.le_of_ble_eq_true rfl) rfl ?_
                  refine g_aload_n dX12_readStep_103 rfl rfl ?_
                  refine g_dup dX12_readStep_104 rfl ?_
                  refine g_get (a := 137) (v := .int (q545.2.1 137 25)) dX12_readStep_105 f_12_322 sh_137 rfl rfl ?_
                  refine g_iconst (v := (1 : Int32)) dX12_readStep_108 (by decide) ?_
                  refine g_iadd dX12_readStep_109 ?_
                  refine g_putI (a := 137) dX12_readStep_110 f_12_322 sh_137 rfl rfl rfl ?_
                  refine g_aload_n dX12_readStep_113 rfl rfl ?_
                  obtain ⟨q548, e549, h⟩ := z_bd h
                  refine g_callV (a := 137) (as := []) (rest := []) (c := mX12_advance) (k1 := 1) dX12_readStep_114 rfl rfl rfl sh_137 rfl rfl (Nat.le_of_ble_eq_true rfl) (Nat.le_of_ble_eq_true rfl) (by omega) ?_
                  refine A_X12_advance e549 ?_
                  show z_G none (k + 1) mX12_readStep 117 [some (.ref 139), some (.int a1), some (.int q41.1), some (.int (1 : Int32)), some (.int ((1605 : Int32) + ((9 : Int32) * (q545.2.1 137 25))))] [] q548.2 Q
                  refine g_aload_n dX12_readStep_117 rfl rfl ?_
                  refine g_get (a := 137) (v := .ref 144) dX12_readStep_118 f_12_35 sh_137 rfl rfl ?_
                  refine g_iload dX12_readStep_121 rfl ?_
                  refine g_iload_n dX12_readStep_123 rfl rfl ?_
                  by_cases g550 : ((1605 : Int32) + ((9 : Int32) * (q545.2.1 137 25))) < 0 ∨ 1875 ≤ ((1605 : Int32) + ((9 : Int32) * (q545.2.1 137 25))).toNatClampNeg
                  · rw [if_pos g550] at h; cases h
                  replace h := z_iff g550 h
                  refine g_iast (a := 142) dX12_readStep_124 sh_142 g550 ?_
                  refine g_aload_n dX12_readStep_125 rfl rfl ?_
                  refine g_iload dX12_readStep_126 rfl ?_
                  obtain ⟨q551, e552, h⟩ := z_bd h
                  refine g_callV (a := 137) (as := [.int ((1605 : Int32) + ((9 : Int32) * (q545.2.1 137 25)))]) (rest := []) (c := mX12_readRest) (k1 := 5) dX12_readStep_128 rfl rfl rfl sh_137 rfl rfl (Nat.le_of_ble_eq_true rfl) (Nat.le_of_ble_eq_true rfl) (by omega) ?_
                  refine A_X12_readRest e552 ?_
                  show z_G none (k + 1) mX12_readStep 131 [some (.ref 139), some (.int a1), some (.int q41.1), some (.int (1 : Int32)), some (.int ((1605 : Int32) + ((9 : Int32) * (q545.2.1 137 25))))] [] q551.2 Q
                  refine g_aload_n dX12_readStep_131 rfl rfl ?_
                  refine g_aload_n dX12_readStep_132 rfl rfl ?_
                  refine g_bipush (v := (59 : Int32)) dX12_readStep_133 (by decide) ?_
                  obtain ⟨q553, e554, h⟩ := z_bd h
                  refine g_callV (a := 137) (as := [.int (59 : Int32)]) (rest := [.ref 139]) (c := mX12_isSign) (k1 := 0) dX12_readStep_135 rfl rfl rfl sh_137 rfl rfl (Nat.le_of_ble_eq_true rfl) (Nat.le_of_ble_eq_true rfl) (by omega) ?_
                  refine A_X12_isSign e554 ?_
                  show z_G none (k + 1) mX12_readStep 138 [some (.ref 139), some (.int a1), some (.int q41.1), some (.int (1 : Int32)), some (.int ((1605 : Int32) + ((9 : Int32) * (q545.2.1 137 25))))] [.int (z_tb q553.1), .ref 139] q553.2 Q
                  obtain ⟨q555, e556, h⟩ := z_bd h
                  refine g_callV (a := 137) (as := [.int (z_tb q553.1)]) (rest := []) (c := mX12_must) (k1 := 2) dX12_readStep_138 rfl rfl rfl sh_137 rfl rfl (Nat.le_of_ble_eq_true rfl) (Nat.le_of_ble_eq_true rfl) (by omega) ?_
                  refine A_X12_must e556 ?_
                  show z_G none (k + 1) mX12_readStep 141 [some (.ref 139), some (.int a1), some (.int q41.1), some (.int (1 : Int32)), some (.int ((1605 : Int32) + ((9 : Int32) * (q545.2.1 137 25))))] [] q555.2 Q
                  exact g_sub (z_sub_s (z_sub_s (z_sub_n (z_sub_s (z_sub_s z_sub_nil))))) ((AL_X12_readStep (w := w) hk0 hG w) _ _ _ _ _ _ _ h hq)
                · replace h := z_iff c547 h
                  cases h
                  exact g_vret dX12_readStep_89 rfl hq
        · replace h := z_ift c521 h
          refine g_aload_n dX12_readStep_37 rfl rfl ?_
          refine g_get (a := 137) (v := .int (q519.2.1 137 25)) dX12_readStep_38 f_12_322 sh_137 rfl rfl ?_
          refine g_bipush (v := (30 : Int32)) dX12_readStep_41 (by decide) ?_
          refine g_ic_ne (t := 56) dX12_readStep_43 (by decide) (fun c557 => ?_) (fun c557 => ?_)
          · replace h := z_iff c557 h
            refine g_aload_n dX12_readStep_56 rfl rfl ?_
            refine g_get (a := 137) (v := .int (q519.2.1 137 12)) dX12_readStep_57 f_12_212 sh_137 rfl rfl ?_
            refine g_if_ne (t := 82) dX12_readStep_60 (by decide) (fun c558 => ?_) (fun c558 => ?_)
            · replace h := z_iff c558 h
              refine g_aload_n dX12_readStep_82 rfl rfl ?_
              refine g_get (a := 137) (v := .int (q519.2.1 137 12)) dX12_readStep_83 f_12_212 sh_137 rfl rfl ?_
              refine g_if_le (t := 90) dX12_readStep_86 (by decide) (fun c559 => ?_) (fun c559 => ?_)
              · replace h := z_ift c559 h
                refine g_sipush (v := (1605 : Int32)) dX12_readStep_90 (by decide) ?_
                refine g_bipush (v := (9 : Int32)) dX12_readStep_93 (by decide) ?_
                refine g_aload_n dX12_readStep_95 rfl rfl ?_
                refine g_get (a := 137) (v := .int (q519.2.1 137 25)) dX12_readStep_96 f_12_322 sh_137 rfl rfl ?_
                refine g_imul dX12_readStep_99 ?_
                refine g_iadd dX12_readStep_100 ?_
                refine g_istore (ls' := [some (.ref 139), some (.int a1), some (.int q41.1), some (.int (1 : Int32)), some (.int ((1605 : Int32) + ((9 : Int32) * (q519.2.1 137 25))))]) dX12_readStep_101 (Nat.le_of_ble_eq_true rfl) rfl ?_
                refine g_aload_n dX12_readStep_103 rfl rfl ?_
                refine g_dup dX12_readStep_104 rfl ?_
                refine g_get (a := 137) (v := .int (q519.2.1 137 25)) dX12_readStep_105 f_12_322 sh_137 rfl rfl ?_
                refine g_iconst (v := (1 : Int32)) dX12_readStep_108 (by decide) ?_
                refine g_iadd dX12_readStep_109 ?_
                refine g_putI (a := 137) dX12_readStep_110 f_12_322 sh_137 rfl rfl rfl ?_
                refine g_aload_n dX12_readStep_113 rfl rfl ?_
                obtain ⟨q560, e561, h⟩ := z_bd h
                refine g_callV (a := 137) (as := []) (rest := []) (c := mX12_advance) (k1 := 1) dX12_readStep_114 rfl rfl rfl sh_137 rfl rfl (Nat.le_of_ble_eq_true rfl) (Nat.le_of_ble_eq_true rfl) (by omega) ?_
                refine A_X12_advance e561 ?_
                show z_G none (k + 1) mX12_readStep 117 [some (.ref 139), some (.int a1), some (.int q41.1), some (.int (1 : Int32)), some (.int ((1605 : Int32) + ((9 : Int32) * (q519.2.1 137 25))))] [] q560.2 Q
                refine g_aload_n dX12_readStep_117 rfl rfl ?_
                refine g_get (a := 137) (v := .ref 144) dX12_readStep_118 f_12_35 sh_137 rfl rfl ?_
                refine g_iload dX12_readStep_121 rfl ?_
                refine g_iload_n dX12_readStep_123 rfl rfl ?_
                by_cases g562 : ((1605 : Int32) + ((9 : Int32) * (q519.2.1 137 25))) < 0 ∨ 1875 ≤ ((1605 : Int32) + ((9 : Int32) * (q519.2.1 137 25))).toNatClampNeg
                · rw [if_pos g562] at h; cases h
                replace h := z_iff g562 h
                refine g_iast (a := 142) dX12_readStep_124 sh_142 g562 ?_
                refine g_aload_n dX12_readStep_125 rfl rfl ?_
                refine g_iload dX12_readStep_126 rfl ?_
                obtain ⟨q563, e564, h⟩ := z_bd h
                refine g_callV (a := 137) (as := [.int ((1605 : Int32) + ((9 : Int32) * (q519.2.1 137 25)))]) (rest := []) (c := mX12_readRest) (k1 := 5) dX12_readStep_128 rfl rfl rfl sh_137 rfl rfl (Nat.le_of_ble_eq_true rfl) (Nat.le_of_ble_eq_true rfl) (by omega) ?_
                refine A_X12_readRest e564 ?_
                show z_G none (k + 1) mX12_readStep 131 [some (.ref 139), some (.int a1), some (.int q41.1), some (.int (1 : Int32)), some (.int ((1605 : Int32) + ((9 : Int32) * (q519.2.1 137 25))))] [] q563.2 Q
                refine g_aload_n dX12_readStep_131 rfl rfl ?_
                refine g_aload_n dX12_readStep_132 rfl rfl ?_
                refine g_bipush (v := (59 : Int32)) dX12_readStep_133 (by decide) ?_
                obtain ⟨q565, e566, h⟩ := z_bd h
                refine g_callV (a := 137) (as := [.int (59 : Int32)]) (rest := [.ref 139]) (c := mX12_isSign) (k1 := 0) dX12_readStep_135 rfl rfl rfl sh_137 rfl rfl (Nat.le_of_ble_eq_true rfl) (Nat.le_of_ble_eq_true rfl) (by omega) ?_
                refine A_X12_isSign e566 ?_
                show z_G none (k + 1) mX12_readStep 138 [some (.ref 139), some (.int a1), some (.int q41.1), some (.int (1 : Int32)), some (.int ((1605 : Int32) + ((9 : Int32) * (q519.2.1 137 25))))] [.int (z_tb q565.1), .ref 139] q565.2 Q
                obtain ⟨q567, e568, h⟩ := z_bd h
                refine g_callV (a := 137) (as := [.int (z_tb q565.1)]) (rest := []) (c := mX12_must) (k1 := 2) dX12_readStep_138 rfl rfl rfl sh_137 rfl rfl (Nat.le_of_ble_eq_true rfl) (Nat.le_of_ble_eq_true rfl) (by omega) ?_
                refine A_X12_must e568 ?_
                show z_G none (k + 1) mX12_readStep 141 [some (.ref 139), some (.int a1), some (.int q41.1), some (.int (1 : Int32)), some (.int ((1605 : Int32) + ((9 : Int32) * (q519.2.1 137 25))))] [] q567.2 Q
                exact g_sub (z_sub_s (z_sub_s (z_sub_n (z_sub_s (z_sub_s z_sub_nil))))) ((AL_X12_readStep (w := w) hk0 hG w) _ _ _ _ _ _ _ h hq)
              · replace h := z_iff c559 h
                cases h
                exact g_vret dX12_readStep_89 rfl hq
            · replace h := z_ift c558 h
              refine g_iload_n dX12_readStep_63 rfl rfl ?_
              refine g_if_eq (t := 82) dX12_readStep_64 (by decide) (fun c569 => ?_) (fun c569 => ?_)
              · exact absurd c569 (by decide)
              · skip
                refine g_iload_n dX12_readStep_67 rfl rfl ?_
                refine g_iconst (v := (3 : Int32)) dX12_readStep_68 (by decide) ?_
                refine g_ic_ne (t := 82) dX12_readStep_69 (by decide) (fun c570 => ?_) (fun c570 => ?_)
                · replace h := z_iff c570 h
                  refine g_aload_n dX12_readStep_82 rfl rfl ?_
                  refine g_get (a := 137) (v := .int (q519.2.1 137 12)) dX12_readStep_83 f_12_212 sh_137 rfl rfl ?_
                  refine g_if_le (t := 90) dX12_readStep_86 (by decide) (fun c571 => ?_) (fun c571 => ?_)
                  · replace h := z_ift c571 h
                    refine g_sipush (v := (1605 : Int32)) dX12_readStep_90 (by decide) ?_
                    refine g_bipush (v := (9 : Int32)) dX12_readStep_93 (by decide) ?_
                    refine g_aload_n dX12_readStep_95 rfl rfl ?_
                    refine g_get (a := 137) (v := .int (q519.2.1 137 25)) dX12_readStep_96 f_12_322 sh_137 rfl rfl ?_
                    refine g_imul dX12_readStep_99 ?_
                    refine g_iadd dX12_readStep_100 ?_
                    refine g_istore (ls' := [some (.ref 139), some (.int a1), some (.int q41.1), some (.int (1 : Int32)), some (.int ((1605 : Int32) + ((9 : Int32) * (q519.2.1 137 25))))]) dX12_readStep_101 (Nat.le_of_ble_eq_true rfl) rfl ?_
                    refine g_aload_n dX12_readStep_103 rfl rfl ?_
                    refine g_dup dX12_readStep_104 rfl ?_
                    refine g_get (a := 137) (v := .int (q519.2.1 137 25)) dX12_readStep_105 f_12_322 sh_137 rfl rfl ?_
                    refine g_iconst (v := (1 : Int32)) dX12_readStep_108 (by decide) ?_
                    refine g_iadd dX12_readStep_109 ?_
                    refine g_putI (a := 137) dX12_readStep_110 f_12_322 sh_137 rfl rfl rfl ?_
                    refine g_aload_n dX12_readStep_113 rfl rfl ?_
                    obtain ⟨q572, e573, h⟩ := z_bd h
                    refine g_callV (a := 137) (as := []) (rest := []) (c := mX12_advance) (k1 := 1) dX12_readStep_114 rfl rfl rfl sh_137 rfl rfl (Nat.le_of_ble_eq_true rfl) (Nat.le_of_ble_eq_true rfl) (by omega) ?_
                    refine A_X12_advance e573 ?_
                    show z_G none (k + 1) mX12_readStep 117 [some (.ref 139), some (.int a1), some (.int q41.1), some (.int (1 : Int32)), some (.int ((1605 : Int32) + ((9 : Int32) * (q519.2.1 137 25))))] [] q572.2 Q
                    refine g_aload_n dX12_readStep_117 rfl rfl ?_
                    refine g_get (a := 137) (v := .ref 144) dX12_readStep_118 f_12_35 sh_137 rfl rfl ?_
                    refine g_iload dX12_readStep_121 rfl ?_
                    refine g_iload_n dX12_readStep_123 rfl rfl ?_
                    by_cases g574 : ((1605 : Int32) + ((9 : Int32) * (q519.2.1 137 25))) < 0 ∨ 1875 ≤ ((1605 : Int32) + ((9 : Int32) * (q519.2.1 137 25))).toNatClampNeg
                    · rw [if_pos g574] at h; cases h
                    replace h := z_iff g574 h
                    refine g_iast (a := 142) dX12_readStep_124 sh_142 g574 ?_
                    refine g_aload_n dX12_readStep_125 rfl rfl ?_
                    refine g_iload dX12_readStep_126 rfl ?_
                    obtain ⟨q575, e576, h⟩ := z_bd h
                    refine g_callV (a := 137) (as := [.int ((1605 : Int32) + ((9 : Int32) * (q519.2.1 137 25)))]) (rest := []) (c := mX12_readRest) (k1 := 5) dX12_readStep_128 rfl rfl rfl sh_137 rfl rfl (Nat.le_of_ble_eq_true rfl) (Nat.le_of_ble_eq_true rfl) (by omega) ?_
                    refine A_X12_readRest e576 ?_
                    show z_G none (k + 1) mX12_readStep 131 [some (.ref 139), some (.int a1), some (.int q41.1), some (.int (1 : Int32)), some (.int ((1605 : Int32) + ((9 : Int32) * (q519.2.1 137 25))))] [] q575.2 Q
                    refine g_aload_n dX12_readStep_131 rfl rfl ?_
                    refine g_aload_n dX12_readStep_132 rfl rfl ?_
                    refine g_bipush (v := (59 : Int32)) dX12_readStep_133 (by decide) ?_
                    obtain ⟨q577, e578, h⟩ := z_bd h
                    refine g_callV (a := 137) (as := [.int (59 : Int32)]) (rest := [.ref 139]) (c := mX12_isSign) (k1 := 0) dX12_readStep_135 rfl rfl rfl sh_137 rfl rfl (Nat.le_of_ble_eq_true rfl) (Nat.le_of_ble_eq_true rfl) (by omega) ?_
                    refine A_X12_isSign e578 ?_
                    show z_G none (k + 1) mX12_readStep 138 [some (.ref 139), some (.int a1), some (.int q41.1), some (.int (1 : Int32)), some (.int ((1605 : Int32) + ((9 : Int32) * (q519.2.1 137 25))))] [.int (z_tb q577.1), .ref 139] q577.2 Q
                    obtain ⟨q579, e580, h⟩ := z_bd h
                    refine g_callV (a := 137) (as := [.int (z_tb q577.1)]) (rest := []) (c := mX12_must) (k1 := 2) dX12_readStep_138 rfl rfl rfl sh_137 rfl rfl (Nat.le_of_ble_eq_true rfl) (Nat.le_of_ble_eq_true rfl) (by omega) ?_
                    refine A_X12_must e580 ?_
                    show z_G none (k + 1) mX12_readStep 141 [some (.ref 139), some (.int a1), some (.int q41.1), some (.int (1 : Int32)), some (.int ((1605 : Int32) + ((9 : Int32) * (q519.2.1 137 25))))] [] q579.2 Q
                    exact g_sub (z_sub_s (z_sub_s (z_sub_n (z_sub_s (z_sub_s z_sub_nil))))) ((AL_X12_readStep (w := w) hk0 hG w) _ _ _ _ _ _ _ h hq)
                  · replace h := z_iff c571 h
                    cases h
                    exact g_vret dX12_readStep_89 rfl hq
                · replace h := z_ift c570 h
                  refine g_aload_n dX12_readStep_72 rfl rfl ?_
                  refine g_bipush (v := (7 : Int32)) dX12_readStep_73 (by decide) ?_
                  refine g_aload_n dX12_readStep_75 rfl rfl ?_
                  refine g_get (a := 137) (v := .int (q519.2.1 137 15)) dX12_readStep_76 f_12_106 sh_137 rfl rfl ?_
                  obtain ⟨q581, e582, h⟩ := z_bd h
                  refine g_callV (a := 137) (as := [.int (7 : Int32), .int (q519.2.1 137 15)]) (rest := []) (c := mX12_fail) (k1 := 0) dX12_readStep_79 rfl rfl rfl sh_137 rfl rfl (Nat.le_of_ble_eq_true rfl) (Nat.le_of_ble_eq_true rfl) (by omega) ?_
                  refine A_X12_fail e582 ?_
                  show z_G none (k + 1) mX12_readStep 82 [some (.ref 139), some (.int a1), some (.int q41.1), some (.int (1 : Int32)), none] [] q581.2 Q
                  refine g_aload_n dX12_readStep_82 rfl rfl ?_
                  refine g_get (a := 137) (v := .int (q581.2.1 137 12)) dX12_readStep_83 f_12_212 sh_137 rfl rfl ?_
                  refine g_if_le (t := 90) dX12_readStep_86 (by decide) (fun c583 => ?_) (fun c583 => ?_)
                  · replace h := z_ift c583 h
                    refine g_sipush (v := (1605 : Int32)) dX12_readStep_90 (by decide) ?_
                    refine g_bipush (v := (9 : Int32)) dX12_readStep_93 (by decide) ?_
                    refine g_aload_n dX12_readStep_95 rfl rfl ?_
                    refine g_get (a := 137) (v := .int (q581.2.1 137 25)) dX12_readStep_96 f_12_322 sh_137 rfl rfl ?_
                    refine g_imul dX12_readStep_99 ?_
                    refine g_iadd dX12_readStep_100 ?_
                    refine g_istore (ls' := [some (.ref 139), some (.int a1), some (.int q41.1), some (.int (1 : Int32)), some (.int ((1605 : Int32) + ((9 : Int32) * (q581.2.1 137 25))))]) dX12_readStep_101 (Nat.le_of_ble_eq_true rfl) rfl ?_
                    refine g_aload_n dX12_readStep_103 rfl rfl ?_
                    refine g_dup dX12_readStep_104 rfl ?_
                    refine g_get (a := 137) (v := .int (q581.2.1 137 25)) dX12_readStep_105 f_12_322 sh_137 rfl rfl ?_
                    refine g_iconst (v := (1 : Int32)) dX12_readStep_108 (by decide) ?_
                    refine g_iadd dX12_readStep_109 ?_
                    refine g_putI (a := 137) dX12_readStep_110 f_12_322 sh_137 rfl rfl rfl ?_
                    refine g_aload_n dX12_readStep_113 rfl rfl ?_
                    obtain ⟨q584, e585, h⟩ := z_bd h
                    refine g_callV (a := 137) (as := []) (rest := []) (c := mX12_advance) (k1 := 1) dX12_readStep_114 rfl rfl rfl sh_137 rfl rfl (Nat.le_of_ble_eq_true rfl) (Nat.le_of_ble_eq_true rfl) (by omega) ?_
                    refine A_X12_advance e585 ?_
                    show z_G none (k + 1) mX12_readStep 117 [some (.ref 139), some (.int a1), some (.int q41.1), some (.int (1 : Int32)), some (.int ((1605 : Int32) + ((9 : Int32) * (q581.2.1 137 25))))] [] q584.2 Q
                    refine g_aload_n dX12_readStep_117 rfl rfl ?_
                    refine g_get (a := 137) (v := .ref 144) dX12_readStep_118 f_12_35 sh_137 rfl rfl ?_
                    refine g_iload dX12_readStep_121 rfl ?_
                    refine g_iload_n dX12_readStep_123 rfl rfl ?_
                    by_cases g586 : ((1605 : Int32) + ((9 : Int32) * (q581.2.1 137 25))) < 0 ∨ 1875 ≤ ((1605 : Int32) + ((9 : Int32) * (q581.2.1 137 25))).toNatClampNeg
                    · rw [if_pos g586] at h; cases h
                    replace h := z_iff g586 h
                    refine g_iast (a := 142) dX12_readStep_124 sh_142 g586 ?_
                    refine g_aload_n dX12_readStep_125 rfl rfl ?_
                    refine g_iload dX12_readStep_126 rfl ?_
                    obtain ⟨q587, e588, h⟩ := z_bd h
                    refine g_callV (a := 137) (as := [.int ((1605 : Int32) + ((9 : Int32) * (q581.2.1 137 25)))]) (rest := []) (c := mX12_readRest) (k1 := 5) dX12_readStep_128 rfl rfl rfl sh_137 rfl rfl (Nat.le_of_ble_eq_true rfl) (Nat.le_of_ble_eq_true rfl) (by omega) ?_
                    refine A_X12_readRest e588 ?_
                    show z_G none (k + 1) mX12_readStep 131 [some (.ref 139), some (.int a1), some (.int q41.1), some (.int (1 : Int32)), some (.int ((1605 : Int32) + ((9 : Int32) * (q581.2.1 137 25))))] [] q587.2 Q
                    refine g_aload_n dX12_readStep_131 rfl rfl ?_
                    refine g_aload_n dX12_readStep_132 rfl rfl ?_
                    refine g_bipush (v := (59 : Int32)) dX12_readStep_133 (by decide) ?_
                    obtain ⟨q589, e590, h⟩ := z_bd h
                    refine g_callV (a := 137) (as := [.int (59 : Int32)]) (rest := [.ref 139]) (c := mX12_isSign) (k1 := 0) dX12_readStep_135 rfl rfl rfl sh_137 rfl rfl (Nat.le_of_ble_eq_true rfl) (Nat.le_of_ble_eq_true rfl) (by omega) ?_
                    refine A_X12_isSign e590 ?_
                    show z_G none (k + 1) mX12_readStep 138 [some (.ref 139), some (.int a1), some (.int q41.1), some (.int (1 : Int32)), some (.int ((1605 : Int32) + ((9 : Int32) * (q581.2.1 137 25))))] [.int (z_tb q589.1), .ref 139] q589.2 Q
                    obtain ⟨q591, e592, h⟩ := z_bd h
                    refine g_callV (a := 137) (as := [.int (z_tb q589.1)]) (rest := []) (c := mX12_must) (k1 := 2) dX12_readStep_138 rfl rfl rfl sh_137 rfl rfl (Nat.le_of_ble_eq_true rfl) (Nat.le_of_ble_eq_true rfl) (by omega) ?_
                    refine A_X12_must e592 ?_
                    show z_G none (k + 1) mX12_readStep 141 [some (.ref 139), some (.int a1), some (.int q41.1), some (.int (1 : Int32)), some (.int ((1605 : Int32) + ((9 : Int32) * (q581.2.1 137 25))))] [] q591.2 Q
                    exact g_sub (z_sub_s (z_sub_s (z_sub_n (z_sub_s (z_sub_s z_sub_nil))))) ((AL_X12_readStep (w := w) hk0 hG w) _ _ _ _ _ _ _ h hq)
                  · replace h := z_iff c583 h
                    cases h
                    exact g_vret dX12_readStep_89 rfl hq
          · replace h := z_ift c557 h
            refine g_aload_n dX12_readStep_46 rfl rfl ?_
            refine g_bipush (v := (6 : Int32)) dX12_readStep_47 (by decide) ?_
            refine g_aload_n dX12_readStep_49 rfl rfl ?_
            refine g_get (a := 137) (v := .int (q519.2.1 137 15)) dX12_readStep_50 f_12_106 sh_137 rfl rfl ?_
            obtain ⟨q593, e594, h⟩ := z_bd h
            refine g_callV (a := 137) (as := [.int (6 : Int32), .int (q519.2.1 137 15)]) (rest := []) (c := mX12_fail) (k1 := 0) dX12_readStep_53 rfl rfl rfl sh_137 rfl rfl (Nat.le_of_ble_eq_true rfl) (Nat.le_of_ble_eq_true rfl) (by omega) ?_
            refine A_X12_fail e594 ?_
            show z_G none (k + 1) mX12_readStep 56 [some (.ref 139), some (.int a1), some (.int q41.1), some (.int (1 : Int32)), none] [] q593.2 Q
            refine g_aload_n dX12_readStep_56 rfl rfl ?_
            refine g_get (a := 137) (v := .int (q593.2.1 137 12)) dX12_readStep_57 f_12_212 sh_137 rfl rfl ?_
            refine g_if_ne (t := 82) dX12_readStep_60 (by decide) (fun c595 => ?_) (fun c595 => ?_)
            · replace h := z_iff c595 h
              refine g_aload_n dX12_readStep_82 rfl rfl ?_
              refine g_get (a := 137) (v := .int (q593.2.1 137 12)) dX12_readStep_83 f_12_212 sh_137 rfl rfl ?_
              refine g_if_le (t := 90) dX12_readStep_86 (by decide) (fun c596 => ?_) (fun c596 => ?_)
              · replace h := z_ift c596 h
                refine g_sipush (v := (1605 : Int32)) dX12_readStep_90 (by decide) ?_
                refine g_bipush (v := (9 : Int32)) dX12_readStep_93 (by decide) ?_
                refine g_aload_n dX12_readStep_95 rfl rfl ?_
                refine g_get (a := 137) (v := .int (q593.2.1 137 25)) dX12_readStep_96 f_12_322 sh_137 rfl rfl ?_
                refine g_imul dX12_readStep_99 ?_
                refine g_iadd dX12_readStep_100 ?_
                refine g_istore (ls' := [some (.ref 139), some (.int a1), some (.int q41.1), some (.int (1 : Int32)), some (.int ((1605 : Int32) + ((9 : Int32) * (q593.2.1 137 25))))]) dX12_readStep_101 (Nat.le_of_ble_eq_true rfl) rfl ?_
                refine g_aload_n dX12_readStep_103 rfl rfl ?_
                refine g_dup dX12_readStep_104 rfl ?_
                refine g_get (a := 137) (v := .int (q593.2.1 137 25)) dX12_readStep_105 f_12_322 sh_137 rfl rfl ?_
                refine g_iconst (v := (1 : Int32)) dX12_readStep_108 (by decide) ?_
                refine g_iadd dX12_readStep_109 ?_
                refine g_putI (a := 137) dX12_readStep_110 f_12_322 sh_137 rfl rfl rfl ?_
                refine g_aload_n dX12_readStep_113 rfl rfl ?_
                obtain ⟨q597, e598, h⟩ := z_bd h
                refine g_callV (a := 137) (as := []) (rest := []) (c := mX12_advance) (k1 := 1) dX12_readStep_114 rfl rfl rfl sh_137 rfl rfl (Nat.le_of_ble_eq_true rfl) (Nat.le_of_ble_eq_true rfl) (by omega) ?_
                refine A_X12_advance e598 ?_
                show z_G none (k + 1) mX12_readStep 117 [some (.ref 139), some (.int a1), some (.int q41.1), some (.int (1 : Int32)), some (.int ((1605 : Int32) + ((9 : Int32) * (q593.2.1 137 25))))] [] q597.2 Q
                refine g_aload_n dX12_readStep_117 rfl rfl ?_
                refine g_get (a := 137) (v := .ref 144) dX12_readStep_118 f_12_35 sh_137 rfl rfl ?_
                refine g_iload dX12_readStep_121 rfl ?_
                refine g_iload_n dX12_readStep_123 rfl rfl ?_
                by_cases g599 : ((1605 : Int32) + ((9 : Int32) * (q593.2.1 137 25))) < 0 ∨ 1875 ≤ ((1605 : Int32) + ((9 : Int32) * (q593.2.1 137 25))).toNatClampNeg
                · rw [if_pos g599] at h; cases h
                replace h := z_iff g599 h
                refine g_iast (a := 142) dX12_readStep_124 sh_142 g599 ?_
                refine g_aload_n dX12_readStep_125 rfl rfl ?_
                refine g_iload dX12_readStep_126 rfl ?_
                obtain ⟨q600, e601, h⟩ := z_bd h
                refine g_callV (a := 137) (as := [.int ((1605 : Int32) + ((9 : Int32) * (q593.2.1 137 25)))]) (rest := []) (c := mX12_readRest) (k1 := 5) dX12_readStep_128 rfl rfl rfl sh_137 rfl rfl (Nat.le_of_ble_eq_true rfl) (Nat.le_of_ble_eq_true rfl) (by omega) ?_
                refine A_X12_readRest e601 ?_
                show z_G none (k + 1) mX12_readStep 131 [some (.ref 139), some (.int a1), some (.int q41.1), some (.int (1 : Int32)), some (.int ((1605 : Int32) + ((9 : Int32) * (q593.2.1 137 25))))] [] q600.2 Q
                refine g_aload_n dX12_readStep_131 rfl rfl ?_
                refine g_aload_n dX12_readStep_132 rfl rfl ?_
                refine g_bipush (v := (59 : Int32)) dX12_readStep_133 (by decide) ?_
                obtain ⟨q602, e603, h⟩ := z_bd h
                refine g_callV (a := 137) (as := [.int (59 : Int32)]) (rest := [.ref 139]) (c := mX12_isSign) (k1 := 0) dX12_readStep_135 rfl rfl rfl sh_137 rfl rfl (Nat.le_of_ble_eq_true rfl) (Nat.le_of_ble_eq_true rfl) (by omega) ?_
                refine A_X12_isSign e603 ?_
                show z_G none (k + 1) mX12_readStep 138 [some (.ref 139), some (.int a1), some (.int q41.1), some (.int (1 : Int32)), some (.int ((1605 : Int32) + ((9 : Int32) * (q593.2.1 137 25))))] [.int (z_tb q602.1), .ref 139] q602.2 Q
                obtain ⟨q604, e605, h⟩ := z_bd h
                refine g_callV (a := 137) (as := [.int (z_tb q602.1)]) (rest := []) (c := mX12_must) (k1 := 2) dX12_readStep_138 rfl rfl rfl sh_137 rfl rfl (Nat.le_of_ble_eq_true rfl) (Nat.le_of_ble_eq_true rfl) (by omega) ?_
                refine A_X12_must e605 ?_
                show z_G none (k + 1) mX12_readStep 141 [some (.ref 139), some (.int a1), some (.int q41.1), some (.int (1 : Int32)), some (.int ((1605 : Int32) + ((9 : Int32) * (q593.2.1 137 25))))] [] q604.2 Q
                exact g_sub (z_sub_s (z_sub_s (z_sub_n (z_sub_s (z_sub_s z_sub_nil))))) ((AL_X12_readStep (w := w) hk0 hG w) _ _ _ _ _ _ _ h hq)
              · replace h := z_iff c596 h
                cases h
                exact g_vret dX12_readStep_89 rfl hq
            · replace h := z_ift c595 h
              refine g_iload_n dX12_readStep_63 rfl rfl ?_
              refine g_if_eq (t := 82) dX12_readStep_64 (by decide) (fun c606 => ?_) (fun c606 => ?_)
              · exact absurd c606 (by decide)
              · skip
                refine g_iload_n dX12_readStep_67 rfl rfl ?_
                refine g_iconst (v := (3 : Int32)) dX12_readStep_68 (by decide) ?_
                refine g_ic_ne (t := 82) dX12_readStep_69 (by decide) (fun c607 => ?_) (fun c607 => ?_)
                · replace h := z_iff c607 h
                  refine g_aload_n dX12_readStep_82 rfl rfl ?_
                  refine g_get (a := 137) (v := .int (q593.2.1 137 12)) dX12_readStep_83 f_12_212 sh_137 rfl rfl ?_
                  refine g_if_le (t := 90) dX12_readStep_86 (by decide) (fun c608 => ?_) (fun c608 => ?_)
                  · replace h := z_ift c608 h
                    refine g_sipush (v := (1605 : Int32)) dX12_readStep_90 (by decide) ?_
                    refine g_bipush (v := (9 : Int32)) dX12_readStep_93 (by decide) ?_
                    refine g_aload_n dX12_readStep_95 rfl rfl ?_
                    refine g_get (a := 137) (v := .int (q593.2.1 137 25)) dX12_readStep_96 f_12_322 sh_137 rfl rfl ?_
                    refine g_imul dX12_readStep_99 ?_
                    refine g_iadd dX12_readStep_100 ?_
                    refine g_istore (ls' := [some (.ref 139), some (.int a1), some (.int q41.1), some (.int (1 : Int32)), some (.int ((1605 : Int32) + ((9 : Int32) * (q593.2.1 137 25))))]) dX12_readStep_101 (Nat.le_of_ble_eq_true rfl) rfl ?_
                    refine g_aload_n dX12_readStep_103 rfl rfl ?_
                    refine g_dup dX12_readStep_104 rfl ?_
                    refine g_get (a := 137) (v := .int (q593.2.1 137 25)) dX12_readStep_105 f_12_322 sh_137 rfl rfl ?_
                    refine g_iconst (v := (1 : Int32)) dX12_readStep_108 (by decide) ?_
                    refine g_iadd dX12_readStep_109 ?_
                    refine g_putI (a := 137) dX12_readStep_110 f_12_322 sh_137 rfl rfl rfl ?_
                    refine g_aload_n dX12_readStep_113 rfl rfl ?_
                    obtain ⟨q609, e610, h⟩ := z_bd h
                    refine g_callV (a := 137) (as := []) (rest := []) (c := mX12_advance) (k1 := 1) dX12_readStep_114 rfl rfl rfl sh_137 rfl rfl (Nat.le_of_ble_eq_true rfl) (Nat.le_of_ble_eq_true rfl) (by omega) ?_
                    refine A_X12_advance e610 ?_
                    show z_G none (k + 1) mX12_readStep 117 [some (.ref 139), some (.int a1), some (.int q41.1), some (.int (1 : Int32)), some (.int ((1605 : Int32) + ((9 : Int32) * (q593.2.1 137 25))))] [] q609.2 Q
                    refine g_aload_n dX12_readStep_117 rfl rfl ?_
                    refine g_get (a := 137) (v := .ref 144) dX12_readStep_118 f_12_35 sh_137 rfl rfl ?_
                    refine g_iload dX12_readStep_121 rfl ?_
                    refine g_iload_n dX12_readStep_123 rfl rfl ?_
                    by_cases g611 : ((1605 : Int32) + ((9 : Int32) * (q593.2.1 137 25))) < 0 ∨ 1875 ≤ ((1605 : Int32) + ((9 : Int32) * (q593.2.1 137 25))).toNatClampNeg
                    · rw [if_pos g611] at h; cases h
                    replace h := z_iff g611 h
                    refine g_iast (a := 142) dX12_readStep_124 sh_142 g611 ?_
                    refine g_aload_n dX12_readStep_125 rfl rfl ?_
                    refine g_iload dX12_readStep_126 rfl ?_
                    obtain ⟨q612, e613, h⟩ := z_bd h
                    refine g_callV (a := 137) (as := [.int ((1605 : Int32) + ((9 : Int32) * (q593.2.1 137 25)))]) (rest := []) (c := mX12_readRest) (k1 := 5) dX12_readStep_128 rfl rfl rfl sh_137 rfl rfl (Nat.le_of_ble_eq_true rfl) (Nat.le_of_ble_eq_true rfl) (by omega) ?_
                    refine A_X12_readRest e613 ?_
                    show z_G none (k + 1) mX12_readStep 131 [some (.ref 139), some (.int a1), some (.int q41.1), some (.int (1 : Int32)), some (.int ((1605 : Int32) + ((9 : Int32) * (q593.2.1 137 25))))] [] q612.2 Q
                    refine g_aload_n dX12_readStep_131 rfl rfl ?_
                    refine g_aload_n dX12_readStep_132 rfl rfl ?_
                    refine g_bipush (v := (59 : Int32)) dX12_readStep_133 (by decide) ?_
                    obtain ⟨q614, e615, h⟩ := z_bd h
                    refine g_callV (a := 137) (as := [.int (59 : Int32)]) (rest := [.ref 139]) (c := mX12_isSign) (k1 := 0) dX12_readStep_135 rfl rfl rfl sh_137 rfl rfl (Nat.le_of_ble_eq_true rfl) (Nat.le_of_ble_eq_true rfl) (by omega) ?_
                    refine A_X12_isSign e615 ?_
                    show z_G none (k + 1) mX12_readStep 138 [some (.ref 139), some (.int a1), some (.int q41.1), some (.int (1 : Int32)), some (.int ((1605 : Int32) + ((9 : Int32) * (q593.2.1 137 25))))] [.int (z_tb q614.1), .ref 139] q614.2 Q
                    obtain ⟨q616, e617, h⟩ := z_bd h
                    refine g_callV (a := 137) (as := [.int (z_tb q614.1)]) (rest := []) (c := mX12_must) (k1 := 2) dX12_readStep_138 rfl rfl rfl sh_137 rfl rfl (Nat.le_of_ble_eq_true rfl) (Nat.le_of_ble_eq_true rfl) (by omega) ?_
                    refine A_X12_must e617 ?_
                    show z_G none (k + 1) mX12_readStep 141 [some (.ref 139), some (.int a1), some (.int q41.1), some (.int (1 : Int32)), some (.int ((1605 : Int32) + ((9 : Int32) * (q593.2.1 137 25))))] [] q616.2 Q
                    exact g_sub (z_sub_s (z_sub_s (z_sub_n (z_sub_s (z_sub_s z_sub_nil))))) ((AL_X12_readStep (w := w) hk0 hG w) _ _ _ _ _ _ _ h hq)
                  · replace h := z_iff c608 h
                    cases h
                    exact g_vret dX12_readStep_89 rfl hq
                · replace h := z_ift c607 h
                  refine g_aload_n dX12_readStep_72 rfl rfl ?_
                  refine g_bipush (v := (7 : Int32)) dX12_readStep_73 (by decide) ?_
                  refine g_aload_n dX12_readStep_75 rfl rfl ?_
                  refine g_get (a := 137) (v := .int (q593.2.1 137 15)) dX12_readStep_76 f_12_106 sh_137 rfl rfl ?_
                  obtain ⟨q618, e619, h⟩ := z_bd h
                  refine g_callV (a := 137) (as := [.int (7 : Int32), .int (q593.2.1 137 15)]) (rest := []) (c := mX12_fail) (k1 := 0) dX12_readStep_79 rfl rfl rfl sh_137 rfl rfl (Nat.le_of_ble_eq_true rfl) (Nat.le_of_ble_eq_true rfl) (by omega) ?_
                  refine A_X12_fail e619 ?_
                  show z_G none (k + 1) mX12_readStep 82 [some (.ref 139), some (.int a1), some (.int q41.1), some (.int (1 : Int32)), none] [] q618.2 Q
                  refine g_aload_n dX12_readStep_82 rfl rfl ?_
                  refine g_get (a := 137) (v := .int (q618.2.1 137 12)) dX12_readStep_83 f_12_212 sh_137 rfl rfl ?_
                  refine g_if_le (t := 90) dX12_readStep_86 (by decide) (fun c620 => ?_) (fun c620 => ?_)
                  · replace h := z_ift c620 h
                    refine g_sipush (v := (1605 : Int32)) dX12_readStep_90 (by decide) ?_
                    refine g_bipush (v := (9 : Int32)) dX12_readStep_93 (by decide) ?_
                    refine g_aload_n dX12_readStep_95 rfl rfl ?_
                    refine g_get (a := 137) (v := .int (q618.2.1 137 25)) dX12_readStep_96 f_12_322 sh_137 rfl rfl ?_
                    refine g_imul dX12_readStep_99 ?_
                    refine g_iadd dX12_readStep_100 ?_
                    refine g_istore (ls' := [some (.ref 139), some (.int a1), some (.int q41.1), some (.int (1 : Int32)), some (.int ((1605 : Int32) + ((9 : Int32) * (q618.2.1 137 25))))]) dX12_readStep_101 (Nat.le_of_ble_eq_true rfl) rfl ?_
                    refine g_aload_n dX12_readStep_103 rfl rfl ?_
                    refine g_dup dX12_readStep_104 rfl ?_
                    refine g_get (a := 137) (v := .int (q618.2.1 137 25)) dX12_readStep_105 f_12_322 sh_137 rfl rfl ?_
                    refine g_iconst (v := (1 : Int32)) dX12_readStep_108 (by decide) ?_
                    refine g_iadd dX12_readStep_109 ?_
                    refine g_putI (a := 137) dX12_readStep_110 f_12_322 sh_137 rfl rfl rfl ?_
                    refine g_aload_n dX12_readStep_113 rfl rfl ?_
                    obtain ⟨q621, e622, h⟩ := z_bd h
                    refine g_callV (a := 137) (as := []) (rest := []) (c := mX12_advance) (k1 := 1) dX12_readStep_114 rfl rfl rfl sh_137 rfl rfl (Nat.le_of_ble_eq_true rfl) (Nat.le_of_ble_eq_true rfl) (by omega) ?_
                    refine A_X12_advance e622 ?_
                    show z_G none (k + 1) mX12_readStep 117 [some (.ref 139), some (.int a1), some (.int q41.1), some (.int (1 : Int32)), some (.int ((1605 : Int32) + ((9 : Int32) * (q618.2.1 137 25))))] [] q621.2 Q
                    refine g_aload_n dX12_readStep_117 rfl rfl ?_
                    refine g_get (a := 137) (v := .ref 144) dX12_readStep_118 f_12_35 sh_137 rfl rfl ?_
                    refine g_iload dX12_readStep_121 rfl ?_
                    refine g_iload_n dX12_readStep_123 rfl rfl ?_
                    by_cases g623 : ((1605 : Int32) + ((9 : Int32) * (q618.2.1 137 25))) < 0 ∨ 1875 ≤ ((1605 : Int32) + ((9 : Int32) * (q618.2.1 137 25))).toNatClampNeg
                    · rw [if_pos g623] at h; cases h
                    replace h := z_iff g623 h
                    refine g_iast (a := 142) dX12_readStep_124 sh_142 g623 ?_
                    refine g_aload_n dX12_readStep_125 rfl rfl ?_
                    refine g_iload dX12_readStep_126 rfl ?_
                    obtain ⟨q624, e625, h⟩ := z_bd h
                    refine g_callV (a := 137) (as := [.int ((1605 : Int32) + ((9 : Int32) * (q618.2.1 137 25)))]) (rest := []) (c := mX12_readRest) (k1 := 5) dX12_readStep_128 rfl rfl rfl sh_137 rfl rfl (Nat.le_of_ble_eq_true rfl) (Nat.le_of_ble_eq_true rfl) (by omega) ?_
                    refine A_X12_readRest e625 ?_
                    show z_G none (k + 1) mX12_readStep 131 [some (.ref 139), some (.int a1), some (.int q41.1), some (.int (1 : Int32)), some (.int ((1605 : Int32) + ((9 : Int32) * (q618.2.1 137 25))))] [] q624.2 Q
                    refine g_aload_n dX12_readStep_131 rfl rfl ?_
                    refine g_aload_n dX12_readStep_132 rfl rfl ?_
                    refine g_bipush (v := (59 : Int32)) dX12_readStep_133 (by decide) ?_
                    obtain ⟨q626, e627, h⟩ := z_bd h
                    refine g_callV (a := 137) (as := [.int (59 : Int32)]) (rest := [.ref 139]) (c := mX12_isSign) (k1 := 0) dX12_readStep_135 rfl rfl rfl sh_137 rfl rfl (Nat.le_of_ble_eq_true rfl) (Nat.le_of_ble_eq_true rfl) (by omega) ?_
                    refine A_X12_isSign e627 ?_
                    show z_G none (k + 1) mX12_readStep 138 [some (.ref 139), some (.int a1), some (.int q41.1), some (.int (1 : Int32)), some (.int ((1605 : Int32) + ((9 : Int32) * (q618.2.1 137 25))))] [.int (z_tb q626.1), .ref 139] q626.2 Q
                    obtain ⟨q628, e629, h⟩ := z_bd h
                    refine g_callV (a := 137) (as := [.int (z_tb q626.1)]) (rest := []) (c := mX12_must) (k1 := 2) dX12_readStep_138 rfl rfl rfl sh_137 rfl rfl (Nat.le_of_ble_eq_true rfl) (Nat.le_of_ble_eq_true rfl) (by omega) ?_
                    refine A_X12_must e629 ?_
                    show z_G none (k + 1) mX12_readStep 141 [some (.ref 139), some (.int a1), some (.int q41.1), some (.int (1 : Int32)), some (.int ((1605 : Int32) + ((9 : Int32) * (q618.2.1 137 25))))] [] q628.2 Q
                    exact g_sub (z_sub_s (z_sub_s (z_sub_n (z_sub_s (z_sub_s z_sub_nil))))) ((AL_X12_readStep (w := w) hk0 hG w) _ _ _ _ _ _ _ h hq)
                  · replace h := z_iff c620 h
                    cases h
                    exact g_vret dX12_readStep_89 rfl hq
def F_X12_readStep (w : Nat) : Nat → z_Mem → Int32 → Option (Unit × z_Mem)
  | 0, _, _ => none
  | n + 1, M, a1 => Fb_X12_readStep w (F_X12_readStep w n) M a1
theorem A_X12_readStep {w : Nat} : ∀ (n : Nat) (M : z_Mem) (a1 : Int32) (r : Unit) (M' : z_Mem) (Q : Option Value → z_Mem → Prop), F_X12_readStep w n M a1 = some (r, M') → Q none M' → z_Cl (n + 5) mX12_readStep [.ref 139, .int a1] M Q := by
  intro n
  induction n with
  | zero => intro M a1 r M' Q h; rw [F_X12_readStep] at h; cases h
  | succ n ih =>
    intro M a1 r M' Q h hq
    rw [F_X12_readStep] at h
    rw [show n + 1 + 5 = (n + 5) + 1 by omega]
    exact Ab_X12_readStep (G := F_X12_readStep w n) (k := n + 5) (by omega) ih h hq
theorem dX12_doOne_0 : decode cX12_doOne 0 = .ok (.aload_n 0, 1) := by decide +kernel
theorem dX12_doOne_1 : decode cX12_doOne 1 = .ok (.getfield 489, 3) := by decide +kernel
theorem dX12_doOne_4 : decode cX12_doOne 4 = .ok (.sipush 300, 3) := by decide +kernel
theorem dX12_doOne_7 : decode cX12_doOne 7 = .ok (.if_icmp .ne 14, 3) := by decide +kernel
theorem dX12_doOne_10 : decode cX12_doOne 10 = .ok (.aload_n 0, 1) := by decide +kernel
theorem dX12_doOne_11 : decode cX12_doOne 11 = .ok (.iconst 1, 1) := by decide +kernel
theorem dX12_doOne_12 : decode cX12_doOne 12 = .ok (.putfield 492, 3) := by decide +kernel
theorem dX12_doOne_15 : decode cX12_doOne 15 = .ok (.aload_n 0, 1) := by decide +kernel
theorem dX12_doOne_16 : decode cX12_doOne 16 = .ok (.iconst 1, 1) := by decide +kernel
theorem dX12_doOne_17 : decode cX12_doOne 17 = .ok (.putfield 496, 3) := by decide +kernel
theorem dX12_doOne_20 : decode cX12_doOne 20 = .ok (.return_, 1) := by decide +kernel
theorem dX12_doOne_21 : decode cX12_doOne 21 = .ok (.aload_n 0, 1) := by decide +kernel
theorem dX12_doOne_22 : decode cX12_doOne 22 = .ok (.dup, 1) := by decide +kernel
theorem dX12_doOne_23 : decode cX12_doOne 23 = .ok (.getfield 489, 3) := by decide +kernel
theorem dX12_doOne_26 : decode cX12_doOne 26 = .ok (.iconst 1, 1) := by decide +kernel
theorem dX12_doOne_27 : decode cX12_doOne 27 = .ok (.iadd, 1) := by decide +kernel
theorem dX12_doOne_28 : decode cX12_doOne 28 = .ok (.putfield 489, 3) := by decide +kernel
theorem dX12_doOne_31 : decode cX12_doOne 31 = .ok (.bipush 105, 2) := by decide +kernel
theorem dX12_doOne_33 : decode cX12_doOne 33 = .ok (.bipush 9, 2) := by decide +kernel
theorem dX12_doOne_35 : decode cX12_doOne 35 = .ok (.iload_n 1, 1) := by decide +kernel
theorem dX12_doOne_36 : decode cX12_doOne 36 = .ok (.imul, 1) := by decide +kernel
theorem dX12_doOne_37 : decode cX12_doOne 37 = .ok (.iadd, 1) := by decide +kernel
theorem dX12_doOne_38 : decode cX12_doOne 38 = .ok (.istore_n 2, 1) := by decide +kernel
theorem dX12_doOne_39 : decode cX12_doOne 39 = .ok (.aload_n 0, 1) := by decide +kernel
theorem dX12_doOne_40 : decode cX12_doOne 40 = .ok (.getfield 35, 3) := by decide +kernel
theorem dX12_doOne_43 : decode cX12_doOne 43 = .ok (.iload_n 2, 1) := by decide +kernel
theorem dX12_doOne_44 : decode cX12_doOne 44 = .ok (.iaload, 1) := by decide +kernel
theorem dX12_doOne_45 : decode cX12_doOne 45 = .ok (.istore_n 3, 1) := by decide +kernel
theorem dX12_doOne_46 : decode cX12_doOne 46 = .ok (.iload_n 3, 1) := by decide +kernel
theorem dX12_doOne_47 : decode cX12_doOne 47 = .ok (.iconst 5, 1) := by decide +kernel
theorem dX12_doOne_48 : decode cX12_doOne 48 = .ok (.if_icmp .ge 28, 3) := by decide +kernel
theorem dX12_doOne_51 : decode cX12_doOne 51 = .ok (.aload_n 0, 1) := by decide +kernel
theorem dX12_doOne_52 : decode cX12_doOne 52 = .ok (.dup, 1) := by decide +kernel
theorem dX12_doOne_53 : decode cX12_doOne 53 = .ok (.getfield 499, 3) := by decide +kernel
theorem dX12_doOne_56 : decode cX12_doOne 56 = .ok (.aload_n 0, 1) := by decide +kernel
theorem dX12_doOne_57 : decode cX12_doOne 57 = .ok (.iload_n 2, 1) := by decide +kernel
theorem dX12_doOne_58 : decode cX12_doOne 58 = .ok (.invokevirtual 502, 3) := by decide +kernel
theorem dX12_doOne_61 : decode cX12_doOne 61 = .ok (.ifCond .eq 7, 3) := by decide +kernel
theorem dX12_doOne_64 : decode cX12_doOne 64 = .ok (.iconst 0, 1) := by decide +kernel
theorem dX12_doOne_65 : decode cX12_doOne 65 = .ok (.goto 4, 3) := by decide +kernel
theorem dX12_doOne_68 : decode cX12_doOne 68 = .ok (.iconst 1, 1) := by decide +kernel
theorem dX12_doOne_69 : decode cX12_doOne 69 = .ok (.iadd, 1) := by decide +kernel
theorem dX12_doOne_70 : decode cX12_doOne 70 = .ok (.putfield 499, 3) := by decide +kernel
theorem dX12_doOne_73 : decode cX12_doOne 73 = .ok (.goto 100, 3) := by decide +kernel
theorem dX12_doOne_76 : decode cX12_doOne 76 = .ok (.iload_n 3, 1) := by decide +kernel
theorem dX12_doOne_77 : decode cX12_doOne 77 = .ok (.iconst 5, 1) := by decide +kernel
theorem dX12_doOne_78 : decode cX12_doOne 78 = .ok (.if_icmp .ne 30, 3) := by decide +kernel
theorem dX12_doOne_81 : decode cX12_doOne 81 = .ok (.aload_n 0, 1) := by decide +kernel
theorem dX12_doOne_82 : decode cX12_doOne 82 = .ok (.iload_n 2, 1) := by decide +kernel
theorem dX12_doOne_83 : decode cX12_doOne 83 = .ok (.invokevirtual 505, 3) := by decide +kernel
theorem dX12_doOne_86 : decode cX12_doOne 86 = .ok (.ifCond .eq 22, 3) := by decide +kernel
theorem dX12_doOne_89 : decode cX12_doOne 89 = .ok (.aload_n 0, 1) := by decide +kernel
theorem dX12_doOne_90 : decode cX12_doOne 90 = .ok (.iload_n 1, 1) := by decide +kernel
theorem dX12_doOne_91 : decode cX12_doOne 91 = .ok (.iconst 1, 1) := by decide +kernel
theorem dX12_doOne_92 : decode cX12_doOne 92 = .ok (.iadd, 1) := by decide +kernel
theorem dX12_doOne_93 : decode cX12_doOne 93 = .ok (.aload_n 0, 1) := by decide +kernel
theorem dX12_doOne_94 : decode cX12_doOne 94 = .ok (.getfield 35, 3) := by decide +kernel
theorem dX12_doOne_97 : decode cX12_doOne 97 = .ok (.iload_n 2, 1) := by decide +kernel
theorem dX12_doOne_98 : decode cX12_doOne 98 = .ok (.bipush 8, 2) := by decide +kernel
theorem dX12_doOne_100 : decode cX12_doOne 100 = .ok (.iadd, 1) := by decide +kernel
theorem dX12_doOne_101 : decode cX12_doOne 101 = .ok (.iaload, 1) := by decide +kernel
theorem dX12_doOne_102 : decode cX12_doOne 102 = .ok (.invokevirtual 508, 3) := by decide +kernel
theorem dX12_doOne_105 : decode cX12_doOne 105 = .ok (.goto 68, 3) := by decide +kernel
theorem dX12_doOne_108 : decode cX12_doOne 108 = .ok (.iload_n 3, 1) := by decide +kernel
theorem dX12_doOne_109 : decode cX12_doOne 109 = .ok (.bipush 6, 2) := by decide +kernel
theorem dX12_doOne_111 : decode cX12_doOne 111 = .ok (.if_icmp .ne 51, 3) := by decide +kernel
theorem dX12_doOne_114 : decode cX12_doOne 114 = .ok (.iconst 0, 1) := by decide +kernel
theorem dX12_doOne_115 : decode cX12_doOne 115 = .ok (.istore 4, 2) := by decide +kernel
theorem dX12_doOne_117 : decode cX12_doOne 117 = .ok (.iload 4, 2) := by decide +kernel
theorem dX12_doOne_119 : decode cX12_doOne 119 = .ok (.aload_n 0, 1) := by decide +kernel
theorem dX12_doOne_120 : decode cX12_doOne 120 = .ok (.getfield 35, 3) := by decide +kernel
theorem dX12_doOne_123 : decode cX12_doOne 123 = .ok (.iload_n 2, 1) := by decide +kernel
theorem dX12_doOne_124 : decode cX12_doOne 124 = .ok (.iconst 1, 1) := by decide +kernel
theorem dX12_doOne_125 : decode cX12_doOne 125 = .ok (.iadd, 1) := by decide +kernel
theorem dX12_doOne_126 : decode cX12_doOne 126 = .ok (.iaload, 1) := by decide +kernel
theorem dX12_doOne_127 : decode cX12_doOne 127 = .ok (.if_icmp .ge 32, 3) := by decide +kernel
theorem dX12_doOne_130 : decode cX12_doOne 130 = .ok (.aload_n 0, 1) := by decide +kernel
theorem dX12_doOne_131 : decode cX12_doOne 131 = .ok (.getfield 492, 3) := by decide +kernel
theorem dX12_doOne_134 : decode cX12_doOne 134 = .ok (.ifCond .ne 25, 3) := by decide +kernel
theorem dX12_doOne_137 : decode cX12_doOne 137 = .ok (.aload_n 0, 1) := by decide +kernel
theorem dX12_doOne_138 : decode cX12_doOne 138 = .ok (.iload_n 1, 1) := by decide +kernel
theorem dX12_doOne_139 : decode cX12_doOne 139 = .ok (.iconst 1, 1) := by decide +kernel
theorem dX12_doOne_140 : decode cX12_doOne 140 = .ok (.iadd, 1) := by decide +kernel
theorem dX12_doOne_141 : decode cX12_doOne 141 = .ok (.aload_n 0, 1) := by decide +kernel
theorem dX12_doOne_142 : decode cX12_doOne 142 = .ok (.getfield 35, 3) := by decide +kernel
theorem dX12_doOne_145 : decode cX12_doOne 145 = .ok (.iload_n 2, 1) := by decide +kernel
theorem dX12_doOne_146 : decode cX12_doOne 146 = .ok (.bipush 8, 2) := by decide +kernel
theorem dX12_doOne_148 : decode cX12_doOne 148 = .ok (.iadd, 1) := by decide +kernel
theorem dX12_doOne_149 : decode cX12_doOne 149 = .ok (.iaload, 1) := by decide +kernel
theorem dX12_doOne_150 : decode cX12_doOne 150 = .ok (.invokevirtual 508, 3) := by decide +kernel
theorem dX12_doOne_153 : decode cX12_doOne 153 = .ok (.iinc 4 1, 3) := by decide +kernel
theorem dX12_doOne_156 : decode cX12_doOne 156 = .ok (.goto (-39), 3) := by decide +kernel
theorem dX12_doOne_159 : decode cX12_doOne 159 = .ok (.goto 14, 3) := by decide +kernel
theorem dX12_doOne_162 : decode cX12_doOne 162 = .ok (.iload_n 3, 1) := by decide +kernel
theorem dX12_doOne_163 : decode cX12_doOne 163 = .ok (.bipush 6, 2) := by decide +kernel
theorem dX12_doOne_165 : decode cX12_doOne 165 = .ok (.if_icmp .le 8, 3) := by decide +kernel
theorem dX12_doOne_168 : decode cX12_doOne 168 = .ok (.aload_n 0, 1) := by decide +kernel
theorem dX12_doOne_169 : decode cX12_doOne 169 = .ok (.iconst 1, 1) := by decide +kernel
theorem dX12_doOne_170 : decode cX12_doOne 170 = .ok (.putfield 492, 3) := by decide +kernel
theorem dX12_doOne_173 : decode cX12_doOne 173 = .ok (.return_, 1) := by decide +kernel
def L_X12_doOne (w : Nat) (G : z_Mem → Int32 → Int32 → Option (Unit × z_Mem)) : Nat → z_Mem → Int32 → Int32 → Int32 → Option (Unit × z_Mem)
  | 0, _, _, _, _ => none
  | c + 1, M, x1, x2, x4 =>
    if (x2 + (1 : Int32)) < 0 ∨ 1875 ≤ (x2 + (1 : Int32)).toNatClampNeg then none else
    if (M.1 142 (x2 + (1 : Int32)).toNatClampNeg) ≤ x4 then
    some ((), M)
    else
    if (z_bb (M.1 137 31)) = true then
    some ((), M)
    else
    if (x2 + (8 : Int32)) < 0 ∨ 1875 ≤ (x2 + (8 : Int32)).toNatClampNeg then none else
    (G M (x1 + (1 : Int32)) (M.1 142 (x2 + (8 : Int32)).toNatClampNeg)).bind fun q5 =>
    L_X12_doOne w G c q5.2 x1 x2 (x4 + (1 : Int32))
set_option maxHeartbeats 4000000 in
theorem AL_X12_doOne {w : Nat} {G : z_Mem → Int32 → Int32 → Option (Unit × z_Mem)} {k : Nat} (hk0 : 6 ≤ k) (hG : ∀ (M : z_Mem) (a1 : Int32) (a2 : Int32) (r : Unit) (M' : z_Mem) (Q : Option Value → z_Mem → Prop), G M a1 a2 = some (r, M') → Q none M' → z_Cl k mX12_doAll [.ref 139, .int a1, .int a2] M Q) : ∀ (c : Nat), (∀ (M : z_Mem) (x1 : Int32) (x2 : Int32) (x4 : Int32) (r : Unit) (M' : z_Mem) (Q : Option Value → z_Mem → Prop), L_X12_doOne w G c M x1 x2 x4 = some (r, M') → Q none M' → z_G none (k + 1) mX12_doOne 117 [some (.ref 139), some (.int x1), some (.int x2), none, some (.int x4)] [] M Q) := by
  intro c
  induction c with
  | zero => exact (fun M x1 x2 x4 r M' Q h hq => by rw [L_X12_doOne] at h; cases h)
  | succ c ih =>
    intro M x1 x2 x4 r M' Q h hq
    rw [L_X12_doOne] at h
    refine g_iload dX12_doOne_117 rfl ?_
    refine g_aload_n dX12_doOne_119 rfl rfl ?_
    refine g_get (a := 137) (v := .ref 144) dX12_doOne_120 f_12_35 sh_137 rfl rfl ?_
    refine g_iload_n dX12_doOne_123 rfl rfl ?_
    refine g_iconst (v := (1 : Int32)) dX12_doOne_124 (by decide) ?_
    refine g_iadd dX12_doOne_125 ?_
    by_cases g1 : (x2 + (1 : Int32)) < 0 ∨ 1875 ≤ (x2 + (1 : Int32)).toNatClampNeg
    · rw [if_pos g1] at h; cases h
    replace h := z_iff g1 h
    refine g_iald (a := 142) dX12_doOne_126 sh_142 g1 ?_
    refine g_ic_ge (t := 159) dX12_doOne_127 (by decide) (fun c2 => ?_) (fun c2 => ?_)
    · replace h := z_ift c2 h
      refine g_goto (t := 173) dX12_doOne_159 (by decide) ?_
      cases h
      exact g_vret dX12_doOne_173 rfl hq
    · replace h := z_iff c2 h
      refine g_aload_n dX12_doOne_130 rfl rfl ?_
      refine g_get (a := 137) (v := .int (z_tb (z_bb (M.1 137 31)))) dX12_doOne_131 f_12_492 sh_137 rfl z_fvZ ?_
      refine g_if_ne (t := 159) dX12_doOne_134 (by decide) (fun c3 => ?_) (fun c3 => ?_)
      · replace h := z_ift (z_tbn.mp c3) h
        refine g_goto (t := 173) dX12_doOne_159 (by decide) ?_
        cases h
        exact g_vret dX12_doOne_173 rfl hq
      · replace h := z_iff (z_tb0.mp c3) h
        refine g_aload_n dX12_doOne_137 rfl rfl ?_
        refine g_iload_n dX12_doOne_138 rfl rfl ?_
        refine g_iconst (v := (1 : Int32)) dX12_doOne_139 (by decide) ?_
        refine g_iadd dX12_doOne_140 ?_
        refine g_aload_n dX12_doOne_141 rfl rfl ?_
        refine g_get (a := 137) (v := .ref 144) dX12_doOne_142 f_12_35 sh_137 rfl rfl ?_
        refine g_iload_n dX12_doOne_145 rfl rfl ?_
        refine g_bipush (v := (8 : Int32)) dX12_doOne_146 (by decide) ?_
        refine g_iadd dX12_doOne_148 ?_
        by_cases g4 : (x2 + (8 : Int32)) < 0 ∨ 1875 ≤ (x2 + (8 : Int32)).toNatClampNeg
        · rw [if_pos g4] at h; cases h
        replace h := z_iff g4 h
        refine g_iald (a := 142) dX12_doOne_149 sh_142 g4 ?_
        obtain ⟨q5, e6, h⟩ := z_bd h
        refine g_callV (a := 137) (as := [.int (x1 + (1 : Int32)), .int (M.1 142 (x2 + (8 : Int32)).toNatClampNeg)]) (rest := []) (c := mX12_doAll) (k1 := k) dX12_doOne_150 rfl rfl rfl sh_137 rfl rfl (Nat.le_of_ble_eq_true rfl) (Nat.le_of_ble_eq_true rfl) (by omega) ?_
        refine hG _ _ _ _ _ _ e6 ?_
        show z_G none (k + 1) mX12_doOne 153 [some (.ref 139), some (.int x1), some (.int x2), none, some (.int x4)] [] q5.2 Q
        refine g_iinc (v := x4 + (1 : Int32)) (ls' := [some (.ref 139), some (.int x1), some (.int x2), none, some (.int (x4 + (1 : Int32)))]) dX12_doOne_153 rfl rfl rfl ?_
        refine g_goto (t := 117) dX12_doOne_156 (by decide) ?_
        exact g_sub (z_sub_s (z_sub_s (z_sub_s (z_sub_n (z_sub_s z_sub_nil))))) (ih _ _ _ _ _ _ _ h hq)
def Fb_X12_doOne (w : Nat) (G : z_Mem → Int32 → Int32 → Option (Unit × z_Mem)) (M : z_Mem) (a1 : Int32) : Option (Unit × z_Mem) :=
  if (M.1 137 33) = (300 : Int32) then
  some ((), (z_wI (z_wI M 137 31 (1 : Int32)) 137 38 (1 : Int32)))
  else
  if ((105 : Int32) + ((9 : Int32) * a1)) < 0 ∨ 1875 ≤ ((105 : Int32) + ((9 : Int32) * a1)).toNatClampNeg then none else
  if (5 : Int32) ≤ ((z_wI M 137 33 ((M.1 137 33) + (1 : Int32))).1 142 ((105 : Int32) + ((9 : Int32) * a1)).toNatClampNeg) then
  if ((z_wI M 137 33 ((M.1 137 33) + (1 : Int32))).1 142 ((105 : Int32) + ((9 : Int32) * a1)).toNatClampNeg) = (5 : Int32) then
  (F_X12_holds w (z_wI M 137 33 ((M.1 137 33) + (1 : Int32))) ((105 : Int32) + ((9 : Int32) * a1))).bind fun q13 =>
  if q13.1 = true then
  if (((105 : Int32) + ((9 : Int32) * a1)) + (8 : Int32)) < 0 ∨ 1875 ≤ (((105 : Int32) + ((9 : Int32) * a1)) + (8 : Int32)).toNatClampNeg then none else
  (G q13.2 (a1 + (1 : Int32)) (q13.2.1 142 (((105 : Int32) + ((9 : Int32) * a1)) + (8 : Int32)).toNatClampNeg)).bind fun q19 =>
  some ((), q19.2)
  else
  if ((z_wI M 137 33 ((M.1 137 33) + (1 : Int32))).1 142 ((105 : Int32) + ((9 : Int32) * a1)).toNatClampNeg) = (6 : Int32) then
  L_X12_doOne w G w q13.2 a1 ((105 : Int32) + ((9 : Int32) * a1)) (0 : Int32)
  else
  if ((z_wI M 137 33 ((M.1 137 33) + (1 : Int32))).1 142 ((105 : Int32) + ((9 : Int32) * a1)).toNatClampNeg) ≤ (6 : Int32) then
  some ((), q13.2)
  else
  some ((), (z_wI q13.2 137 31 (1 : Int32)))
  else
  if ((z_wI M 137 33 ((M.1 137 33) + (1 : Int32))).1 142 ((105 : Int32) + ((9 : Int32) * a1)).toNatClampNeg) = (6 : Int32) then
  L_X12_doOne w G w (z_wI M 137 33 ((M.1 137 33) + (1 : Int32))) a1 ((105 : Int32) + ((9 : Int32) * a1)) (0 : Int32)
  else
  if ((z_wI M 137 33 ((M.1 137 33) + (1 : Int32))).1 142 ((105 : Int32) + ((9 : Int32) * a1)).toNatClampNeg) ≤ (6 : Int32) then
  some ((), (z_wI M 137 33 ((M.1 137 33) + (1 : Int32))))
  else
  some ((), (z_wI (z_wI M 137 33 ((M.1 137 33) + (1 : Int32))) 137 31 (1 : Int32)))
  else
  (F_X12_does w (z_wI M 137 33 ((M.1 137 33) + (1 : Int32))) ((105 : Int32) + ((9 : Int32) * a1))).bind fun q21 =>
  if q21.1 = true then
  some ((), (z_wI q21.2 137 34 ((M.1 137 34) + (0 : Int32))))
  else
  some ((), (z_wI q21.2 137 34 ((M.1 137 34) + (1 : Int32))))
set_option maxHeartbeats 4000000 in
theorem Ab_X12_doOne {w : Nat} {G : z_Mem → Int32 → Int32 → Option (Unit × z_Mem)} {k : Nat} (hk0 : 6 ≤ k) (hG : ∀ (M : z_Mem) (a1 : Int32) (a2 : Int32) (r : Unit) (M' : z_Mem) (Q : Option Value → z_Mem → Prop), G M a1 a2 = some (r, M') → Q none M' → z_Cl k mX12_doAll [.ref 139, .int a1, .int a2] M Q) {M : z_Mem} {a1 : Int32} {r : Unit} {M' : z_Mem} {Q : Option Value → z_Mem → Prop} (h : Fb_X12_doOne w G M a1 = some (r, M')) (hq : Q none M') : z_Cl (k + 1) mX12_doOne [.ref 139, .int a1] M Q := by
  refine g_in (ls := [some (.ref 139), some (.int a1), none, none, none]) rfl ?_
  unfold Fb_X12_doOne at h
  refine g_aload_n dX12_doOne_0 rfl rfl ?_
  refine g_get (a := 137) (v := .int (M.1 137 33)) dX12_doOne_1 f_12_489 sh_137 rfl rfl ?_
  refine g_sipush (v := (300 : Int32)) dX12_doOne_4 (by decide) ?_
  refine g_ic_ne (t := 21) dX12_doOne_7 (by decide) (fun c7 => ?_) (fun c7 => ?_)
  · replace h := z_iff c7 h
    refine g_aload_n dX12_doOne_21 rfl rfl ?_
    refine g_dup dX12_doOne_22 rfl ?_
    refine g_get (a := 137) (v := .int (M.1 137 33)) dX12_doOne_23 f_12_489 sh_137 rfl rfl ?_
    refine g_iconst (v := (1 : Int32)) dX12_doOne_26 (by decide) ?_
    refine g_iadd dX12_doOne_27 ?_
    refine g_putI (a := 137) dX12_doOne_28 f_12_489 sh_137 rfl rfl rfl ?_
    refine g_bipush (v := (105 : Int32)) dX12_doOne_31 (by decide) ?_
    refine g_bipush (v := (9 : Int32)) dX12_doOne_33 (by decide) ?_
    refine g_iload_n dX12_doOne_35 rfl rfl ?_
    refine g_imul dX12_doOne_36 ?_
    refine g_iadd dX12_doOne_37 ?_
    refine g_istore_n (ls' := [some (.ref 139), some (.int a1), some (.int ((105 : Int32) + ((9 : Int32) * a1))), none, none]) dX12_doOne_38 rfl (Nat.le_of_ble_eq_true rfl) rfl ?_
    refine g_aload_n dX12_doOne_39 rfl rfl ?_
    refine g_get (a := 137) (v := .ref 144) dX12_doOne_40 f_12_35 sh_137 rfl rfl ?_
    refine g_iload_n dX12_doOne_43 rfl rfl ?_
    by_cases g8 : ((105 : Int32) + ((9 : Int32) * a1)) < 0 ∨ 1875 ≤ ((105 : Int32) + ((9 : Int32) * a1)).toNatClampNeg
    · rw [if_pos g8] at h; cases h
    replace h := z_iff g8 h
    refine g_iald (a := 142) dX12_doOne_44 sh_142 g8 ?_
    refine g_istore_n (ls' := [some (.ref 139), some (.int a1), some (.int ((105 : Int32) + ((9 : Int32) * a1))), some (.int ((z_wI M 137 33 ((M.1 137 33) + (1 : Int32))).1 142 ((105 : Int32) + ((9 : Int32) * a1)).toNatClampNeg)), none]) dX12_doOne_45 rfl (Nat.le_of_ble_eq_true rfl) rfl ?_
    refine g_iload_n dX12_doOne_46 rfl rfl ?_
    refine g_iconst (v := (5 : Int32)) dX12_doOne_47 (by decide) ?_
    refine g_ic_ge (t := 76) dX12_doOne_48 (by decide) (fun c9 => ?_) (fun c9 => ?_)
    · replace h := z_ift c9 h
      refine g_iload_n dX12_doOne_76 rfl rfl ?_
      refine g_iconst (v := (5 : Int32)) dX12_doOne_77 (by decide) ?_
      refine g_ic_ne (t := 108) dX12_doOne_78 (by decide) (fun c10 => ?_) (fun c10 => ?_)
      · replace h := z_iff c10 h
        refine g_iload_n dX12_doOne_108 rfl rfl ?_
        refine g_bipush (v := (6 : Int32)) dX12_doOne_109 (by decide) ?_
        refine g_ic_ne (t := 162) dX12_doOne_111 (by decide) (fun c11 => ?_) (fun c11 => ?_)
        · replace h := z_iff c11 h
          refine g_iload_n dX12_doOne_162 rfl rfl ?_
          refine g_bipush (v := (6 : Int32)) dX12_doOne_163 (by decide) ?_
          refine g_ic_le (t := 173) dX12_doOne_165 (by decide) (fun c12 => ?_) (fun c12 => ?_)
          · replace h := z_ift c12 h
            cases h
            exact g_vret dX12_doOne_173 rfl hq
          · replace h := z_iff c12 h
            refine g_aload_n dX12_doOne_168 rfl rfl ?_
            refine g_iconst (v := (1 : Int32)) dX12_doOne_169 (by decide) ?_
            refine g_putZ (a := 137) dX12_doOne_170 f_12_492 sh_137 rfl rfl rfl (by first | exact Or.inl rfl | exact Or.inr rfl | exact z_tb01) ?_
            cases h
            exact g_vret dX12_doOne_173 rfl hq
        · replace h := z_ift c11 h
          refine g_iconst (v := (0 : Int32)) dX12_doOne_114 (by decide) ?_
          refine g_istore (ls' := [some (.ref 139), some (.int a1), some (.int ((105 : Int32) + ((9 : Int32) * a1))), some (.int ((z_wI M 137 33 ((M.1 137 33) + (1 : Int32))).1 142 ((105 : Int32) + ((9 : Int32) * a1)).toNatClampNeg)), some (.int (0 : Int32))]) dX12_doOne_115 (Nat.le_of_ble_eq_true rfl) rfl ?_
          exact g_sub (z_sub_s (z_sub_s (z_sub_s (z_sub_n (z_sub_s z_sub_nil))))) ((AL_X12_doOne (w := w) hk0 hG w) _ _ _ _ _ _ _ h hq)
      · replace h := z_ift c10 h
        refine g_aload_n dX12_doOne_81 rfl rfl ?_
        refine g_iload_n dX12_doOne_82 rfl rfl ?_
        obtain ⟨q13, e14, h⟩ := z_bd h
        refine g_callV (a := 137) (as := [.int ((105 : Int32) + ((9 : Int32) * a1))]) (rest := []) (c := mX12_holds) (k1 := 1) dX12_doOne_83 rfl rfl rfl sh_137 rfl rfl (Nat.le_of_ble_eq_true rfl) (Nat.le_of_ble_eq_true rfl) (by omega) ?_
        refine A_X12_holds e14 ?_
        show z_G none (k + 1) mX12_doOne 86 [some (.ref 139), some (.int a1), some (.int ((105 : Int32) + ((9 : Int32) * a1))), some (.int ((z_wI M 137 33 ((M.1 137 33) + (1 : Int32))).1 142 ((105 : Int32) + ((9 : Int32) * a1)).toNatClampNeg)), none] [.int (z_tb q13.1)] q13.2 Q
        refine g_if_eq (t := 108) dX12_doOne_86 (by decide) (fun c15 => ?_) (fun c15 => ?_)
        · replace h := z_iff (z_tb0.mp c15) h
          refine g_iload_n dX12_doOne_108 rfl rfl ?_
          refine g_bipush (v := (6 : Int32)) dX12_doOne_109 (by decide) ?_
          refine g_ic_ne (t := 162) dX12_doOne_111 (by decide) (fun c16 => ?_) (fun c16 => ?_)
          · replace h := z_iff c16 h
            refine g_iload_n dX12_doOne_162 rfl rfl ?_
            refine g_bipush (v := (6 : Int32)) dX12_doOne_163 (by decide) ?_
            refine g_ic_le (t := 173) dX12_doOne_165 (by decide) (fun c17 => ?_) (fun c17 => ?_)
            · replace h := z_ift c17 h
              cases h
              exact g_vret dX12_doOne_173 rfl hq
            · replace h := z_iff c17 h
              refine g_aload_n dX12_doOne_168 rfl rfl ?_
              refine g_iconst (v := (1 : Int32)) dX12_doOne_169 (by decide) ?_
              refine g_putZ (a := 137) dX12_doOne_170 f_12_492 sh_137 rfl rfl rfl (by first | exact Or.inl rfl | exact Or.inr rfl | exact z_tb01) ?_
              cases h
              exact g_vret dX12_doOne_173 rfl hq
          · replace h := z_ift c16 h
            refine g_iconst (v := (0 : Int32)) dX12_doOne_114 (by decide) ?_
            refine g_istore (ls' := [some (.ref 139), some (.int a1), some (.int ((105 : Int32) + ((9 : Int32) * a1))), some (.int ((z_wI M 137 33 ((M.1 137 33) + (1 : Int32))).1 142 ((105 : Int32) + ((9 : Int32) * a1)).toNatClampNeg)), some (.int (0 : Int32))]) dX12_doOne_115 (Nat.le_of_ble_eq_true rfl) rfl ?_
            exact g_sub (z_sub_s (z_sub_s (z_sub_s (z_sub_n (z_sub_s z_sub_nil))))) ((AL_X12_doOne (w := w) hk0 hG w) _ _ _ _ _ _ _ h hq)
        · replace h := z_ift (z_tbn.mp c15) h
          refine g_aload_n dX12_doOne_89 rfl rfl ?_
          refine g_iload_n dX12_doOne_90 rfl rfl ?_
          refine g_iconst (v := (1 : Int32)) dX12_doOne_91 (by decide) ?_
          refine g_iadd dX12_doOne_92 ?_
          refine g_aload_n dX12_doOne_93 rfl rfl ?_
          refine g_get (a := 137) (v := .ref 144) dX12_doOne_94 f_12_35 sh_137 rfl rfl ?_
          refine g_iload_n dX12_doOne_97 rfl rfl ?_
          refine g_bipush (v := (8 : Int32)) dX12_doOne_98 (by decide) ?_
          refine g_iadd dX12_doOne_100 ?_
          by_cases g18 : (((105 : Int32) + ((9 : Int32) * a1)) + (8 : Int32)) < 0 ∨ 1875 ≤ (((105 : Int32) + ((9 : Int32) * a1)) + (8 : Int32)).toNatClampNeg
          · rw [if_pos g18] at h; cases h
          replace h := z_iff g18 h
          refine g_iald (a := 142) dX12_doOne_101 sh_142 g18 ?_
          obtain ⟨q19, e20, h⟩ := z_bd h
          refine g_callV (a := 137) (as := [.int (a1 + (1 : Int32)), .int (q13.2.1 142 (((105 : Int32) + ((9 : Int32) * a1)) + (8 : Int32)).toNatClampNeg)]) (rest := []) (c := mX12_doAll) (k1 := k) dX12_doOne_102 rfl rfl rfl sh_137 rfl rfl (Nat.le_of_ble_eq_true rfl) (Nat.le_of_ble_eq_true rfl) (by omega) ?_
          refine hG _ _ _ _ _ _ e20 ?_
          show z_G none (k + 1) mX12_doOne 105 [some (.ref 139), some (.int a1), some (.int ((105 : Int32) + ((9 : Int32) * a1))), some (.int ((z_wI M 137 33 ((M.1 137 33) + (1 : Int32))).1 142 ((105 : Int32) + ((9 : Int32) * a1)).toNatClampNeg)), none] [] q19.2 Q
          refine g_goto (t := 173) dX12_doOne_105 (by decide) ?_
          cases h
          exact g_vret dX12_doOne_173 rfl hq
    · replace h := z_iff c9 h
      refine g_aload_n dX12_doOne_51 rfl rfl ?_
      refine g_dup dX12_doOne_52 rfl ?_
      refine g_get (a := 137) (v := .int (M.1 137 34)) dX12_doOne_53 f_12_499 sh_137 rfl (by simp [z_fv, z_wI, z_wL, z_wLs, upd, vp_updL]) ?_
      refine g_aload_n dX12_doOne_56 rfl rfl ?_
      refine g_iload_n dX12_doOne_57 rfl rfl ?_
      obtain ⟨q21, e22, h⟩ := z_bd h
      refine g_callV (a := 137) (as := [.int ((105 : Int32) + ((9 : Int32) * a1))]) (rest := [.int (M.1 137 34), .ref 139]) (c := mX12_does) (k1 := 6) dX12_doOne_58 rfl rfl rfl sh_137 rfl rfl (Nat.le_of_ble_eq_true rfl) (Nat.le_of_ble_eq_true rfl) (by omega) ?_
      refine A_X12_does e22 ?_
      show z_G none (k + 1) mX12_doOne 61 [some (.ref 139), some (.int a1), some (.int ((105 : Int32) + ((9 : Int32) * a1))), some (.int ((z_wI M 137 33 ((M.1 137 33) + (1 : Int32))).1 142 ((105 : Int32) + ((9 : Int32) * a1)).toNatClampNeg)), none] [.int (z_tb q21.1), .int (M.1 137 34), .ref 139] q21.2 Q
      refine g_if_eq (t := 68) dX12_doOne_61 (by decide) (fun c23 => ?_) (fun c23 => ?_)
      · replace h := z_iff (z_tb0.mp c23) h
        refine g_iconst (v := (1 : Int32)) dX12_doOne_68 (by decide) ?_
        refine g_iadd dX12_doOne_69 ?_
        refine g_putI (a := 137) dX12_doOne_70 f_12_499 sh_137 rfl rfl rfl ?_
        refine g_goto (t := 173) dX12_doOne_73 (by decide) ?_
        cases h
        exact g_vret dX12_doOne_173 rfl hq
      · replace h := z_ift (z_tbn.mp c23) h
        refine g_iconst (v := (0 : Int32)) dX12_doOne_64 (by decide) ?_
        refine g_goto (t := 69) dX12_doOne_65 (by decide) ?_
        refine g_iadd dX12_doOne_69 ?_
        refine g_putI (a := 137) dX12_doOne_70 f_12_499 sh_137 rfl rfl rfl ?_
        refine g_goto (t := 173) dX12_doOne_73 (by decide) ?_
        cases h
        exact g_vret dX12_doOne_173 rfl hq
  · replace h := z_ift c7 h
    refine g_aload_n dX12_doOne_10 rfl rfl ?_
    refine g_iconst (v := (1 : Int32)) dX12_doOne_11 (by decide) ?_
    refine g_putZ (a := 137) dX12_doOne_12 f_12_492 sh_137 rfl rfl rfl (by first | exact Or.inl rfl | exact Or.inr rfl | exact z_tb01) ?_
    refine g_aload_n dX12_doOne_15 rfl rfl ?_
    refine g_iconst (v := (1 : Int32)) dX12_doOne_16 (by decide) ?_
    refine g_putI (a := 137) dX12_doOne_17 f_12_496 sh_137 rfl rfl rfl ?_
    cases h
    exact g_vret dX12_doOne_20 rfl hq
theorem dX12_doAll_0 : decode cX12_doAll 0 = .ok (.iload_n 1, 1) := by decide +kernel
theorem dX12_doAll_1 : decode cX12_doAll 1 = .ok (.istore_n 3, 1) := by decide +kernel
theorem dX12_doAll_2 : decode cX12_doAll 2 = .ok (.iload_n 3, 1) := by decide +kernel
theorem dX12_doAll_3 : decode cX12_doAll 3 = .ok (.iload_n 2, 1) := by decide +kernel
theorem dX12_doAll_4 : decode cX12_doAll 4 = .ok (.if_icmp .ge 34, 3) := by decide +kernel
theorem dX12_doAll_7 : decode cX12_doAll 7 = .ok (.aload_n 0, 1) := by decide +kernel
theorem dX12_doAll_8 : decode cX12_doAll 8 = .ok (.getfield 492, 3) := by decide +kernel
theorem dX12_doAll_11 : decode cX12_doAll 11 = .ok (.ifCond .ne 27, 3) := by decide +kernel
theorem dX12_doAll_14 : decode cX12_doAll 14 = .ok (.aload_n 0, 1) := by decide +kernel
theorem dX12_doAll_15 : decode cX12_doAll 15 = .ok (.iload_n 3, 1) := by decide +kernel
theorem dX12_doAll_16 : decode cX12_doAll 16 = .ok (.invokevirtual 511, 3) := by decide +kernel
theorem dX12_doAll_19 : decode cX12_doAll 19 = .ok (.aload_n 0, 1) := by decide +kernel
theorem dX12_doAll_20 : decode cX12_doAll 20 = .ok (.getfield 35, 3) := by decide +kernel
theorem dX12_doAll_23 : decode cX12_doAll 23 = .ok (.bipush 105, 2) := by decide +kernel
theorem dX12_doAll_25 : decode cX12_doAll 25 = .ok (.bipush 9, 2) := by decide +kernel
theorem dX12_doAll_27 : decode cX12_doAll 27 = .ok (.iload_n 3, 1) := by decide +kernel
theorem dX12_doAll_28 : decode cX12_doAll 28 = .ok (.imul, 1) := by decide +kernel
theorem dX12_doAll_29 : decode cX12_doAll 29 = .ok (.iadd, 1) := by decide +kernel
theorem dX12_doAll_30 : decode cX12_doAll 30 = .ok (.bipush 8, 2) := by decide +kernel
theorem dX12_doAll_32 : decode cX12_doAll 32 = .ok (.iadd, 1) := by decide +kernel
theorem dX12_doAll_33 : decode cX12_doAll 33 = .ok (.iaload, 1) := by decide +kernel
theorem dX12_doAll_34 : decode cX12_doAll 34 = .ok (.istore_n 3, 1) := by decide +kernel
theorem dX12_doAll_35 : decode cX12_doAll 35 = .ok (.goto (-33), 3) := by decide +kernel
theorem dX12_doAll_38 : decode cX12_doAll 38 = .ok (.return_, 1) := by decide +kernel
def L_X12_doAll (w : Nat) (G : z_Mem → Int32 → Option (Unit × z_Mem)) : Nat → z_Mem → Int32 → Int32 → Option (Unit × z_Mem)
  | 0, _, _, _ => none
  | c + 1, M, x2, x3 =>
    if x2 ≤ x3 then
    some ((), M)
    else
    if (z_bb (M.1 137 31)) = true then
    some ((), M)
    else
    (G M x3).bind fun q3 =>
    if (((105 : Int32) + ((9 : Int32) * x3)) + (8 : Int32)) < 0 ∨ 1875 ≤ (((105 : Int32) + ((9 : Int32) * x3)) + (8 : Int32)).toNatClampNeg then none else
    L_X12_doAll w G c q3.2 x2 (q3.2.1 142 (((105 : Int32) + ((9 : Int32) * x3)) + (8 : Int32)).toNatClampNeg)
set_option maxHeartbeats 4000000 in
theorem AL_X12_doAll {w : Nat} {G : z_Mem → Int32 → Option (Unit × z_Mem)} {k : Nat} (hk0 : 0 ≤ k) (hG : ∀ (M : z_Mem) (a1 : Int32) (r : Unit) (M' : z_Mem) (Q : Option Value → z_Mem → Prop), G M a1 = some (r, M') → Q none M' → z_Cl k mX12_doOne [.ref 139, .int a1] M Q) : ∀ (c : Nat), (∀ (M : z_Mem) (x2 : Int32) (x3 : Int32) (r : Unit) (M' : z_Mem) (Q : Option Value → z_Mem → Prop), L_X12_doAll w G c M x2 x3 = some (r, M') → Q none M' → z_G none (k + 1) mX12_doAll 2 [some (.ref 139), none, some (.int x2), some (.int x3)] [] M Q) := by
  intro c
  induction c with
  | zero => exact (fun M x2 x3 r M' Q h hq => by rw [L_X12_doAll] at h; cases h)
  | succ c ih =>
    intro M x2 x3 r M' Q h hq
    rw [L_X12_doAll] at h
    refine g_iload_n dX12_doAll_2 rfl rfl ?_
    refine g_iload_n dX12_doAll_3 rfl rfl ?_
    refine g_ic_ge (t := 38) dX12_doAll_4 (by decide) (fun c1 => ?_) (fun c1 => ?_)
    · replace h := z_ift c1 h
      cases h
      exact g_vret dX12_doAll_38 rfl hq
    · replace h := z_iff c1 h
      refine g_aload_n dX12_doAll_7 rfl rfl ?_
      refine g_get (a := 137) (v := .int (z_tb (z_bb (M.1 137 31)))) dX12_doAll_8 f_12_492 sh_137 rfl z_fvZ ?_
      refine g_if_ne (t := 38) dX12_doAll_11 (by decide) (fun c2 => ?_) (fun c2 => ?_)
      · replace h := z_ift (z_tbn.mp c2) h
        cases h
        exact g_vret dX12_doAll_38 rfl hq
      · replace h := z_iff (z_tb0.mp c2) h
        refine g_aload_n dX12_doAll_14 rfl rfl ?_
        refine g_iload_n dX12_doAll_15 rfl rfl ?_
        obtain ⟨q3, e4, h⟩ := z_bd h
        refine g_callV (a := 137) (as := [.int x3]) (rest := []) (c := mX12_doOne) (k1 := k) dX12_doAll_16 rfl rfl rfl sh_137 rfl rfl (Nat.le_of_ble_eq_true rfl) (Nat.le_of_ble_eq_true rfl) (by omega) ?_
        refine hG _ _ _ _ _ e4 ?_
        show z_G none (k + 1) mX12_doAll 19 [some (.ref 139), none, some (.int x2), some (.int x3)] [] q3.2 Q
        refine g_aload_n dX12_doAll_19 rfl rfl ?_
        refine g_get (a := 137) (v := .ref 144) dX12_doAll_20 f_12_35 sh_137 rfl rfl ?_
        refine g_bipush (v := (105 : Int32)) dX12_doAll_23 (by decide) ?_
        refine g_bipush (v := (9 : Int32)) dX12_doAll_25 (by decide) ?_
        refine g_iload_n dX12_doAll_27 rfl rfl ?_
        refine g_imul dX12_doAll_28 ?_
        refine g_iadd dX12_doAll_29 ?_
        refine g_bipush (v := (8 : Int32)) dX12_doAll_30 (by decide) ?_
        refine g_iadd dX12_doAll_32 ?_
        by_cases g5 : (((105 : Int32) + ((9 : Int32) * x3)) + (8 : Int32)) < 0 ∨ 1875 ≤ (((105 : Int32) + ((9 : Int32) * x3)) + (8 : Int32)).toNatClampNeg
        · rw [if_pos g5] at h; cases h
        replace h := z_iff g5 h
        refine g_iald (a := 142) dX12_doAll_33 sh_142 g5 ?_
        refine g_istore_n (ls' := [some (.ref 139), none, some (.int x2), some (.int (q3.2.1 142 (((105 : Int32) + ((9 : Int32) * x3)) + (8 : Int32)).toNatClampNeg))]) dX12_doAll_34 rfl (Nat.le_of_ble_eq_true rfl) rfl ?_
        refine g_goto (t := 2) dX12_doAll_35 (by decide) ?_
        exact g_sub (z_sub_s (z_sub_n (z_sub_s (z_sub_s z_sub_nil)))) (ih _ _ _ _ _ _ h hq)
def Fb_X12_doAll (w : Nat) (G : z_Mem → Int32 → Option (Unit × z_Mem)) (M : z_Mem) (a1 : Int32) (a2 : Int32) : Option (Unit × z_Mem) :=
  L_X12_doAll w G w M a2 a1
set_option maxHeartbeats 4000000 in
theorem Ab_X12_doAll {w : Nat} {G : z_Mem → Int32 → Option (Unit × z_Mem)} {k : Nat} (hk0 : 0 ≤ k) (hG : ∀ (M : z_Mem) (a1 : Int32) (r : Unit) (M' : z_Mem) (Q : Option Value → z_Mem → Prop), G M a1 = some (r, M') → Q none M' → z_Cl k mX12_doOne [.ref 139, .int a1] M Q) {M : z_Mem} {a1 : Int32} {a2 : Int32} {r : Unit} {M' : z_Mem} {Q : Option Value → z_Mem → Prop} (h : Fb_X12_doAll w G M a1 a2 = some (r, M')) (hq : Q none M') : z_Cl (k + 1) mX12_doAll [.ref 139, .int a1, .int a2] M Q := by
  refine g_in (ls := [some (.ref 139), some (.int a1), some (.int a2), none]) rfl ?_
  unfold Fb_X12_doAll at h
  refine g_iload_n dX12_doAll_0 rfl rfl ?_
  refine g_istore_n (ls' := [some (.ref 139), some (.int a1), some (.int a2), some (.int a1)]) dX12_doAll_1 rfl (Nat.le_of_ble_eq_true rfl) rfl ?_
  exact g_sub (z_sub_s (z_sub_n (z_sub_s (z_sub_s z_sub_nil)))) ((AL_X12_doAll (w := w) hk0 hG w) _ _ _ _ _ _ h hq)
def F_X12_doAll (w : Nat) : Nat → z_Mem → Int32 → Int32 → Option (Unit × z_Mem)
  | 0, _, _, _ => none
  | n + 1, M, a1, a2 => Fb_X12_doAll w (Fb_X12_doOne w (F_X12_doAll w n)) M a1 a2
theorem A_X12_doAll {w : Nat} : ∀ (n : Nat) (M : z_Mem) (a1 a2 : Int32) (r : Unit) (M' : z_Mem) (Q : Option Value → z_Mem → Prop), F_X12_doAll w n M a1 a2 = some (r, M') → Q none M' → z_Cl (2 * n + 6) mX12_doAll [.ref 139, .int a1, .int a2] M Q := by
  intro n
  induction n with
  | zero => intro M a1 a2 r M' Q h; rw [F_X12_doAll] at h; cases h
  | succ n ih =>
    intro M a1 a2 r M' Q h hq
    rw [F_X12_doAll] at h
    rw [show 2 * (n + 1) + 6 = (2 * n + 6 + 1) + 1 by omega]
    refine Ab_X12_doAll (G := Fb_X12_doOne w (F_X12_doAll w n)) (k := 2 * n + 6 + 1) (by omega) (fun M a1 r M' Q h hq => ?_) h hq
    exact Ab_X12_doOne (G := F_X12_doAll w n) (k := 2 * n + 6) (by omega) ih h hq
