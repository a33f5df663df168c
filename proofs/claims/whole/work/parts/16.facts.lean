/-! ===== shapes and fields by name; rows by numbers ===== -/
theorem sh_0 : z_sh[0]? = some (.inr (11, [6, 10, 12, 35, 58, 61, 63, 64, 69, 71, 0, 0, 2, 2, 0, 0, 1])) := rfl
theorem sh_1 : z_sh[1]? = some (.inr (8, [7, 8, 9])) := rfl
theorem sh_2 : z_sh[2]? = some (.inl (.long, 240)) := rfl
theorem sh_3 : z_sh[3]? = some (.inl (.int, 4)) := rfl
theorem sh_4 : z_sh[4]? = some (.inl (.int, 4)) := rfl
theorem sh_5 : z_sh[5]? = some (.inr (7, [11, 0, 0, 0, 0, 0, 0, 0, 0])) := rfl
theorem sh_6 : z_sh[6]? = some (.inl (.byte, 900)) := rfl
theorem sh_7 : z_sh[7]? = some (.inr (3, [13, 14, 20, 24, 29, 0, 0, 0, 0, 0, 0, 0])) := rfl
theorem sh_8 : z_sh[8]? = some (.inl (.int, 2)) := rfl
theorem sh_9 : z_sh[9]? = some (.inr (6, [15, 16, 17, 18, 19, 0])) := rfl
theorem sh_10 : z_sh[10]? = some (.inl (.int, 8)) := rfl
theorem sh_11 : z_sh[11]? = some (.inl (.int, 8)) := rfl
theorem sh_12 : z_sh[12]? = some (.inl (.int, 8)) := rfl
theorem sh_13 : z_sh[13]? = some (.inl (.int, 8)) := rfl
theorem sh_14 : z_sh[14]? = some (.inl (.int, 8)) := rfl
theorem sh_15 : z_sh[15]? = some (.inr (1, [21, 22, 23, 0, 0])) := rfl
theorem sh_16 : z_sh[16]? = some (.inl (.int, 5)) := rfl
theorem sh_17 : z_sh[17]? = some (.inl (.int, 5)) := rfl
theorem sh_18 : z_sh[18]? = some (.inl (.int, 5)) := rfl
theorem sh_19 : z_sh[19]? = some (.inr (0, [25, 26, 27, 28, 0, 0, 0])) := rfl
theorem sh_20 : z_sh[20]? = some (.inl (.int, 8)) := rfl
theorem sh_21 : z_sh[21]? = some (.inl (.int, 8)) := rfl
theorem sh_22 : z_sh[22]? = some (.inl (.int, 6)) := rfl
theorem sh_23 : z_sh[23]? = some (.inl (.int, 6)) := rfl
theorem sh_24 : z_sh[24]? = some (.inr (9, [30, 31, 32, 33, 34, 0, 0, 1])) := rfl
theorem sh_25 : z_sh[25]? = some (.inl (.int, 60)) := rfl
theorem sh_26 : z_sh[26]? = some (.inl (.int, 60)) := rfl
theorem sh_27 : z_sh[27]? = some (.inl (.int, 60)) := rfl
theorem sh_28 : z_sh[28]? = some (.inl (.int, 60)) := rfl
theorem sh_29 : z_sh[29]? = some (.inl (.int, 60)) := rfl
theorem sh_30 : z_sh[30]? = some (.inr (3, [36, 37, 43, 47, 52, 0, 0, 0, 0, 0, 0, 0])) := rfl
theorem sh_31 : z_sh[31]? = some (.inl (.int, 2)) := rfl
theorem sh_32 : z_sh[32]? = some (.inr (6, [38, 39, 40, 41, 42, 0])) := rfl
theorem sh_33 : z_sh[33]? = some (.inl (.int, 8)) := rfl
theorem sh_34 : z_sh[34]? = some (.inl (.int, 8)) := rfl
theorem sh_35 : z_sh[35]? = some (.inl (.int, 8)) := rfl
theorem sh_36 : z_sh[36]? = some (.inl (.int, 8)) := rfl
theorem sh_37 : z_sh[37]? = some (.inl (.int, 8)) := rfl
theorem sh_38 : z_sh[38]? = some (.inr (1, [44, 45, 46, 0, 0])) := rfl
theorem sh_39 : z_sh[39]? = some (.inl (.int, 5)) := rfl
theorem sh_40 : z_sh[40]? = some (.inl (.int, 5)) := rfl
theorem sh_41 : z_sh[41]? = some (.inl (.int, 5)) := rfl
theorem sh_42 : z_sh[42]? = some (.inr (0, [48, 49, 50, 51, 0, 0, 0])) := rfl
theorem sh_43 : z_sh[43]? = some (.inl (.int, 8)) := rfl
theorem sh_44 : z_sh[44]? = some (.inl (.int, 8)) := rfl
theorem sh_45 : z_sh[45]? = some (.inl (.int, 6)) := rfl
theorem sh_46 : z_sh[46]? = some (.inl (.int, 6)) := rfl
theorem sh_47 : z_sh[47]? = some (.inr (9, [53, 54, 55, 56, 57, 0, 0, 1])) := rfl
theorem sh_48 : z_sh[48]? = some (.inl (.int, 60)) := rfl
theorem sh_49 : z_sh[49]? = some (.inl (.int, 60)) := rfl
theorem sh_50 : z_sh[50]? = some (.inl (.int, 60)) := rfl
theorem sh_51 : z_sh[51]? = some (.inl (.int, 60)) := rfl
theorem sh_52 : z_sh[52]? = some (.inl (.int, 60)) := rfl
theorem sh_53 : z_sh[53]? = some (.inr (4, [10, 35, 59, 60, 0])) := rfl
theorem sh_54 : z_sh[54]? = some (.inl (.int, 6)) := rfl
theorem sh_55 : z_sh[55]? = some (.inl (.int, 6)) := rfl
theorem sh_56 : z_sh[56]? = some (.inr (10, [10, 52, 62, 0, 0, 0, 0])) := rfl
theorem sh_57 : z_sh[57]? = some (.inl (.int, 3)) := rfl
theorem sh_58 : z_sh[58]? = some (.inl (.object "DitchSaint$Parish", 3)) := rfl
theorem sh_59 : z_sh[59]? = some (.inr (5, [65, 66, 67, 68, 0, 0])) := rfl
theorem sh_60 : z_sh[60]? = some (.inl (.int, 48)) := rfl
theorem sh_61 : z_sh[61]? = some (.inl (.int, 128)) := rfl
theorem sh_62 : z_sh[62]? = some (.inl (.int, 128)) := rfl
theorem sh_63 : z_sh[63]? = some (.inl (.int, 2)) := rfl
theorem sh_64 : z_sh[64]? = some (.inr (2, [70, 0, 0, 0, 0, 0, 0, 0, 1])) := rfl
theorem sh_65 : z_sh[65]? = some (.inl (.int, 60)) := rfl
theorem sh_66 : z_sh[66]? = some (.inr (2, [72, 0, 0, 0, 0, 0, 0, 0, 1])) := rfl
theorem sh_67 : z_sh[67]? = some (.inl (.int, 60)) := rfl
theorem sh_68 : z_sh[68]? = some (.inr (3, [74, 75, 81, 85, 90, 0, 0, 0, 0, 0, 0, 0])) := rfl
theorem sh_69 : z_sh[69]? = some (.inl (.int, 2)) := rfl
theorem sh_70 : z_sh[70]? = some (.inr (6, [76, 77, 78, 79, 80, 0])) := rfl
theorem sh_71 : z_sh[71]? = some (.inl (.int, 8)) := rfl
theorem sh_72 : z_sh[72]? = some (.inl (.int, 8)) := rfl
theorem sh_73 : z_sh[73]? = some (.inl (.int, 8)) := rfl
theorem sh_74 : z_sh[74]? = some (.inl (.int, 8)) := rfl
theorem sh_75 : z_sh[75]? = some (.inl (.int, 8)) := rfl
theorem sh_76 : z_sh[76]? = some (.inr (1, [82, 83, 84, 0, 0])) := rfl
theorem sh_77 : z_sh[77]? = some (.inl (.int, 5)) := rfl
theorem sh_78 : z_sh[78]? = some (.inl (.int, 5)) := rfl
theorem sh_79 : z_sh[79]? = some (.inl (.int, 5)) := rfl
theorem sh_80 : z_sh[80]? = some (.inr (0, [86, 87, 88, 89, 0, 0, 0])) := rfl
theorem sh_81 : z_sh[81]? = some (.inl (.int, 8)) := rfl
theorem sh_82 : z_sh[82]? = some (.inl (.int, 8)) := rfl
theorem sh_83 : z_sh[83]? = some (.inl (.int, 6)) := rfl
theorem sh_84 : z_sh[84]? = some (.inl (.int, 6)) := rfl
theorem sh_85 : z_sh[85]? = some (.inr (9, [91, 92, 93, 94, 95, 0, 0, 1])) := rfl
theorem sh_86 : z_sh[86]? = some (.inl (.int, 60)) := rfl
theorem sh_87 : z_sh[87]? = some (.inl (.int, 60)) := rfl
theorem sh_88 : z_sh[88]? = some (.inl (.int, 60)) := rfl
theorem sh_89 : z_sh[89]? = some (.inl (.int, 60)) := rfl
theorem sh_90 : z_sh[90]? = some (.inl (.int, 60)) := rfl
theorem sh_91 : z_sh[91]? = some (.inr (3, [97, 98, 104, 108, 113, 0, 0, 0, 0, 0, 0, 0])) := rfl
theorem sh_92 : z_sh[92]? = some (.inl (.int, 2)) := rfl
theorem sh_93 : z_sh[93]? = some (.inr (6, [99, 100, 101, 102, 103, 0])) := rfl
theorem sh_94 : z_sh[94]? = some (.inl (.int, 8)) := rfl
theorem sh_95 : z_sh[95]? = some (.inl (.int, 8)) := rfl
theorem sh_96 : z_sh[96]? = some (.inl (.int, 8)) := rfl
theorem sh_97 : z_sh[97]? = some (.inl (.int, 8)) := rfl
theorem sh_98 : z_sh[98]? = some (.inl (.int, 8)) := rfl
theorem sh_99 : z_sh[99]? = some (.inr (1, [105, 106, 107, 0, 0])) := rfl
theorem sh_100 : z_sh[100]? = some (.inl (.int, 5)) := rfl
theorem sh_101 : z_sh[101]? = some (.inl (.int, 5)) := rfl
theorem sh_102 : z_sh[102]? = some (.inl (.int, 5)) := rfl
theorem sh_103 : z_sh[103]? = some (.inr (0, [109, 110, 111, 112, 0, 0, 0])) := rfl
theorem sh_104 : z_sh[104]? = some (.inl (.int, 8)) := rfl
theorem sh_105 : z_sh[105]? = some (.inl (.int, 8)) := rfl
theorem sh_106 : z_sh[106]? = some (.inl (.int, 6)) := rfl
theorem sh_107 : z_sh[107]? = some (.inl (.int, 6)) := rfl
theorem sh_108 : z_sh[108]? = some (.inr (9, [114, 115, 116, 117, 118, 0, 0, 1])) := rfl
theorem sh_109 : z_sh[109]? = some (.inl (.int, 60)) := rfl
theorem sh_110 : z_sh[110]? = some (.inl (.int, 60)) := rfl
theorem sh_111 : z_sh[111]? = some (.inl (.int, 60)) := rfl
theorem sh_112 : z_sh[112]? = some (.inl (.int, 60)) := rfl
theorem sh_113 : z_sh[113]? = some (.inl (.int, 60)) := rfl
theorem sh_114 : z_sh[114]? = some (.inr (3, [120, 121, 127, 131, 136, 0, 0, 0, 0, 0, 0, 0])) := rfl
theorem sh_115 : z_sh[115]? = some (.inl (.int, 2)) := rfl
theorem sh_116 : z_sh[116]? = some (.inr (6, [122, 123, 124, 125, 126, 0])) := rfl
theorem sh_117 : z_sh[117]? = some (.inl (.int, 8)) := rfl
theorem sh_118 : z_sh[118]? = some (.inl (.int, 8)) := rfl
theorem sh_119 : z_sh[119]? = some (.inl (.int, 8)) := rfl
theorem sh_120 : z_sh[120]? = some (.inl (.int, 8)) := rfl
theorem sh_121 : z_sh[121]? = some (.inl (.int, 8)) := rfl
theorem sh_122 : z_sh[122]? = some (.inr (1, [128, 129, 130, 0, 0])) := rfl
theorem sh_123 : z_sh[123]? = some (.inl (.int, 5)) := rfl
theorem sh_124 : z_sh[124]? = some (.inl (.int, 5)) := rfl
theorem sh_125 : z_sh[125]? = some (.inl (.int, 5)) := rfl
theorem sh_126 : z_sh[126]? = some (.inr (0, [132, 133, 134, 135, 0, 0, 0])) := rfl
theorem sh_127 : z_sh[127]? = some (.inl (.int, 8)) := rfl
theorem sh_128 : z_sh[128]? = some (.inl (.int, 8)) := rfl
theorem sh_129 : z_sh[129]? = some (.inl (.int, 6)) := rfl
theorem sh_130 : z_sh[130]? = some (.inl (.int, 6)) := rfl
theorem sh_131 : z_sh[131]? = some (.inr (9, [137, 138, 139, 140, 141, 0, 0, 1])) := rfl
theorem sh_132 : z_sh[132]? = some (.inl (.int, 60)) := rfl
theorem sh_133 : z_sh[133]? = some (.inl (.int, 60)) := rfl
theorem sh_134 : z_sh[134]? = some (.inl (.int, 60)) := rfl
theorem sh_135 : z_sh[135]? = some (.inl (.int, 60)) := rfl
theorem sh_136 : z_sh[136]? = some (.inl (.int, 60)) := rfl
theorem sh_137 : z_sh[137]? = some (.inr (12, [0, 0, 2, 2, 143, 144, 145, 146, 0, 0, 0, 0, 0, 0, 0, 0, 0, 0, 0, 2, 147, 148, 149, 0, 0, 0, 150, 151, 0, 152, 1, 1, 0, 0, 0, 0, 0, 0, 0])) := rfl
theorem sh_138 : z_sh[138]? = some (.inl (.int, 4)) := rfl
theorem sh_139 : z_sh[139]? = some (.inl (.int, 4)) := rfl
theorem sh_140 : z_sh[140]? = some (.inl (.long, 240)) := rfl
theorem sh_141 : z_sh[141]? = some (.inl (.byte, 900)) := rfl
theorem sh_142 : z_sh[142]? = some (.inl (.int, 1875)) := rfl
theorem sh_143 : z_sh[143]? = some (.inl (.int, 103)) := rfl
theorem sh_144 : z_sh[144]? = some (.inl (.long, 6)) := rfl
theorem sh_145 : z_sh[145]? = some (.inl (.int, 8192)) := rfl
theorem sh_146 : z_sh[146]? = some (.inl (.int, 4096)) := rfl
theorem sh_147 : z_sh[147]? = some (.inl (.int, 5)) := rfl
/-- the place of a parish -/
def z_par (p : Nat) : Prop := p = 7 ∨ p = 30 ∨ p = 68 ∨ p = 91 ∨ p = 114
theorem shp_0 {p : Nat} (hp : z_par p) : z_sh[p]? = some (.inr (3, [p + 6, p + 7, p + 13, p + 17, p + 22, 0, 0, 0, 0, 0, 0, 0])) := by rcases hp with rfl | rfl | rfl | rfl | rfl <;> rfl
theorem shp_1 {p : Nat} (hp : z_par p) : z_sh[p + 1]? = some (.inl (.int, 2)) := by rcases hp with rfl | rfl | rfl | rfl | rfl <;> rfl
theorem shp_2 {p : Nat} (hp : z_par p) : z_sh[p + 2]? = some (.inr (6, [p + 8, p + 9, p + 10, p + 11, p + 12, 0])) := by rcases hp with rfl | rfl | rfl | rfl | rfl <;> rfl
theorem shp_3 {p : Nat} (hp : z_par p) : z_sh[p + 3]? = some (.inl (.int, 8)) := by rcases hp with rfl | rfl | rfl | rfl | rfl <;> rfl
theorem shp_4 {p : Nat} (hp : z_par p) : z_sh[p + 4]? = some (.inl (.int, 8)) := by rcases hp with rfl | rfl | rfl | rfl | rfl <;> rfl
theorem shp_5 {p : Nat} (hp : z_par p) : z_sh[p + 5]? = some (.inl (.int, 8)) := by rcases hp with rfl | rfl | rfl | rfl | rfl <;> rfl
theorem shp_6 {p : Nat} (hp : z_par p) : z_sh[p + 6]? = some (.inl (.int, 8)) := by rcases hp with rfl | rfl | rfl | rfl | rfl <;> rfl
theorem shp_7 {p : Nat} (hp : z_par p) : z_sh[p + 7]? = some (.inl (.int, 8)) := by rcases hp with rfl | rfl | rfl | rfl | rfl <;> rfl
theorem shp_8 {p : Nat} (hp : z_par p) : z_sh[p + 8]? = some (.inr (1, [p + 14, p + 15, p + 16, 0, 0])) := by rcases hp with rfl | rfl | rfl | rfl | rfl <;> rfl
theorem shp_9 {p : Nat} (hp : z_par p) : z_sh[p + 9]? = some (.inl (.int, 5)) := by rcases hp with rfl | rfl | rfl | rfl | rfl <;> rfl
theorem shp_10 {p : Nat} (hp : z_par p) : z_sh[p + 10]? = some (.inl (.int, 5)) := by rcases hp with rfl | rfl | rfl | rfl | rfl <;> rfl
theorem shp_11 {p : Nat} (hp : z_par p) : z_sh[p + 11]? = some (.inl (.int, 5)) := by rcases hp with rfl | rfl | rfl | rfl | rfl <;> rfl
theorem shp_12 {p : Nat} (hp : z_par p) : z_sh[p + 12]? = some (.inr (0, [p + 18, p + 19, p + 20, p + 21, 0, 0, 0])) := by rcases hp with rfl | rfl | rfl | rfl | rfl <;> rfl
theorem shp_13 {p : Nat} (hp : z_par p) : z_sh[p + 13]? = some (.inl (.int, 8)) := by rcases hp with rfl | rfl | rfl | rfl | rfl <;> rfl
theorem shp_14 {p : Nat} (hp : z_par p) : z_sh[p + 14]? = some (.inl (.int, 8)) := by rcases hp with rfl | rfl | rfl | rfl | rfl <;> rfl
theorem shp_15 {p : Nat} (hp : z_par p) : z_sh[p + 15]? = some (.inl (.int, 6)) := by rcases hp with rfl | rfl | rfl | rfl | rfl <;> rfl
theorem shp_16 {p : Nat} (hp : z_par p) : z_sh[p + 16]? = some (.inl (.int, 6)) := by rcases hp with rfl | rfl | rfl | rfl | rfl <;> rfl
theorem shp_17 {p : Nat} (hp : z_par p) : z_sh[p + 17]? = some (.inr (9, [p + 23, p + 24, p + 25, p + 26, p + 27, 0, 0, 1])) := by rcases hp with rfl | rfl | rfl | rfl | rfl <;> rfl
theorem shp_18 {p : Nat} (hp : z_par p) : z_sh[p + 18]? = some (.inl (.int, 60)) := by rcases hp with rfl | rfl | rfl | rfl | rfl <;> rfl
theorem shp_19 {p : Nat} (hp : z_par p) : z_sh[p + 19]? = some (.inl (.int, 60)) := by rcases hp with rfl | rfl | rfl | rfl | rfl <;> rfl
theorem shp_20 {p : Nat} (hp : z_par p) : z_sh[p + 20]? = some (.inl (.int, 60)) := by rcases hp with rfl | rfl | rfl | rfl | rfl <;> rfl
theorem shp_21 {p : Nat} (hp : z_par p) : z_sh[p + 21]? = some (.inl (.int, 60)) := by rcases hp with rfl | rfl | rfl | rfl | rfl <;> rfl
theorem shp_22 {p : Nat} (hp : z_par p) : z_sh[p + 22]? = some (.inl (.int, 60)) := by rcases hp with rfl | rfl | rfl | rfl | rfl <;> rfl
theorem f_0_11 : z_fl 0 11 = some (0, 0, 179) := rfl
theorem f_0_15 : z_fl 0 15 = some (0, 1, 181) := rfl
theorem f_0_18 : z_fl 0 18 = some (0, 2, 183) := rfl
theorem f_0_21 : z_fl 0 21 = some (0, 3, 185) := rfl
theorem f_0_24 : z_fl 0 24 = some (0, 4, 187) := rfl
theorem f_0_28 : z_fl 0 28 = some (0, 5, 190) := rfl
theorem f_0_31 : z_fl 0 31 = some (0, 6, 193) := rfl
theorem f_1_9 : z_fl 1 9 = some (1, 0, 146) := rfl
theorem f_1_13 : z_fl 1 13 = some (1, 1, 149) := rfl
theorem f_1_16 : z_fl 1 16 = some (1, 2, 152) := rfl
theorem f_1_19 : z_fl 1 19 = some (1, 3, 154) := rfl
theorem f_1_27 : z_fl 1 27 = some (1, 4, 160) := rfl
theorem f_2_9 : z_fl 2 9 = some (2, 0, 1174) := rfl
theorem f_2_15 : z_fl 2 15 = some (3, 4, 1046) := rfl
theorem f_2_26 : z_fl 2 26 = some (9, 5, 228) := rfl
theorem f_2_30 : z_fl 2 30 = some (2, 7, 1186) := rfl
theorem f_2_33 : z_fl 2 33 = some (9, 0, 218) := rfl
theorem f_2_42 : z_fl 2 42 = some (2, 2, 1176) := rfl
theorem f_2_49 : z_fl 2 49 = some (2, 3, 1178) := rfl
theorem f_2_60 : z_fl 2 60 = some (2, 1, 1175) := rfl
theorem f_2_63 : z_fl 2 63 = some (2, 8, 1188) := rfl
theorem f_2_67 : z_fl 2 67 = some (3, 10, 1062) := rfl
theorem f_2_70 : z_fl 2 70 = some (2, 4, 1180) := rfl
theorem f_2_73 : z_fl 2 73 = some (3, 11, 1065) := rfl
theorem f_2_76 : z_fl 2 76 = some (2, 5, 1182) := rfl
theorem f_2_77 : z_fl 2 77 = some (3, 2, 1038) := rfl
theorem f_2_81 : z_fl 2 81 = some (1, 4, 159) := rfl
theorem f_2_86 : z_fl 2 86 = some (2, 6, 1184) := rfl
theorem f_2_87 : z_fl 2 87 = some (9, 4, 226) := rfl
theorem f_2_93 : z_fl 2 93 = some (9, 1, 220) := rfl
theorem f_2_100 : z_fl 2 100 = some (9, 2, 222) := rfl
theorem f_2_107 : z_fl 2 107 = some (9, 3, 224) := rfl
theorem f_2_125 : z_fl 2 125 = some (3, 5, 1048) := rfl
theorem f_2_129 : z_fl 2 129 = some (3, 8, 1058) := rfl
theorem f_2_135 : z_fl 2 135 = some (3, 0, 1031) := rfl
theorem f_3_9 : z_fl 3 9 = some (3, 0, 1029) := rfl
theorem f_3_18 : z_fl 3 18 = some (3, 1, 1033) := rfl
theorem f_3_25 : z_fl 3 25 = some (3, 2, 1037) := rfl
theorem f_3_32 : z_fl 3 32 = some (3, 3, 1041) := rfl
theorem f_3_39 : z_fl 3 39 = some (3, 4, 1044) := rfl
theorem f_3_46 : z_fl 3 46 = some (6, 5, 123) := rfl
theorem f_3_50 : z_fl 3 50 = some (1, 3, 155) := rfl
theorem f_3_51 : z_fl 3 51 = some (1, 4, 158) := rfl
theorem f_3_56 : z_fl 3 56 = some (3, 5, 1047) := rfl
theorem f_3_59 : z_fl 3 59 = some (3, 6, 1051) := rfl
theorem f_3_62 : z_fl 3 62 = some (3, 7, 1053) := rfl
theorem f_3_65 : z_fl 3 65 = some (3, 10, 1061) := rfl
theorem f_3_68 : z_fl 3 68 = some (3, 11, 1064) := rfl
theorem f_3_75 : z_fl 3 75 = some (3, 8, 1057) := rfl
theorem f_3_78 : z_fl 3 78 = some (3, 9, 1060) := rfl
theorem f_3_85 : z_fl 3 85 = some (6, 0, 106) := rfl
theorem f_3_88 : z_fl 3 88 = some (6, 1, 110) := rfl
theorem f_3_91 : z_fl 3 91 = some (6, 2, 114) := rfl
theorem f_3_102 : z_fl 3 102 = some (6, 3, 118) := rfl
theorem f_3_121 : z_fl 3 121 = some (1, 0, 147) := rfl
theorem f_3_122 : z_fl 3 122 = some (1, 1, 150) := rfl
theorem f_4_11 : z_fl 4 11 = some (4, 2, 1100) := rfl
theorem f_4_17 : z_fl 4 17 = some (4, 3, 1101) := rfl
theorem f_4_20 : z_fl 4 20 = some (4, 0, 1098) := rfl
theorem f_4_24 : z_fl 4 24 = some (4, 1, 1099) := rfl
theorem f_4_33 : z_fl 4 33 = some (4, 4, 1102) := rfl
theorem f_4_43 : z_fl 4 43 = some (7, 3, 59) := rfl
theorem f_4_102 : z_fl 4 102 = some (3, 0, 1030) := rfl
theorem f_4_105 : z_fl 4 105 = some (3, 1, 1035) := rfl
theorem f_4_109 : z_fl 4 109 = some (6, 5, 125) := rfl
theorem f_4_128 : z_fl 4 128 = some (7, 6, 67) := rfl
theorem f_4_131 : z_fl 4 131 = some (3, 2, 1039) := rfl
theorem f_4_135 : z_fl 4 135 = some (1, 3, 156) := rfl
theorem f_4_141 : z_fl 4 141 = some (3, 3, 1042) := rfl
theorem f_4_145 : z_fl 4 145 = some (0, 4, 188) := rfl
theorem f_4_151 : z_fl 4 151 = some (7, 4, 63) := rfl
theorem f_4_154 : z_fl 4 154 = some (7, 5, 65) := rfl
theorem f_4_160 : z_fl 4 160 = some (7, 0, 55) := rfl
theorem f_4_164 : z_fl 4 164 = some (0, 5, 192) := rfl
theorem f_4_174 : z_fl 4 174 = some (0, 6, 195) := rfl
theorem f_5_9 : z_fl 5 9 = some (5, 0, 1149) := rfl
theorem f_5_15 : z_fl 5 15 = some (5, 1, 1150) := rfl
theorem f_5_18 : z_fl 5 18 = some (5, 2, 1151) := rfl
theorem f_5_21 : z_fl 5 21 = some (5, 3, 1152) := rfl
theorem f_5_24 : z_fl 5 24 = some (3, 6, 1050) := rfl
theorem f_5_30 : z_fl 5 30 = some (5, 4, 1153) := rfl
theorem f_5_31 : z_fl 5 31 = some (3, 8, 1056) := rfl
theorem f_5_34 : z_fl 5 34 = some (5, 5, 1154) := rfl
theorem f_5_35 : z_fl 5 35 = some (3, 1, 1034) := rfl
theorem f_5_39 : z_fl 5 39 = some (6, 5, 124) := rfl
theorem f_5_52 : z_fl 5 52 = some (3, 7, 1054) := rfl
theorem f_5_63 : z_fl 5 63 = some (6, 0, 105) := rfl
theorem f_5_66 : z_fl 5 66 = some (6, 1, 109) := rfl
theorem f_5_73 : z_fl 5 73 = some (6, 2, 113) := rfl
theorem f_5_76 : z_fl 5 76 = some (6, 3, 117) := rfl
theorem f_6_9 : z_fl 6 9 = some (6, 0, 104) := rfl
theorem f_6_13 : z_fl 6 13 = some (6, 1, 108) := rfl
theorem f_6_16 : z_fl 6 16 = some (6, 2, 112) := rfl
theorem f_6_19 : z_fl 6 19 = some (6, 3, 116) := rfl
theorem f_6_22 : z_fl 6 22 = some (6, 4, 120) := rfl
theorem f_6_25 : z_fl 6 25 = some (6, 5, 122) := rfl
theorem f_7_11 : z_fl 7 11 = some (7, 0, 54) := rfl
theorem f_7_15 : z_fl 7 15 = some (7, 1, 56) := rfl
theorem f_7_19 : z_fl 7 19 = some (7, 2, 58) := rfl
theorem f_7_22 : z_fl 7 22 = some (7, 5, 64) := rfl
theorem f_7_25 : z_fl 7 25 = some (7, 7, 68) := rfl
theorem f_7_28 : z_fl 7 28 = some (7, 8, 70) := rfl
theorem f_7_34 : z_fl 7 34 = some (7, 4, 62) := rfl
theorem f_7_37 : z_fl 7 37 = some (7, 3, 61) := rfl
theorem f_7_55 : z_fl 7 55 = some (7, 6, 66) := rfl
theorem f_8_11 : z_fl 8 11 = some (8, 0, 35) := rfl
theorem f_8_15 : z_fl 8 15 = some (8, 1, 36) := rfl
theorem f_8_19 : z_fl 8 19 = some (8, 2, 37) := rfl
theorem f_9_9 : z_fl 9 9 = some (9, 0, 217) := rfl
theorem f_9_13 : z_fl 9 13 = some (9, 1, 219) := rfl
theorem f_9_16 : z_fl 9 16 = some (9, 2, 221) := rfl
theorem f_9_19 : z_fl 9 19 = some (9, 3, 223) := rfl
theorem f_9_22 : z_fl 9 22 = some (9, 4, 225) := rfl
theorem f_9_25 : z_fl 9 25 = some (9, 5, 227) := rfl
theorem f_9_29 : z_fl 9 29 = some (9, 6, 230) := rfl
theorem f_9_32 : z_fl 9 32 = some (9, 7, 233) := rfl
theorem f_10_11 : z_fl 10 11 = some (10, 2, 1122) := rfl
theorem f_10_15 : z_fl 10 15 = some (10, 0, 1120) := rfl
theorem f_10_19 : z_fl 10 19 = some (10, 1, 1121) := rfl
theorem f_10_28 : z_fl 10 28 = some (10, 3, 1123) := rfl
theorem f_10_37 : z_fl 10 37 = some (7, 3, 60) := rfl
theorem f_10_51 : z_fl 10 51 = some (9, 7, 234) := rfl
theorem f_10_65 : z_fl 10 65 = some (9, 5, 229) := rfl
theorem f_10_72 : z_fl 10 72 = some (9, 6, 231) := rfl
theorem f_10_75 : z_fl 10 75 = some (10, 4, 1124) := rfl
theorem f_10_78 : z_fl 10 78 = some (10, 5, 1125) := rfl
theorem f_10_81 : z_fl 10 81 = some (10, 6, 1126) := rfl
theorem f_11_10 : z_fl 11 10 = some (11, 0, 1209) := rfl
theorem f_11_19 : z_fl 11 19 = some (11, 1, 1210) := rfl
theorem f_11_26 : z_fl 11 26 = some (11, 2, 1211) := rfl
theorem f_11_30 : z_fl 11 30 = some (11, 3, 1212) := rfl
theorem f_11_38 : z_fl 11 38 = some (11, 4, 1213) := rfl
theorem f_11_44 : z_fl 11 44 = some (3, 4, 1045) := rfl
theorem f_11_51 : z_fl 11 51 = some (11, 5, 1214) := rfl
theorem f_11_55 : z_fl 11 55 = some (11, 6, 1215) := rfl
theorem f_11_62 : z_fl 11 62 = some (11, 7, 1216) := rfl
theorem f_11_69 : z_fl 11 69 = some (11, 8, 1217) := rfl
theorem f_11_73 : z_fl 11 73 = some (11, 9, 1218) := rfl
theorem f_11_76 : z_fl 11 76 = some (11, 13, 1222) := rfl
theorem f_11_80 : z_fl 11 80 = some (11, 15, 1224) := rfl
theorem f_11_84 : z_fl 11 84 = some (11, 11, 1220) := rfl
theorem f_11_87 : z_fl 11 87 = some (11, 12, 1221) := rfl
theorem f_11_124 : z_fl 11 124 = some (8, 2, 38) := rfl
theorem f_11_142 : z_fl 11 142 = some (7, 1, 57) := rfl
theorem f_11_155 : z_fl 11 155 = some (3, 1, 1036) := rfl
theorem f_11_159 : z_fl 11 159 = some (6, 5, 126) := rfl
theorem f_11_173 : z_fl 11 173 = some (9, 6, 232) := rfl
theorem f_11_176 : z_fl 11 176 = some (11, 16, 1225) := rfl
theorem f_11_180 : z_fl 11 180 = some (11, 14, 1223) := rfl
theorem f_11_183 : z_fl 11 183 = some (3, 2, 1040) := rfl
theorem f_11_187 : z_fl 11 187 = some (1, 3, 157) := rfl
theorem f_11_190 : z_fl 11 190 = some (3, 3, 1043) := rfl
theorem f_11_194 : z_fl 11 194 = some (0, 4, 189) := rfl
theorem f_11_199 : z_fl 11 199 = some (0, 5, 191) := rfl
theorem f_11_202 : z_fl 11 202 = some (0, 6, 194) := rfl
theorem f_11_205 : z_fl 11 205 = some (3, 5, 1049) := rfl
theorem f_11_208 : z_fl 11 208 = some (3, 6, 1052) := rfl
theorem f_11_211 : z_fl 11 211 = some (3, 7, 1055) := rfl
theorem f_11_214 : z_fl 11 214 = some (3, 8, 1059) := rfl
theorem f_11_217 : z_fl 11 217 = some (3, 10, 1063) := rfl
theorem f_11_220 : z_fl 11 220 = some (1, 4, 161) := rfl
theorem f_11_223 : z_fl 11 223 = some (3, 11, 1066) := rfl
theorem f_11_229 : z_fl 11 229 = some (3, 0, 1032) := rfl
theorem f_11_235 : z_fl 11 235 = some (6, 0, 107) := rfl
theorem f_11_238 : z_fl 11 238 = some (6, 1, 111) := rfl
theorem f_11_241 : z_fl 11 241 = some (6, 2, 115) := rfl
theorem f_11_244 : z_fl 11 244 = some (6, 3, 119) := rfl
theorem f_11_247 : z_fl 11 247 = some (6, 4, 121) := rfl
theorem f_11_251 : z_fl 11 251 = some (1, 0, 148) := rfl
theorem f_11_252 : z_fl 11 252 = some (1, 1, 151) := rfl
theorem f_11_255 : z_fl 11 255 = some (1, 2, 153) := rfl
theorem f_11_264 : z_fl 11 264 = some (0, 0, 180) := rfl
theorem f_11_267 : z_fl 11 267 = some (0, 1, 182) := rfl
theorem f_11_270 : z_fl 11 270 = some (0, 2, 184) := rfl
theorem f_11_273 : z_fl 11 273 = some (0, 3, 186) := rfl
theorem f_11_375 : z_fl 11 375 = some (9, 7, 235) := rfl
theorem f_11_381 : z_fl 11 381 = some (2, 2, 1177) := rfl
theorem f_11_382 : z_fl 11 382 = some (2, 8, 1189) := rfl
theorem f_11_385 : z_fl 11 385 = some (2, 3, 1179) := rfl
theorem f_11_388 : z_fl 11 388 = some (2, 4, 1181) := rfl
theorem f_11_390 : z_fl 11 390 = some (2, 5, 1183) := rfl
theorem f_11_391 : z_fl 11 391 = some (2, 6, 1185) := rfl
theorem f_11_392 : z_fl 11 392 = some (2, 7, 1187) := rfl
theorem f_11_395 : z_fl 11 395 = some (11, 10, 1219) := rfl
theorem f_11_398 : z_fl 11 398 = some (7, 7, 69) := rfl
theorem f_11_401 : z_fl 11 401 = some (7, 8, 71) := rfl
theorem f_12_7 : z_fl 12 7 = some (12, 3, 5096) := rfl
theorem f_12_13 : z_fl 12 13 = some (12, 4, 5097) := rfl
theorem f_12_17 : z_fl 12 17 = some (12, 5, 5098) := rfl
theorem f_12_20 : z_fl 12 20 = some (12, 6, 5099) := rfl
theorem f_12_24 : z_fl 12 24 = some (12, 7, 5100) := rfl
theorem f_12_28 : z_fl 12 28 = some (12, 10, 5103) := rfl
theorem f_12_32 : z_fl 12 32 = some (12, 11, 5104) := rfl
theorem f_12_35 : z_fl 12 35 = some (12, 20, 5113) := rfl
theorem f_12_38 : z_fl 12 38 = some (12, 21, 5114) := rfl
theorem f_12_41 : z_fl 12 41 = some (12, 22, 5115) := rfl
theorem f_12_44 : z_fl 12 44 = some (12, 26, 5119) := rfl
theorem f_12_47 : z_fl 12 47 = some (12, 27, 5120) := rfl
theorem f_12_50 : z_fl 12 50 = some (12, 29, 5122) := rfl
theorem f_12_57 : z_fl 12 57 = some (12, 1, 5094) := rfl
theorem f_12_60 : z_fl 12 60 = some (12, 0, 5093) := rfl
theorem f_12_63 : z_fl 12 63 = some (12, 2, 5095) := rfl
theorem f_12_100 : z_fl 12 100 = some (12, 9, 5102) := rfl
theorem f_12_103 : z_fl 12 103 = some (12, 16, 5109) := rfl
theorem f_12_106 : z_fl 12 106 = some (12, 15, 5108) := rfl
theorem f_12_112 : z_fl 12 112 = some (12, 14, 5107) := rfl
theorem f_12_118 : z_fl 12 118 = some (12, 19, 5112) := rfl
theorem f_12_125 : z_fl 12 125 = some (12, 18, 5111) := rfl
theorem f_12_131 : z_fl 12 131 = some (12, 17, 5110) := rfl
theorem f_12_212 : z_fl 12 212 = some (12, 12, 5105) := rfl
theorem f_12_215 : z_fl 12 215 = some (12, 13, 5106) := rfl
theorem f_12_238 : z_fl 12 238 = some (12, 8, 5101) := rfl
theorem f_12_244 : z_fl 12 244 = some (12, 24, 5117) := rfl
theorem f_12_322 : z_fl 12 322 = some (12, 25, 5118) := rfl
theorem f_12_465 : z_fl 12 465 = some (12, 28, 5121) := rfl
theorem f_12_472 : z_fl 12 472 = some (12, 32, 5125) := rfl
theorem f_12_489 : z_fl 12 489 = some (12, 33, 5126) := rfl
theorem f_12_492 : z_fl 12 492 = some (12, 31, 5124) := rfl
theorem f_12_496 : z_fl 12 496 = some (12, 38, 5131) := rfl
theorem f_12_499 : z_fl 12 499 = some (12, 34, 5127) := rfl
theorem f_12_514 : z_fl 12 514 = some (12, 35, 5128) := rfl
theorem f_12_517 : z_fl 12 517 = some (12, 36, 5129) := rfl
theorem f_12_520 : z_fl 12 520 = some (12, 37, 5130) := rfl
theorem f_12_528 : z_fl 12 528 = some (12, 30, 5123) := rfl
theorem f_12_531 : z_fl 12 531 = some (12, 23, 5116) := rfl
theorem z_sh_small : z_sh.all (fun s => match s with | .inl q => decide (q.2 < 10000) | .inr _ => true) = true := by decide +kernel
theorem z_sh_lt {a n : Nat} {ty : FieldType} (h : z_sh[a]? = some (.inl (ty, n))) : n < 2 ^ 31 := by
  have h1 := List.all_eq_true.mp z_sh_small _ (List.mem_of_getElem? h)
  have h2 : n < 10000 := of_decide_eq_true h1
  omega
section ZN
variable {X : z_S} {k : Nat} {m : z_M} {pc : Nat} {ls ls' : z_L} {r : List Value} {M : z_Mem} {Q : Option Value → z_Mem → Prop}
theorem g_top {e v : Int32} (h : e = v) (kk : z_G X k m pc ls (.int v :: r) M Q) : z_G X k m pc ls (.int e :: r) M Q := by subst h; exact kk
theorem g_topL {e v : Int64} (h : e = v) (kk : z_G X k m pc ls (.long v :: r) M Q) : z_G X k m pc ls (.long e :: r) M Q := by subst h; exact kk
theorem g_inc (n c : Nat) : nI n + Int32.ofInt (c : Int) = nI (n + c) := by rw [← nI_add]; rfl
theorem g_nadd (a b : Nat) : nI a + nI b = nI (a + b) := nI_add a b
theorem g_nmul (a b : Nat) : nI a * nI b = nI (a * b) := pk_mul a b
theorem g_ialN {a n j : Nat} {i v : Int32} (hd : decode (z_b m) pc = .ok (.iaload, 1)) (hs : z_sh[a]? = some (.inl (.int, n))) (hi : i = nI j) (hj : j < n) (hv : M.1 a j = v) (kk : z_G X k m (pc + 1) ls (.int v :: r) M Q) : z_G X k m pc ls (.int i :: .ref (a + 2) :: r) M Q := by
  subst hi; subst hv
  have hn := z_sh_lt hs
  refine g_iald hd hs (vp_in_nI hj hn) ?_
  rw [nI_clamp (by omega)]
  exact kk
theorem g_balN {a n j : Nat} {i v : Int32} (hd : decode (z_b m) pc = .ok (.baload, 1)) (hs : z_sh[a]? = some (.inl (.byte, n))) (hi : i = nI j) (hj : j < n) (hv : M.1 a j = v) (kk : z_G X k m (pc + 1) ls (.int v :: r) M Q) : z_G X k m pc ls (.int i :: .ref (a + 2) :: r) M Q := by
  subst hi; subst hv
  have hn := z_sh_lt hs
  refine g_bald hd hs (vp_in_nI hj hn) ?_
  rw [nI_clamp (by omega)]
  exact kk
theorem g_lalN {a n j : Nat} {i : Int32} {v : Int64} (hd : decode (z_b m) pc = .ok (.laload, 1)) (hs : z_sh[a]? = some (.inl (.long, n))) (hi : i = nI j) (hj : j < n) (hv : M.2 a j = v) (kk : z_G X k m (pc + 1) ls (.long v :: r) M Q) : z_G X k m pc ls (.int i :: .ref (a + 2) :: r) M Q := by
  subst hi; subst hv
  have hn := z_sh_lt hs
  refine g_lald hd hs (vp_in_nI hj hn) ?_
  rw [nI_clamp (by omega)]
  exact kk
theorem g_iasN {a n j : Nat} {i x : Int32} (hd : decode (z_b m) pc = .ok (.iastore, 1)) (hs : z_sh[a]? = some (.inl (.int, n))) (hi : i = nI j) (hj : j < n) (kk : z_G X k m (pc + 1) ls r (z_wI M a j x) Q) : z_G X k m pc ls (.int x :: .int i :: .ref (a + 2) :: r) M Q := by
  subst hi
  have hn := z_sh_lt hs
  refine g_iast hd hs (vp_in_nI hj hn) ?_
  rw [nI_clamp (by omega)]
  exact kk
theorem g_basN {a n j : Nat} {i x : Int32} (hd : decode (z_b m) pc = .ok (.bastore, 1)) (hs : z_sh[a]? = some (.inl (.byte, n))) (hi : i = nI j) (hj : j < n) (kk : z_G X k m (pc + 1) ls r (z_wI M a j (vp_nar .byte x)) Q) : z_G X k m pc ls (.int x :: .int i :: .ref (a + 2) :: r) M Q := by
  subst hi
  have hn := z_sh_lt hs
  refine g_bast hd hs (vp_in_nI hj hn) ?_
  rw [nI_clamp (by omega)]
  exact kk
theorem g_lasN {a n j : Nat} {i : Int32} {x : Int64} (hd : decode (z_b m) pc = .ok (.lastore, 1)) (hs : z_sh[a]? = some (.inl (.long, n))) (hi : i = nI j) (hj : j < n) (kk : z_G X k m (pc + 1) ls r (z_wL M a j x) Q) : z_G X k m pc ls (.long x :: .int i :: .ref (a + 2) :: r) M Q := by
  subst hi
  have hn := z_sh_lt hs
  refine g_last hd hs (vp_in_nI hj hn) ?_
  rw [nI_clamp (by omega)]
  exact kk
theorem g_scharN {ix p j : Nat} {i : Int32} (hd : decode (z_b m) pc = .ok (.invokevirtual ix, 3)) (hb : z_bk (z_o m) ix = some (3, p)) (hi : i = nI j) (hj : j < 152) (hw : (r.map fun v => v.category).sum ≤ 8) (kk : z_G X k m (pc + 3) ls (.int (z_txt.getD j 0) :: r) M Q) : z_G X k m pc ls (.int i :: .ref 1 :: r) M Q := by
  subst hi
  refine g_schar hd hb (vp_in_nI hj (by omega)) hw ?_
  rw [nI_clamp (by omega)]
  exact kk
theorem g_sldN {L : Nat} {xs : Nat → Int32} {j : Nat} {i : Int32} (hd : decode (z_b m) pc = .ok (.iaload, 1)) (hi : i = nI j) (hj : j < L) (hL : L < 2 ^ 31) (kk : z_G (some (L, xs)) k m (pc + 1) ls (.int (xs j) :: r) M Q) : z_G (some (L, xs)) k m pc ls (.int i :: .ref 0 :: r) M Q := by
  subst hi
  refine g_sld hd (vp_in_nI hj hL) ?_
  rw [nI_clamp (by omega)]
  exact kk
end ZN
/-- true and false as the machine has them -/
def z_tf (p : Prop) [Decidable p] : Int32 := if p then 1 else 0
theorem z_tf0 {p : Prop} [Decidable p] : z_tf p = 0 ↔ ¬ p := by unfold z_tf; split <;> simp [*]
theorem z_tfn {p : Prop} [Decidable p] : ¬ z_tf p = 0 ↔ p := by unfold z_tf; split <;> simp [*]
theorem z_tf_t {p : Prop} [Decidable p] (h : p) : z_tf p = 1 := if_pos h
theorem z_tf_f {p : Prop} [Decidable p] (h : ¬ p) : z_tf p = 0 := if_neg h
theorem z_tf01 {p : Prop} [Decidable p] : z_tf p = 0 ∨ z_tf p = 1 := by unfold z_tf; split <;> simp
theorem z_bz01 {x : Int32} : z_bz x = 0 ∨ z_bz x = 1 := by unfold z_bz; split <;> simp
theorem nb_tf {p : Prop} [Decidable p] : narrow .boolean (.int (z_tf p)) = .int (z_tf p) := by unfold z_tf; split <;> rfl
theorem nb_bz {x : Int32} : narrow .boolean (.int (z_bz x)) = .int (z_bz x) := by unfold z_bz; split <;> rfl
theorem z_tf_congr {p q : Prop} [Decidable p] [Decidable q] (h : p ↔ q) : z_tf p = z_tf q := by unfold z_tf; simp only [h]
