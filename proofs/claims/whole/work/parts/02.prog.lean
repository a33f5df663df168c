/-! THE PROGRAM AS TABLES: methods, links, fields, constants; each entry bears the places of its words in lw_tbl -/
/-- name, bytes, locals, what it returns, its class by number, parameters, places of: code, initialized, instanceMethod or static, selects -/
abbrev z_M : Type := MethodName × ByteArray × Nat × Option FieldType × Nat × Nat × List Nat
abbrev z_y (m : z_M) : MethodName := m.1
abbrev z_b (m : z_M) : ByteArray := m.2.1
abbrev z_x (m : z_M) : Nat := m.2.2.1
abbrev z_r (m : z_M) : Option FieldType := m.2.2.2.1
abbrev z_o (m : z_M) : Nat := m.2.2.2.2.1
abbrev z_n (m : z_M) : Nat := m.2.2.2.2.2.1
abbrev z_p (m : z_M) : List Nat := m.2.2.2.2.2.2
def z_Rs : List String := [RX0, RX1, RX2, RX3, RX4, RX5, RX6, RX7, RX8, RX9, RX10, RX11, RX12, RL, RJ6, RJ9]
def z_R (o : Nat) : String := z_Rs.getD o ""
abbrev z_cl : List vw_C := [(RX0, TX0, 7), (RX1, TX1, 5), (RX2, TX2, 9), (RX3, TX3, 12), (RX4, TX4, 5), (RX5, TX5, 6), (RX6, TX6, 6), (RX7, TX7, 9), (RX8, TX8, 3), (RX9, TX9, 8), (RX10, TX10, 7), (RX11, TX11, 17), (RX12, TX12, 39)]
def z_tys : List (Nat → FieldType) := [tyX0, tyX1, tyX2, tyX3, tyX4, tyX5, tyX6, tyX7, tyX8, tyX9, tyX10, tyX11, tyX12]
def z_ty (c k : Nat) : FieldType := (z_tys.getD c (fun _ => .int)) k
def mX0_init : z_M := (yX0_init, cX0_init, 1, none, 0, 0, [177, 7, 176])
def mX0_beginAnew : z_M := (yX0_beginAnew, cX0_beginAnew, 1, none, 0, 0, [1020, 7, 1018, 1019])
def mX0_addClause : z_M := (yX0_addClause, cX0_addClause, 3, some .boolean, 0, 2, [3054, 7, 3052, 3053])
def mX0_addWitness : z_M := (yX0_addWitness, cX0_addWitness, 3, some .boolean, 0, 2, [3062, 7, 3060, 3061])
def mX0_brokenBy : z_M := (yX0_brokenBy, cX0_brokenBy, 4, some .int, 0, 1, [4193, 7, 4192, 11005])
def mX0_countRulings : z_M := (yX0_countRulings, cX0_countRulings, 3, some .int, 0, 0, [4189, 7, 4187, 4188])
def mX0_findRuling : z_M := (yX0_findRuling, cX0_findRuling, 4, some .int, 0, 1, [4201, 7, 4199, 4200])
def mX0_leastStrike : z_M := (yX0_leastStrike, cX0_leastStrike, 5, some .int, 0, 0, [4209, 7, 4207, 4208])
def mX0_sureTruth : z_M := (yX0_sureTruth, cX0_sureTruth, 5, some .int, 0, 1, [4223, 7, 4221, 4222])
def mX0_copyFrom : z_M := (yX0_copyFrom, cX0_copyFrom, 3, none, 0, 1, [3086, 7, 3084, 3085])
def mX1_init : z_M := (yX1_init, cX1_init, 1, none, 1, 0, [144, 6, 143])
def mX1_isThere : z_M := (yX1_isThere, cX1_isThere, 2, some .boolean, 1, 1, [3169, 6, 3167, 3168])
def mX1_add : z_M := (yX1_add, cX1_add, 4, some .boolean, 1, 3, [3030, 6, 3028, 3029])
def mX1_drop : z_M := (yX1_drop, cX1_drop, 3, none, 1, 1, [4026, 6, 4024, 4025])
def mX1_age : z_M := (yX1_age, cX1_age, 3, none, 1, 0, [3229, 6, 3227, 3228])
def mX1_lapseAll : z_M := (yX1_lapseAll, cX1_lapseAll, 1, none, 1, 0, [4008, 6, 4006, 4007])
def mX1_owedBy : z_M := (yX1_owedBy, cX1_owedBy, 4, some .int, 1, 1, [3177, 6, 3175, 3176])
def mX1_copyFrom : z_M := (yX1_copyFrom, cX1_copyFrom, 3, none, 1, 1, [3078, 6, 3076, 3077])
def mX1_copyOne : z_M := (yX1_copyOne, cX1_copyOne, 4, none, 1, 3, [3082, 6, 3081, 10008])
def mX2_init : z_M := (yX2_init, cX2_init, 1, none, 2, 0, [1172, 12, 1171])
def mX2_run : z_M := (yX2_run, cX2_run, 7, none, 2, 2, [5027, 12, 5025, 5026])
def mX2_begin : z_M := (yX2_begin, cX2_begin, 3, none, 2, 2, [5031, 12, 5030, 11008])
def mX2_finish : z_M := (yX2_finish, cX2_finish, 2, none, 2, 1, [5066, 12, 5065, 11015])
def mX2_behindEnd : z_M := (yX2_behindEnd, cX2_behindEnd, 4, some .int, 2, 2, [5036, 12, 5035, 11009])
def mX2_behindStep : z_M := (yX2_behindStep, cX2_behindStep, 4, some .int, 2, 2, [5057, 12, 5056, 11013])
def mX2_isDone : z_M := (yX2_isDone, cX2_isDone, 5, some .boolean, 2, 2, [5040, 12, 5039, 11010])
def mX2_isAnyDone : z_M := (yX2_isAnyDone, cX2_isAnyDone, 5, some .boolean, 2, 1, [5048, 12, 5047, 11011])
def mX2_drawBy : z_M := (yX2_drawBy, cX2_drawBy, 2, some .int, 2, 1, [5052, 12, 5051, 11012])
def mX2_holds : z_M := (yX2_holds, cX2_holds, 5, some .boolean, 2, 2, [5061, 12, 5060, 11014])
def mX3_init : z_M := (yX3_init, cX3_init, 1, none, 3, 0, [96, 4, 95])
def mX3_beginAnew : z_M := (yX3_beginAnew, cX3_beginAnew, 1, none, 3, 0, [1016, 4, 1014, 1015])
def mX3_lieEver : z_M := (yX3_lieEver, cX3_lieEver, 2, none, 3, 1, [1028, 4, 1026, 1027])
def mX3_setRule : z_M := (yX3_setRule, cX3_setRule, 3, none, 3, 2, [2220, 4, 2218, 2219])
def mX3_bothChests : z_M := (yX3_bothChests, cX3_bothChests, 1, some .int, 3, 0, [3233, 4, 3231, 3232])
def mX3_sideAgo : z_M := (yX3_sideAgo, cX3_sideAgo, 2, some .int, 3, 1, [3185, 4, 3183, 3184])
def mX3_isBearing : z_M := (yX3_isBearing, cX3_isBearing, 3, some .boolean, 3, 1, [3213, 4, 3211, 3212])
def mX3_passMonth : z_M := (yX3_passMonth, cX3_passMonth, 2, none, 3, 0, [3209, 4, 3207, 3208])
def mX3_passMonths : z_M := (yX3_passMonths, cX3_passMonths, 3, some .boolean, 3, 1, [3205, 4, 3203, 3204])
def mX3_carryBy : z_M := (yX3_carryBy, cX3_carryBy, 4, some .boolean, 3, 2, [4004, 4, 4002, 4003])
def mX3_payDebt : z_M := (yX3_payDebt, cX3_payDebt, 4, some .boolean, 3, 1, [4021, 4, 4019, 4020])
def mX3_bring : z_M := (yX3_bring, cX3_bring, 3, none, 3, 2, [3222, 4, 3221, 10015])
def mX3_copyFrom : z_M := (yX3_copyFrom, cX3_copyFrom, 2, none, 3, 1, [3070, 4, 3068, 3069])
def mX4_init : z_M := (yX4_init, cX4_init, 3, none, 4, 2, [1096, 9, 1095])
def mX4_readText : z_M := (yX4_readText, cX4_readText, 4, some .boolean, 4, 1, [2120, 9, 2118, 2119])
def mX4_isFirst : z_M := (yX4_isFirst, cX4_isFirst, 2, some .boolean, 4, 1, [2206, 9, 2205, 9009])
def mX4_hasRoom : z_M := (yX4_hasRoom, cX4_hasRoom, 3, some .boolean, 4, 2, [3006, 9, 3005, 9013])
def mX4_readRule : z_M := (yX4_readRule, cX4_readRule, 4, some .boolean, 4, 1, [2202, 9, 2201, 9008])
def mX4_readLies : z_M := (yX4_readLies, cX4_readLies, 2, some .boolean, 4, 0, [2224, 9, 2223, 9010])
def mX4_readChest : z_M := (yX4_readChest, cX4_readChest, 3, some .boolean, 4, 0, [2237, 9, 2236, 9011])
def mX4_readRight : z_M := (yX4_readRight, cX4_readRight, 6, some .boolean, 4, 0, [3002, 9, 3001, 9012])
def mX4_kindHere : z_M := (yX4_kindHere, cX4_kindHere, 1, some .int, 4, 0, [3010, 9, 3009, 9014])
def mX4_takeMonths : z_M := (yX4_takeMonths, cX4_takeMonths, 4, some .int, 4, 0, [3018, 9, 3017, 9015])
def mX4_readDebt : z_M := (yX4_readDebt, cX4_readDebt, 4, some .boolean, 4, 0, [3026, 9, 3025, 10000])
def mX4_readAsk : z_M := (yX4_readAsk, cX4_readAsk, 2, some .boolean, 4, 0, [3034, 9, 3033, 10001])
def mX4_questionHere : z_M := (yX4_questionHere, cX4_questionHere, 2, some .int, 4, 0, [3038, 9, 3037, 10002])
def mX4_isNameHere : z_M := (yX4_isNameHere, cX4_isNameHere, 3, some .boolean, 4, 1, [3042, 9, 3041, 10003])
def mX4_readClause : z_M := (yX4_readClause, cX4_readClause, 6, some .boolean, 4, 0, [3046, 9, 3045, 10004])
def mX4_takeLiteral : z_M := (yX4_takeLiteral, cX4_takeLiteral, 3, some .int, 4, 1, [3050, 9, 3049, 10005])
def mX4_readWitness : z_M := (yX4_readWitness, cX4_readWitness, 3, some .boolean, 4, 0, [3058, 9, 3057, 10006])
def mX5_init : z_M := (yX5_init, cX5_init, 1, none, 5, 0, [1147, 11, 1146])
def mX5_weigh : z_M := (yX5_weigh, cX5_weigh, 3, none, 5, 1, [4070, 11, 4068, 4069])
def mX5_foughtBy : z_M := (yX5_foughtBy, cX5_foughtBy, 6, some .int, 5, 2, [4086, 11, 4085, 11002])
def mX5_weighRight : z_M := (yX5_weighRight, cX5_weighRight, 7, none, 5, 2, [4074, 11, 4073, 11000])
def mX5_bearingAt : z_M := (yX5_bearingAt, cX5_bearingAt, 3, some .int, 5, 3, [4078, 11, 4077])
def mX5_sumHalf : z_M := (yX5_sumHalf, cX5_sumHalf, 9, none, 5, 3, [4082, 11, 4081, 11001])
def mX5_gainOf : z_M := (yX5_gainOf, cX5_gainOf, 3, some .int, 5, 2, [4090, 11, 4088, 4089])
def mX5_changesOf : z_M := (yX5_changesOf, cX5_changesOf, 2, some .int, 5, 1, [4097, 11, 4096])
def mX5_netOf : z_M := (yX5_netOf, cX5_netOf, 2, some .int, 5, 1, [4111, 11, 4109, 4110])
def mX5_bestWithin : z_M := (yX5_bestWithin, cX5_bestWithin, 5, some .int, 5, 1, [4121, 11, 4119, 4120])
def mX5_isOf : z_M := (yX5_isOf, cX5_isOf, 3, some .boolean, 5, 2, [4130, 11, 4128, 4129])
def mX5_isFair : z_M := (yX5_isFair, cX5_isFair, 3, some .boolean, 5, 1, [4134, 11, 4133, 11003])
def mX5_isTreaty : z_M := (yX5_isTreaty, cX5_isTreaty, 2, some .boolean, 5, 1, [4138, 11, 4137, 11004])
def mX5_countOf : z_M := (yX5_countOf, cX5_countOf, 4, some .int, 5, 1, [4146, 11, 4144, 4145])
def mX5_bestAmong : z_M := (yX5_bestAmong, cX5_bestAmong, 5, some .int, 5, 1, [4155, 11, 4153, 4154])
def mX5_evenPlan : z_M := (yX5_evenPlan, cX5_evenPlan, 5, some .int, 5, 0, [4164, 11, 4162, 4163])
def mX5_greatestWithout : z_M := (yX5_greatestWithout, cX5_greatestWithout, 9, some .int, 5, 2, [4178, 11, 4176, 4177])
def mX5_playedOut : z_M := (yX5_playedOut, cX5_playedOut, 2, some .int, 5, 1, [4231, 11, 4229, 4230])
def mX5_firstMove : z_M := (yX5_firstMove, cX5_firstMove, 6, some .int, 5, 1, [5007, 11, 5005, 5006])
def mX5_bestPlay : z_M := (yX5_bestPlay, cX5_bestPlay, 13, some .int, 5, 7, [4235, 11, 4234])
def mX5_leadOf : z_M := (yX5_leadOf, cX5_leadOf, 4, some .int, 5, 2, [4239, 11, 4238, 11006])
def mX6_init : z_M := (yX6_init, cX6_init, 1, none, 6, 0, [102, 5, 101])
def mX6_isThere : z_M := (yX6_isThere, cX6_isThere, 2, some .boolean, 6, 1, [3161, 5, 3159, 3160])
def mX6_isIn : z_M := (yX6_isIn, cX6_isIn, 3, some .boolean, 6, 2, [3217, 5, 3215, 3216])
def mX6_add : z_M := (yX6_add, cX6_add, 6, some .boolean, 6, 5, [3022, 5, 3020, 3021])
def mX6_awayIn : z_M := (yX6_awayIn, cX6_awayIn, 4, some .int, 6, 1, [4173, 5, 4171, 4172])
def mX6_copyFrom : z_M := (yX6_copyFrom, cX6_copyFrom, 3, none, 6, 1, [3074, 5, 3072, 3073])
def mX7_init : z_M := (yX7_init, cX7_init, 1, none, 7, 0, [52, 3, 51])
def mX7_hasRoom : z_M := (yX7_hasRoom, cX7_hasRoom, 1, some .boolean, 7, 0, [2108, 3, 2106, 2107])
def mX7_put : z_M := (yX7_put, cX7_put, 3, none, 7, 1, [2112, 3, 2110, 2111])
def mX7_open : z_M := (yX7_open, cX7_open, 2, none, 7, 1, [2125, 3, 2123, 2124])
def mX7_advance : z_M := (yX7_advance, cX7_advance, 2, none, 7, 0, [2129, 3, 2127, 2128])
def mX7_isBetween : z_M := (yX7_isBetween, cX7_isBetween, 4, some .boolean, 7, 3, [2133, 3, 2132, 9003])
def mX7_goBehind : z_M := (yX7_goBehind, cX7_goBehind, 3, none, 7, 2, [2137, 3, 2136, 9004])
def mX7_digitsRead : z_M := (yX7_digitsRead, cX7_digitsRead, 3, some .int, 7, 0, [2194, 3, 2193, 9006])
def mX7_signAt : z_M := (yX7_signAt, cX7_signAt, 2, some .int, 7, 1, [2198, 3, 2197, 9007])
def mX7_wordNumber : z_M := (yX7_wordNumber, cX7_wordNumber, 6, some .int, 7, 0, [2141, 3, 2140, 9005])
def mX7_fail : z_M := (yX7_fail, cX7_fail, 2, some .boolean, 7, 1, [2210, 3, 2208, 2209])
def mX7_take : z_M := (yX7_take, cX7_take, 2, some .boolean, 7, 1, [3014, 3, 3012, 3013])
def mX7_takeNumber : z_M := (yX7_takeNumber, cX7_takeNumber, 4, some .int, 7, 2, [2215, 3, 2213, 2214])
def mX7_sideHere : z_M := (yX7_sideHere, cX7_sideHere, 1, some .int, 7, 0, [2232, 3, 2230, 2231])
def mX7_takeSide : z_M := (yX7_takeSide, cX7_takeSide, 2, some .int, 7, 0, [2228, 3, 2226, 2227])
def mX8_init : z_M := (yX8_init, cX8_init, 2, none, 8, 0, [33, 2, 32])
def mX8_isTray : z_M := (yX8_isTray, cX8_isTray, 1, some .boolean, 8, 1, [2039, 2, 2038])
def mX8_isMissing : z_M := (yX8_isMissing, cX8_isMissing, 2, some .boolean, 8, 1, [2064, 2, 2062, 2063])
def mX8_has : z_M := (yX8_has, cX8_has, 4, some .boolean, 8, 3, [2068, 2, 2066, 2067])
def mX8_whyNot : z_M := (yX8_whyNot, cX8_whyNot, 3, some .int, 8, 2, [2059, 2, 2057, 2058])
def mX8_lay : z_M := (yX8_lay, cX8_lay, 5, none, 8, 3, [2047, 2, 2045, 2046])
def mX8_put : z_M := (yX8_put, cX8_put, 5, none, 8, 3, [2072, 2, 2070, 2071])
def mX8_look : z_M := (yX8_look, cX8_look, 3, some .long, 8, 2, [2087, 2, 2085, 2086])
def mX8_move : z_M := (yX8_move, cX8_move, 6, none, 8, 5, [2097, 2, 2095, 2096])
def mX8_cut : z_M := (yX8_cut, cX8_cut, 3, some .long, 8, 2, [2075, 2, 2074])
def mX9_init : z_M := (yX9_init, cX9_init, 1, none, 9, 0, [215, 8, 214])
def mX9_beginAnew : z_M := (yX9_beginAnew, cX9_beginAnew, 1, none, 9, 0, [1024, 8, 1022, 1023])
def mX9_add : z_M := (yX9_add, cX9_add, 5, some .boolean, 9, 4, [3115, 8, 3113, 3114])
def mX9_join : z_M := (yX9_join, cX9_join, 3, none, 9, 2, [3119, 8, 3117, 3118])
def mX9_copyFrom : z_M := (yX9_copyFrom, cX9_copyFrom, 3, none, 9, 1, [3090, 8, 3088, 3089])
def mX10_init : z_M := (yX10_init, cX10_init, 3, none, 10, 2, [1118, 10, 1117])
def mX10_readText : z_M := (yX10_readText, cX10_readText, 4, some .boolean, 10, 1, [3102, 10, 3100, 3101])
def mX10_readEnd : z_M := (yX10_readEnd, cX10_readEnd, 1, some .boolean, 10, 0, [3108, 10, 3107, 10010])
def mX10_readStep : z_M := (yX10_readStep, cX10_readStep, 6, some .boolean, 10, 0, [3123, 10, 3122, 10011])
def mX10_takeNumbers : z_M := (yX10_takeNumbers, cX10_takeNumbers, 2, some .boolean, 10, 1, [3137, 10, 3136, 10014])
def mX10_takeSworn : z_M := (yX10_takeSworn, cX10_takeSworn, 1, some .boolean, 10, 0, [3133, 10, 3132, 10013])
def mX10_takeTest : z_M := (yX10_takeTest, cX10_takeTest, 2, some .boolean, 10, 0, [3127, 10, 3126, 10012])
def mX11_init : z_M := (yX11_init, cX11_init, 2, none, 11, 0, [25, 1, 24])
def mX11_status : z_M := (yX11_status, cX11_status, 1, some .int, 11, 0, [2024, 1, 2022, 2023])
def mX11_top : z_M := (yX11_top, cX11_top, 1, some .long, 11, 0, [2028, 1, 2026, 2027])
def mX11_bottom : z_M := (yX11_bottom, cX11_bottom, 1, some .long, 11, 0, [2032, 1, 2030, 2031])
def mX11_tray : z_M := (yX11_tray, cX11_tray, 4, some .boolean, 11, 3, [2036, 1, 2034, 2035])
def mX11_write : z_M := (yX11_write, cX11_write, 6, some .boolean, 11, 3, [2055, 1, 2053, 2054])
def mX11_read : z_M := (yX11_read, cX11_read, 4, some .long, 11, 2, [2079, 1, 2077, 2078])
def mX11_pour : z_M := (yX11_pour, cX11_pour, 6, some .boolean, 11, 5, [2091, 1, 2089, 2090])
def mX11_feed : z_M := (yX11_feed, cX11_feed, 6, some .int, 11, 5, [2104, 1, 2102, 2103])
def mX11_parish : z_M := (yX11_parish, cX11_parish, 3, some .int, 11, 1, [2116, 1, 2114, 2115])
def mX11_years : z_M := (yX11_years, cX11_years, 3, some .int, 11, 1, [3098, 1, 3096, 3097])
def mX11_fault : z_M := (yX11_fault, cX11_fault, 2, some .int, 11, 1, [3142, 1, 3140, 3141])
def mX11_many : z_M := (yX11_many, cX11_many, 2, some .int, 11, 1, [3146, 1, 3144, 3145])
def mX11_chest : z_M := (yX11_chest, cX11_chest, 2, some .int, 11, 1, [3150, 1, 3148, 3149])
def mX11_right : z_M := (yX11_right, cX11_right, 4, some .int, 11, 2, [3157, 1, 3155, 3156])
def mX11_debt : z_M := (yX11_debt, cX11_debt, 4, some .int, 11, 2, [3165, 1, 3163, 3164])
def mX11_owes : z_M := (yX11_owes, cX11_owes, 2, some .int, 11, 1, [3173, 1, 3171, 3172])
def mX11_layAgo : z_M := (yX11_layAgo, cX11_layAgo, 2, some .int, 11, 1, [3181, 1, 3179, 3180])
def mX11_clause : z_M := (yX11_clause, cX11_clause, 4, some .int, 11, 2, [3189, 1, 3187, 3188])
def mX11_witness : z_M := (yX11_witness, cX11_witness, 4, some .int, 11, 2, [3193, 1, 3191, 3192])
def mX11_copyWorth : z_M := (yX11_copyWorth, cX11_copyWorth, 4, some .int, 11, 1, [3197, 1, 3195, 3196])
def mX11_month : z_M := (yX11_month, cX11_month, 2, some .int, 11, 1, [3201, 1, 3199, 3200])
def mX11_carry : z_M := (yX11_carry, cX11_carry, 3, some .int, 11, 2, [3237, 1, 3235, 3236])
def mX11_swear : z_M := (yX11_swear, cX11_swear, 4, some .int, 11, 3, [4012, 1, 4010, 4011])
def mX11_pay : z_M := (yX11_pay, cX11_pay, 3, some .int, 11, 1, [4017, 1, 4015, 4016])
def mX11_price : z_M := (yX11_price, cX11_price, 4, some .int, 11, 2, [4030, 1, 4028, 4029])
def mX11_grant : z_M := (yX11_grant, cX11_grant, 5, some .boolean, 11, 3, [4034, 1, 4032, 4033])
def mX11_claim : z_M := (yX11_claim, cX11_claim, 8, some .int, 11, 5, [4039, 1, 4037, 4038])
def mX11_rule : z_M := (yX11_rule, cX11_rule, 4, some .boolean, 11, 2, [4047, 1, 4045, 4046])
def mX11_chestIn : z_M := (yX11_chestIn, cX11_chestIn, 4, some .int, 11, 2, [4052, 1, 4050, 4051])
def mX11_tollIn : z_M := (yX11_tollIn, cX11_tollIn, 3, some .int, 11, 0, [4057, 1, 4055, 4056])
def mX11_bears : z_M := (yX11_bears, cX11_bears, 3, some .int, 11, 0, [4061, 1, 4059, 4060])
def mX11_gain : z_M := (yX11_gain, cX11_gain, 3, some .int, 11, 2, [4066, 1, 4064, 4065])
def mX11_changes : z_M := (yX11_changes, cX11_changes, 2, some .int, 11, 1, [4094, 1, 4092, 4093])
def mX11_net : z_M := (yX11_net, cX11_net, 2, some .int, 11, 1, [4107, 1, 4105, 4106])
def mX11_best : z_M := (yX11_best, cX11_best, 2, some .int, 11, 1, [4117, 1, 4115, 4116])
def mX11_isSo : z_M := (yX11_isSo, cX11_isSo, 3, some .int, 11, 2, [4126, 1, 4124, 4125])
def mX11_howMany : z_M := (yX11_howMany, cX11_howMany, 2, some .int, 11, 1, [4142, 1, 4140, 4141])
def mX11_bestOf : z_M := (yX11_bestOf, cX11_bestOf, 3, some .int, 11, 1, [4151, 1, 4149, 4150])
def mX11_even : z_M := (yX11_even, cX11_even, 1, some .int, 11, 0, [4160, 1, 4158, 4159])
def mX11_rent : z_M := (yX11_rent, cX11_rent, 3, some .int, 11, 1, [4169, 1, 4167, 4168])
def mX11_rulings : z_M := (yX11_rulings, cX11_rulings, 1, some .int, 11, 0, [4185, 1, 4183, 4184])
def mX11_rulingAt : z_M := (yX11_rulingAt, cX11_rulingAt, 3, some .int, 11, 1, [4197, 1, 4195, 4196])
def mX11_strike : z_M := (yX11_strike, cX11_strike, 1, some .int, 11, 0, [4205, 1, 4203, 4204])
def mX11_strikeSet : z_M := (yX11_strikeSet, cX11_strikeSet, 1, some .int, 11, 0, [4215, 1, 4213, 4214])
def mX11_sure : z_M := (yX11_sure, cX11_sure, 3, some .int, 11, 1, [4219, 1, 4217, 4218])
def mX11_game : z_M := (yX11_game, cX11_game, 2, some .int, 11, 1, [4227, 1, 4225, 4226])
def mX11_moveOf : z_M := (yX11_moveOf, cX11_moveOf, 3, some .int, 11, 1, [5003, 1, 5001, 5002])
def mX11_whose : z_M := (yX11_whose, cX11_whose, 8, some .boolean, 11, 1, [5011, 1, 5009, 5010])
def mX11_share : z_M := (yX11_share, cX11_share, 2, some .boolean, 11, 1, [5019, 1, 5017, 5018])
def mX11_live : z_M := (yX11_live, cX11_live, 2, some .int, 11, 1, [5023, 1, 5021, 5022])
def mX11_lived : z_M := (yX11_lived, cX11_lived, 2, some .int, 11, 1, [5070, 1, 5068, 5069])
def mX11_mean : z_M := (yX11_mean, cX11_mean, 6, some .boolean, 11, 2, [5074, 1, 5072, 5073])
def mX11_mark : z_M := (yX11_mark, cX11_mark, 1, some .int, 11, 0, [5078, 1, 5076, 5077])
def mX11_back : z_M := (yX11_back, cX11_back, 1, some .int, 11, 0, [5082, 1, 5080, 5081])
def mX11_answer : z_M := (yX11_answer, cX11_answer, 2, some .int, 11, 1, [3094, 1, 3093, 10009])
def mX11_refuse : z_M := (yX11_refuse, cX11_refuse, 2, some .int, 11, 1, [2083, 1, 2082, 9002])
def mX11_allow : z_M := (yX11_allow, cX11_allow, 1, some .boolean, 11, 0, [2051, 1, 2050, 9001])
def mX11_deny : z_M := (yX11_deny, cX11_deny, 2, some .boolean, 11, 1, [2043, 1, 2042, 9000])
def mX11_isSide : z_M := (yX11_isSide, cX11_isSide, 1, some .boolean, 11, 1, [3153, 1, 3152])
def mX11_isPlan : z_M := (yX11_isPlan, cX11_isPlan, 1, some .boolean, 11, 1, [4042, 1, 4041])
def mX11_isWithin : z_M := (yX11_isWithin, cX11_isWithin, 3, some .boolean, 11, 3, [4000, 1, 3239])
def mX11_keepFault : z_M := (yX11_keepFault, cX11_keepFault, 1, none, 11, 0, [3066, 1, 3065, 10007])
def mX11_tellFraction : z_M := (yX11_tellFraction, cX11_tellFraction, 12, some .boolean, 11, 2, [5015, 1, 5014, 11007])
def mX12_init : z_M := (yX12_init, cX12_init, 2, none, 12, 0, [5087, 13, 5086])
def mX12_status : z_M := (yX12_status, cX12_status, 1, some .int, 12, 0, [5214, 13, 5212, 5213])
def mX12_top : z_M := (yX12_top, cX12_top, 1, some .long, 12, 0, [5218, 13, 5216, 5217])
def mX12_bottom : z_M := (yX12_bottom, cX12_bottom, 1, some .long, 12, 0, [5222, 13, 5220, 5221])
def mX12_refuse : z_M := (yX12_refuse, cX12_refuse, 2, some .int, 12, 1, [7038, 13, 7037, 15011])
def mX12_no : z_M := (yX12_no, cX12_no, 2, some .boolean, 12, 1, [5230, 13, 5229, 12001])
def mX12_isIn : z_M := (yX12_isIn, cX12_isIn, 6, some .boolean, 12, 3, [6099, 13, 6098])
def mX12_fraction : z_M := (yX12_fraction, cX12_fraction, 11, some .boolean, 12, 2, [8085, 13, 8084, 17007])
def mX12_cut : z_M := (yX12_cut, cX12_cut, 3, some .long, 12, 2, [6005, 13, 6004])
def mX12_tray : z_M := (yX12_tray, cX12_tray, 5, some .boolean, 12, 3, [5226, 13, 5224, 5225])
def mX12_trayed : z_M := (yX12_trayed, cX12_trayed, 2, some .int, 12, 1, [6002, 13, 6001, 12003])
def mX12_placed : z_M := (yX12_placed, cX12_placed, 4, some .int, 12, 2, [5238, 13, 5237, 12002])
def mX12_write : z_M := (yX12_write, cX12_write, 5, some .boolean, 12, 3, [5234, 13, 5232, 5233])
def mX12_read : z_M := (yX12_read, cX12_read, 3, some .long, 12, 2, [6009, 13, 6007, 6008])
def mX12_pour : z_M := (yX12_pour, cX12_pour, 9, some .boolean, 12, 5, [6014, 13, 6012, 6013])
def mX12_isTray : z_M := (yX12_isTray, cX12_isTray, 2, some .boolean, 12, 1, [7096, 13, 7095, 16000])
def mX12_has : z_M := (yX12_has, cX12_has, 2, some .boolean, 12, 2, [6080, 13, 6079])
def mX12_sizeOf : z_M := (yX12_sizeOf, cX12_sizeOf, 3, some .int, 12, 1, [8057, 13, 8056])
def mX12_look2 : z_M := (yX12_look2, cX12_look2, 2, some .int, 12, 1, [6042, 13, 6041, 12007])
def mX12_isLetter : z_M := (yX12_isLetter, cX12_isLetter, 1, some .boolean, 12, 1, [6045, 13, 6044])
def mX12_isDigit : z_M := (yX12_isDigit, cX12_isDigit, 1, some .boolean, 12, 1, [6050, 13, 6049])
def mX12_isSignByte : z_M := (yX12_isSignByte, cX12_isSignByte, 2, some .boolean, 12, 1, [6054, 13, 6053, 12008])
def mX12_advance : z_M := (yX12_advance, cX12_advance, 2, none, 12, 0, [6038, 13, 6037, 12006])
def mX12_isSign : z_M := (yX12_isSign, cX12_isSign, 2, some .boolean, 12, 1, [7006, 13, 7005, 15005])
def mX12_spelled : z_M := (yX12_spelled, cX12_spelled, 8, some .long, 12, 6, [6065, 13, 6064])
def mX12_isWord : z_M := (yX12_isWord, cX12_isWord, 3, some .boolean, 12, 1, [6069, 13, 6068, 12011])
def mX12_isOdds : z_M := (yX12_isOdds, cX12_isOdds, 1, some .boolean, 12, 0, [6062, 13, 6061, 12010])
def mX12_isToll : z_M := (yX12_isToll, cX12_isToll, 1, some .boolean, 12, 0, [6103, 13, 6102, 13002])
def mX12_isWar : z_M := (yX12_isWar, cX12_isWar, 1, some .boolean, 12, 0, [6107, 13, 6106, 13003])
def mX12_isLies : z_M := (yX12_isLies, cX12_isLies, 1, some .boolean, 12, 0, [6111, 13, 6110, 13004])
def mX12_isChest : z_M := (yX12_isChest, cX12_isChest, 1, some .boolean, 12, 0, [6128, 13, 6127, 13008])
def mX12_isRight : z_M := (yX12_isRight, cX12_isRight, 1, some .boolean, 12, 0, [6136, 13, 6135, 13010])
def mX12_isWorth : z_M := (yX12_isWorth, cX12_isWorth, 1, some .boolean, 12, 0, [6152, 13, 6151, 13014])
def mX12_isInWord : z_M := (yX12_isInWord, cX12_isInWord, 1, some .boolean, 12, 0, [6160, 13, 6159, 14000])
def mX12_isDebt : z_M := (yX12_isDebt, cX12_isDebt, 1, some .boolean, 12, 0, [6169, 13, 6168, 14002])
def mX12_isSum : z_M := (yX12_isSum, cX12_isSum, 1, some .boolean, 12, 0, [6177, 13, 6176, 14004])
def mX12_isLeft : z_M := (yX12_isLeft, cX12_isLeft, 1, some .boolean, 12, 0, [6181, 13, 6180, 14005])
def mX12_isAsk : z_M := (yX12_isAsk, cX12_isAsk, 1, some .boolean, 12, 0, [6189, 13, 6188, 14007])
def mX12_isClause : z_M := (yX12_isClause, cX12_isClause, 1, some .boolean, 12, 0, [6205, 13, 6204, 14011])
def mX12_isNot : z_M := (yX12_isNot, cX12_isNot, 1, some .boolean, 12, 0, [6209, 13, 6208, 14012])
def mX12_isWitness : z_M := (yX12_isWitness, cX12_isWitness, 1, some .boolean, 12, 0, [6213, 13, 6212, 14013])
def mX12_sideWord : z_M := (yX12_sideWord, cX12_sideWord, 1, some .int, 12, 0, [6123, 13, 6122, 13007])
def mX12_kindWord : z_M := (yX12_kindWord, cX12_kindWord, 1, some .int, 12, 0, [6148, 13, 6147, 13013])
def mX12_stepWord : z_M := (yX12_stepWord, cX12_stepWord, 1, some .int, 12, 0, [6222, 13, 6221, 14015])
def mX12_testWord : z_M := (yX12_testWord, cX12_testWord, 1, some .int, 12, 0, [6226, 13, 6225, 15000])
def mX12_isEnd : z_M := (yX12_isEnd, cX12_isEnd, 1, some .boolean, 12, 0, [6218, 13, 6217, 14014])
def mX12_isKept : z_M := (yX12_isKept, cX12_isKept, 1, some .boolean, 12, 0, [6201, 13, 6200, 14010])
def mX12_isName : z_M := (yX12_isName, cX12_isName, 1, some .boolean, 12, 0, [6197, 13, 6196, 14009])
def mX12_fail : z_M := (yX12_fail, cX12_fail, 3, none, 12, 2, [6084, 13, 6083, 12014])
def mX12_amiss : z_M := (yX12_amiss, cX12_amiss, 1, none, 12, 0, [6092, 13, 6091, 13000])
def mX12_must : z_M := (yX12_must, cX12_must, 2, none, 12, 1, [6088, 13, 6087, 12015])
def mX12_count : z_M := (yX12_count, cX12_count, 4, some .int, 12, 2, [6096, 13, 6095, 13001])
def mX12_behindWord : z_M := (yX12_behindWord, cX12_behindWord, 4, some .int, 12, 3, [6156, 13, 6155, 13015])
def mX12_readSide : z_M := (yX12_readSide, cX12_readSide, 2, some .int, 12, 0, [6119, 13, 6118, 13006])
def mX12_feed : z_M := (yX12_feed, cX12_feed, 6, some .int, 12, 5, [6018, 13, 6016, 6017])
def mX12_lay : z_M := (yX12_lay, cX12_lay, 3, none, 12, 1, [6022, 13, 6021, 12004])
def mX12_starts : z_M := (yX12_starts, cX12_starts, 3, some .boolean, 12, 2, [6034, 13, 6033, 12005])
def mX12_isWell : z_M := (yX12_isWell, cX12_isWell, 1, some .boolean, 12, 0, [7010, 13, 7009, 15006])
def mX12_fault : z_M := (yX12_fault, cX12_fault, 2, some .int, 12, 1, [6026, 13, 6024, 6025])
def mX12_empties : z_M := (yX12_empties, cX12_empties, 4, none, 12, 1, [5092, 13, 5091, 12000])
def mX12_named : z_M := (yX12_named, cX12_named, 2, some .int, 12, 0, [6230, 13, 6229, 15001])
def mX12_once : z_M := (yX12_once, cX12_once, 2, none, 12, 1, [6077, 13, 6076, 12013])
def mX12_readOnce : z_M := (yX12_readOnce, cX12_readOnce, 4, none, 12, 2, [6073, 13, 6072, 12012])
def mX12_readLies : z_M := (yX12_readLies, cX12_readLies, 3, none, 12, 0, [6115, 13, 6114, 13005])
def mX12_readChest : z_M := (yX12_readChest, cX12_readChest, 3, none, 12, 0, [6132, 13, 6131, 13009])
def mX12_another : z_M := (yX12_another, cX12_another, 4, some .int, 12, 2, [6144, 13, 6143, 13012])
def mX12_readRight : z_M := (yX12_readRight, cX12_readRight, 8, none, 12, 0, [6140, 13, 6139, 13011])
def mX12_grants : z_M := (yX12_grants, cX12_grants, 9, none, 12, 7, [6165, 13, 6164, 14001])
def mX12_swears : z_M := (yX12_swears, cX12_swears, 7, none, 12, 4, [6185, 13, 6184, 14006])
def mX12_readDebt : z_M := (yX12_readDebt, cX12_readDebt, 4, none, 12, 0, [6173, 13, 6172, 14003])
def mX12_readAsk : z_M := (yX12_readAsk, cX12_readAsk, 2, none, 12, 0, [6193, 13, 6192, 14008])
def mX12_readLiteral : z_M := (yX12_readLiteral, cX12_readLiteral, 4, some .int, 12, 1, [6238, 13, 6237, 15003])
def mX12_readClause : z_M := (yX12_readClause, cX12_readClause, 4, none, 12, 0, [6234, 13, 6233, 15002])
def mX12_readWitness : z_M := (yX12_readWitness, cX12_readWitness, 4, none, 12, 0, [7002, 13, 7001, 15004])
def mX12_readPart : z_M := (yX12_readPart, cX12_readPart, 1, none, 12, 0, [6058, 13, 6057, 12009])
def mX12_parish : z_M := (yX12_parish, cX12_parish, 2, some .int, 12, 1, [6030, 13, 6028, 6029])
def mX12_readTest : z_M := (yX12_readTest, cX12_readTest, 3, none, 12, 1, [7030, 13, 7029, 15010])
def mX12_readRest : z_M := (yX12_readRest, cX12_readRest, 3, none, 12, 1, [7026, 13, 7025, 15009])
def mX12_readStep : z_M := (yX12_readStep, cX12_readStep, 5, none, 12, 1, [7022, 13, 7021, 15008])
def mX12_years : z_M := (yX12_years, cX12_years, 3, some .int, 12, 1, [7018, 13, 7016, 7017])
def mX12_isSideAt : z_M := (yX12_isSideAt, cX12_isSideAt, 1, some .boolean, 12, 1, [7045, 13, 7044])
def mX12_isRightAt : z_M := (yX12_isRightAt, cX12_isRightAt, 2, some .boolean, 12, 1, [7053, 13, 7052, 15012])
def mX12_isDebtAt : z_M := (yX12_isDebtAt, cX12_isDebtAt, 2, some .boolean, 12, 1, [7062, 13, 7061, 15013])
def mX12_isPlan : z_M := (yX12_isPlan, cX12_isPlan, 1, some .boolean, 12, 1, [7170, 13, 7169])
def mX12_bothChests : z_M := (yX12_bothChests, cX12_bothChests, 1, some .int, 12, 0, [7128, 13, 7127, 16006])
def mX12_many : z_M := (yX12_many, cX12_many, 2, some .int, 12, 1, [7034, 13, 7032, 7033])
def mX12_chest : z_M := (yX12_chest, cX12_chest, 2, some .int, 12, 1, [7042, 13, 7040, 7041])
def mX12_right : z_M := (yX12_right, cX12_right, 3, some .int, 12, 2, [7049, 13, 7047, 7048])
def mX12_debt : z_M := (yX12_debt, cX12_debt, 3, some .int, 12, 2, [7058, 13, 7056, 7057])
def mX12_owed : z_M := (yX12_owed, cX12_owed, 4, some .int, 12, 1, [7071, 13, 7070, 15014])
def mX12_owes : z_M := (yX12_owes, cX12_owes, 2, some .int, 12, 1, [7067, 13, 7065, 7066])
def mX12_layOf : z_M := (yX12_layOf, cX12_layOf, 2, some .int, 12, 1, [7080, 13, 7079, 15015])
def mX12_layAgo : z_M := (yX12_layAgo, cX12_layAgo, 2, some .int, 12, 1, [7075, 13, 7073, 7074])
def mX12_clause : z_M := (yX12_clause, cX12_clause, 3, some .int, 12, 2, [7084, 13, 7082, 7083])
def mX12_witness : z_M := (yX12_witness, cX12_witness, 3, some .int, 12, 2, [7088, 13, 7086, 7087])
def mX12_copyWorth : z_M := (yX12_copyWorth, cX12_copyWorth, 3, some .int, 12, 1, [7092, 13, 7090, 7091])
def mX12_isBorne : z_M := (yX12_isBorne, cX12_isBorne, 3, some .boolean, 12, 1, [7115, 13, 7114, 16003])
def mX12_borne : z_M := (yX12_borne, cX12_borne, 3, some .int, 12, 0, [7111, 13, 7110, 16002])
def mX12_dropDebt : z_M := (yX12_dropDebt, cX12_dropDebt, 3, none, 12, 1, [7124, 13, 7123, 16005])
def mX12_brings : z_M := (yX12_brings, cX12_brings, 3, none, 12, 2, [7119, 13, 7118, 16004])
def mX12_passes : z_M := (yX12_passes, cX12_passes, 3, none, 12, 0, [7107, 13, 7106, 16001])
def mX12_month : z_M := (yX12_month, cX12_month, 3, some .int, 12, 1, [7102, 13, 7100, 7101])
def mX12_hasToll : z_M := (yX12_hasToll, cX12_hasToll, 1, some .boolean, 12, 0, [7141, 13, 7140, 16008])
def mX12_carries : z_M := (yX12_carries, cX12_carries, 3, some .boolean, 12, 2, [7137, 13, 7136, 16007])
def mX12_carry : z_M := (yX12_carry, cX12_carry, 3, some .int, 12, 2, [7132, 13, 7130, 7131])
def mX12_swear : z_M := (yX12_swear, cX12_swear, 4, some .int, 12, 3, [7145, 13, 7143, 7144])
def mX12_pays : z_M := (yX12_pays, cX12_pays, 4, some .boolean, 12, 1, [7154, 13, 7153, 16009])
def mX12_pay : z_M := (yX12_pay, cX12_pay, 3, some .int, 12, 1, [7150, 13, 7148, 7149])
def mX12_price : z_M := (yX12_price, cX12_price, 4, some .int, 12, 2, [7158, 13, 7156, 7157])
def mX12_grant : z_M := (yX12_grant, cX12_grant, 4, some .boolean, 12, 3, [7163, 13, 7161, 7162])
def mX12_claim : z_M := (yX12_claim, cX12_claim, 7, some .int, 12, 5, [7167, 13, 7165, 7166])
def mX12_rule : z_M := (yX12_rule, cX12_rule, 3, some .boolean, 12, 2, [7175, 13, 7173, 7174])
def mX12_keeps : z_M := (yX12_keeps, cX12_keeps, 2, none, 12, 0, [7187, 13, 7186, 16010])
def mX12_restores : z_M := (yX12_restores, cX12_restores, 2, none, 12, 0, [7191, 13, 7190, 16011])
def mX12_chestIn : z_M := (yX12_chestIn, cX12_chestIn, 4, some .int, 12, 2, [7182, 13, 7180, 7181])
def mX12_tollIn : z_M := (yX12_tollIn, cX12_tollIn, 3, some .int, 12, 0, [7195, 13, 7193, 7194])
def mX12_bears : z_M := (yX12_bears, cX12_bears, 1, some .int, 12, 0, [7199, 13, 7197, 7198])
def mX12_lyingBy : z_M := (yX12_lyingBy, cX12_lyingBy, 3, some .int, 12, 3, [7210, 13, 7209])
def mX12_gainOf : z_M := (yX12_gainOf, cX12_gainOf, 8, some .int, 12, 3, [7207, 13, 7206, 16012])
def mX12_changesOf : z_M := (yX12_changesOf, cX12_changesOf, 5, some .int, 12, 2, [7217, 13, 7216])
def mX12_laysPlans : z_M := (yX12_laysPlans, cX12_laysPlans, 3, none, 12, 1, [7230, 13, 7229, 16013])
def mX12_gain : z_M := (yX12_gain, cX12_gain, 3, some .int, 12, 2, [7203, 13, 7201, 7202])
def mX12_changes : z_M := (yX12_changes, cX12_changes, 2, some .int, 12, 1, [7214, 13, 7212, 7213])
def mX12_net : z_M := (yX12_net, cX12_net, 2, some .int, 12, 1, [7221, 13, 7219, 7220])
def mX12_best : z_M := (yX12_best, cX12_best, 4, some .int, 12, 1, [7225, 13, 7223, 7224])
def mX12_isFair : z_M := (yX12_isFair, cX12_isFair, 3, some .boolean, 12, 1, [8002, 13, 8001, 16015])
def mX12_isTreaty : z_M := (yX12_isTreaty, cX12_isTreaty, 4, some .boolean, 12, 1, [8006, 13, 8005, 17000])
def mX12_isSuch : z_M := (yX12_isSuch, cX12_isSuch, 3, some .boolean, 12, 2, [7238, 13, 7237, 16014])
def mX12_isSo : z_M := (yX12_isSo, cX12_isSo, 3, some .int, 12, 2, [7234, 13, 7232, 7233])
def mX12_howMany : z_M := (yX12_howMany, cX12_howMany, 4, some .int, 12, 1, [8010, 13, 8008, 8009])
def mX12_bestOf : z_M := (yX12_bestOf, cX12_bestOf, 4, some .int, 12, 1, [8014, 13, 8012, 8013])
def mX12_lesser : z_M := (yX12_lesser, cX12_lesser, 2, some .int, 12, 1, [8022, 13, 8021, 17001])
def mX12_even : z_M := (yX12_even, cX12_even, 3, some .int, 12, 0, [8018, 13, 8016, 8017])
def mX12_greatestNet : z_M := (yX12_greatestNet, cX12_greatestNet, 4, some .int, 12, 1, [8030, 13, 8029, 17002])
def mX12_rent : z_M := (yX12_rent, cX12_rent, 3, some .int, 12, 1, [8026, 13, 8024, 8025])
def mX12_allQuestions : z_M := (yX12_allQuestions, cX12_allQuestions, 1, some .int, 12, 0, [8038, 13, 8037, 17003])
def mX12_brokenBy : z_M := (yX12_brokenBy, cX12_brokenBy, 4, some .int, 12, 1, [8042, 13, 8041, 17004])
def mX12_rulings : z_M := (yX12_rulings, cX12_rulings, 3, some .int, 12, 0, [8034, 13, 8032, 8033])
def mX12_rulingAt : z_M := (yX12_rulingAt, cX12_rulingAt, 4, some .int, 12, 1, [8046, 13, 8044, 8045])
def mX12_striking : z_M := (yX12_striking, cX12_striking, 4, some .int, 12, 0, [8054, 13, 8053, 17005])
def mX12_strike : z_M := (yX12_strike, cX12_strike, 1, some .int, 12, 0, [8050, 13, 8048, 8049])
def mX12_strikeSet : z_M := (yX12_strikeSet, cX12_strikeSet, 1, some .int, 12, 0, [8061, 13, 8059, 8060])
def mX12_sure : z_M := (yX12_sure, cX12_sure, 5, some .int, 12, 1, [8065, 13, 8063, 8064])
def mX12_plays : z_M := (yX12_plays, cX12_plays, 11, some .int, 12, 4, [8073, 13, 8072, 17006])
def mX12_game : z_M := (yX12_game, cX12_game, 2, some .int, 12, 1, [8069, 13, 8067, 8068])
def mX12_moveOf : z_M := (yX12_moveOf, cX12_moveOf, 2, some .int, 12, 1, [8077, 13, 8075, 8076])
def mX12_whose : z_M := (yX12_whose, cX12_whose, 7, some .boolean, 12, 1, [8081, 13, 8079, 8080])
def mX12_share : z_M := (yX12_share, cX12_share, 2, some .boolean, 12, 1, [8092, 13, 8090, 8091])
def mX12_draw : z_M := (yX12_draw, cX12_draw, 2, some .int, 12, 1, [8129, 13, 8128, 17015])
def mX12_pass : z_M := (yX12_pass, cX12_pass, 3, some .boolean, 12, 1, [8117, 13, 8116, 17012])
def mX12_isAny : z_M := (yX12_isAny, cX12_isAny, 3, some .boolean, 12, 0, [8125, 13, 8124, 17014])
def mX12_isSworn : z_M := (yX12_isSworn, cX12_isSworn, 4, some .boolean, 12, 3, [8121, 13, 8120, 17013])
def mX12_does : z_M := (yX12_does, cX12_does, 4, some .boolean, 12, 1, [8113, 13, 8112, 17011])
def mX12_holds : z_M := (yX12_holds, cX12_holds, 5, some .boolean, 12, 1, [8134, 13, 8133, 18000])
def mX12_doOne : z_M := (yX12_doOne, cX12_doOne, 5, none, 12, 1, [8109, 13, 8108, 17010])
def mX12_doAll : z_M := (yX12_doAll, cX12_doAll, 4, none, 12, 2, [8105, 13, 8104, 17009])
def mX12_runsYears : z_M := (yX12_runsYears, cX12_runsYears, 2, none, 12, 1, [8101, 13, 8100, 17008])
def mX12_live : z_M := (yX12_live, cX12_live, 2, some .int, 12, 1, [8096, 13, 8094, 8095])
def mX12_lived : z_M := (yX12_lived, cX12_lived, 2, some .int, 12, 1, [8138, 13, 8136, 8137])
def mX12_mean : z_M := (yX12_mean, cX12_mean, 6, some .boolean, 12, 2, [8142, 13, 8140, 8141])
def mX12_copy : z_M := (yX12_copy, cX12_copy, 4, none, 12, 2, [7014, 13, 7013, 15007])
def mX12_mark : z_M := (yX12_mark, cX12_mark, 1, some .int, 12, 0, [8146, 13, 8144, 8145])
def mX12_back : z_M := (yX12_back, cX12_back, 1, some .int, 12, 0, [8150, 13, 8148, 8149])
def mJ6_bitCount_0f7a4 : z_M := (yJ6_bitCount_0f7a4, cJ6_bitCount_0f7a4, 1, some .int, 14, 1, [4100, 20, 4099])
def mL_law : z_M := (yL_law, cL_law, 4, some .boolean, 13, 1, [0, 0])
def z_all : List z_M := [mX0_init, mX0_beginAnew, mX0_addClause, mX0_addWitness, mX0_brokenBy, mX0_countRulings, mX0_findRuling, mX0_leastStrike, mX0_sureTruth, mX0_copyFrom, mX1_init, mX1_isThere, mX1_add, mX1_drop, mX1_age, mX1_lapseAll, mX1_owedBy, mX1_copyFrom, mX1_copyOne, mX2_init, mX2_run, mX2_begin, mX2_finish, mX2_behindEnd, mX2_behindStep, mX2_isDone, mX2_isAnyDone, mX2_drawBy, mX2_holds, mX3_init, mX3_beginAnew, mX3_lieEver, mX3_setRule, mX3_bothChests, mX3_sideAgo, mX3_isBearing, mX3_passMonth, mX3_passMonths, mX3_carryBy, mX3_payDebt, mX3_bring, mX3_copyFrom, mX4_init, mX4_readText, mX4_isFirst, mX4_hasRoom, mX4_readRule, mX4_readLies, mX4_readChest, mX4_readRight, mX4_kindHere, mX4_takeMonths, mX4_readDebt, mX4_readAsk, mX4_questionHere, mX4_isNameHere, mX4_readClause, mX4_takeLiteral, mX4_readWitness, mX5_init, mX5_weigh, mX5_foughtBy, mX5_weighRight, mX5_bearingAt, mX5_sumHalf, mX5_gainOf, mX5_changesOf, mX5_netOf, mX5_bestWithin, mX5_isOf, mX5_isFair, mX5_isTreaty, mX5_countOf, mX5_bestAmong, mX5_evenPlan, mX5_greatestWithout, mX5_playedOut, mX5_firstMove, mX5_bestPlay, mX5_leadOf, mX6_init, mX6_isThere, mX6_isIn, mX6_add, mX6_awayIn, mX6_copyFrom, mX7_init, mX7_hasRoom, mX7_put, mX7_open, mX7_advance, mX7_isBetween, mX7_goBehind, mX7_digitsRead, mX7_signAt, mX7_wordNumber, mX7_fail, mX7_take, mX7_takeNumber, mX7_sideHere, mX7_takeSide, mX8_init, mX8_isTray, mX8_isMissing, mX8_has, mX8_whyNot, mX8_lay, mX8_put, mX8_look, mX8_move, mX8_cut, mX9_init, mX9_beginAnew, mX9_add, mX9_join, mX9_copyFrom, mX10_init, mX10_readText, mX10_readEnd, mX10_readStep, mX10_takeNumbers, mX10_takeSworn, mX10_takeTest, mX11_init, mX11_status, mX11_top, mX11_bottom, mX11_tray, mX11_write, mX11_read, mX11_pour, mX11_feed, mX11_parish, mX11_years, mX11_fault, mX11_many, mX11_chest, mX11_right, mX11_debt, mX11_owes, mX11_layAgo, mX11_clause, mX11_witness, mX11_copyWorth, mX11_month, mX11_carry, mX11_swear, mX11_pay, mX11_price, mX11_grant, mX11_claim, mX11_rule, mX11_chestIn, mX11_tollIn, mX11_bears, mX11_gain, mX11_changes, mX11_net, mX11_best, mX11_isSo, mX11_howMany, mX11_bestOf, mX11_even, mX11_rent, mX11_rulings, mX11_rulingAt, mX11_strike, mX11_strikeSet, mX11_sure, mX11_game, mX11_moveOf, mX11_whose, mX11_share, mX11_live, mX11_lived, mX11_mean, mX11_mark, mX11_back, mX11_answer, mX11_refuse, mX11_allow, mX11_deny, mX11_isSide, mX11_isPlan, mX11_isWithin, mX11_keepFault, mX11_tellFraction, mX12_init, mX12_status, mX12_top, mX12_bottom, mX12_refuse, mX12_no, mX12_isIn, mX12_fraction, mX12_cut, mX12_tray, mX12_trayed, mX12_placed, mX12_write, mX12_read, mX12_pour, mX12_isTray, mX12_has, mX12_sizeOf, mX12_look2, mX12_isLetter, mX12_isDigit, mX12_isSignByte, mX12_advance, mX12_isSign, mX12_spelled, mX12_isWord, mX12_isOdds, mX12_isToll, mX12_isWar, mX12_isLies, mX12_isChest, mX12_isRight, mX12_isWorth, mX12_isInWord, mX12_isDebt, mX12_isSum, mX12_isLeft, mX12_isAsk, mX12_isClause, mX12_isNot, mX12_isWitness, mX12_sideWord, mX12_kindWord, mX12_stepWord, mX12_testWord, mX12_isEnd, mX12_isKept, mX12_isName, mX12_fail, mX12_amiss, mX12_must, mX12_count, mX12_behindWord, mX12_readSide, mX12_feed, mX12_lay, mX12_starts, mX12_isWell, mX12_fault, mX12_empties, mX12_named, mX12_once, mX12_readOnce, mX12_readLies, mX12_readChest, mX12_another, mX12_readRight, mX12_grants, mX12_swears, mX12_readDebt, mX12_readAsk, mX12_readLiteral, mX12_readClause, mX12_readWitness, mX12_readPart, mX12_parish, mX12_readTest, mX12_readRest, mX12_readStep, mX12_years, mX12_isSideAt, mX12_isRightAt, mX12_isDebtAt, mX12_isPlan, mX12_bothChests, mX12_many, mX12_chest, mX12_right, mX12_debt, mX12_owed, mX12_owes, mX12_layOf, mX12_layAgo, mX12_clause, mX12_witness, mX12_copyWorth, mX12_isBorne, mX12_borne, mX12_dropDebt, mX12_brings, mX12_passes, mX12_month, mX12_hasToll, mX12_carries, mX12_carry, mX12_swear, mX12_pays, mX12_pay, mX12_price, mX12_grant, mX12_claim, mX12_rule, mX12_keeps, mX12_restores, mX12_chestIn, mX12_tollIn, mX12_bears, mX12_lyingBy, mX12_gainOf, mX12_changesOf, mX12_laysPlans, mX12_gain, mX12_changes, mX12_net, mX12_best, mX12_isFair, mX12_isTreaty, mX12_isSuch, mX12_isSo, mX12_howMany, mX12_bestOf, mX12_lesser, mX12_even, mX12_greatestNet, mX12_rent, mX12_allQuestions, mX12_brokenBy, mX12_rulings, mX12_rulingAt, mX12_striking, mX12_strike, mX12_strikeSet, mX12_sure, mX12_plays, mX12_game, mX12_moveOf, mX12_whose, mX12_share, mX12_draw, mX12_pass, mX12_isAny, mX12_isSworn, mX12_does, mX12_holds, mX12_doOne, mX12_doAll, mX12_runsYears, mX12_live, mX12_lived, mX12_mean, mX12_copy, mX12_mark, mX12_back, mJ6_bitCount_0f7a4]
def z_ms (j : Nat) : z_M := z_all.getD j mL_law
def z_lk0 : List (Nat × Nat × Nat × Nat) := [(34, 0, 4, 4190), (38, 3, 350, 4210)]
def z_lk1 : List (Nat × Nat × Nat × Nat) := [(23, 0, 18, 3079)]
def z_lk2 : List (Nat × Nat × Nat × Nat) := [(21, 0, 21, 5028), (38, 0, 23, 5033), (45, 0, 25, 5037), (52, 0, 24, 5054), (56, 0, 22, 5063), (90, 0, 28, 5058), (96, 0, 37, 5041), (103, 0, 38, 5042), (110, 0, 12, 5043), (114, 0, 39, 5044), (117, 0, 26, 5045), (121, 0, 27, 5049), (132, 0, 16, 5062)]
def z_lk3 : List (Nat × Nat × Nat × Nat) := [(17, 2, 80, 100), (24, 2, 10, 142), (31, 2, 0, 175), (38, 2, 111, 213), (43, 0, 30, 1013), (54, 0, 1, 1017), (55, 0, 112, 1021), (71, 0, 31, 1025), (81, 0, 82, 3214), (94, 0, 34, 3218), (98, 0, 35, 3210), (105, 0, 40, 3219), (109, 0, 14, 3226), (112, 0, 36, 3206), (115, 0, 15, 4005), (118, 0, 11, 4022), (125, 0, 13, 4023), (134, 0, 85, 3071), (138, 0, 17, 3075), (141, 0, 9, 3083), (144, 0, 115, 3087)]
def z_lk4 : List (Nat × Nat × Nat × Nat) := [(28, 0, 30, 2121), (37, 0, 89, 2122), (46, 0, 46, 2199), (50, 0, 47, 2221), (54, 0, 48, 2234), (57, 0, 49, 2239), (60, 0, 52, 3023), (63, 0, 53, 3031), (66, 0, 56, 3043), (69, 0, 58, 3055), (72, 0, 96, 2207), (75, 0, 97, 3011), (78, 0, 44, 2203), (81, 0, 90, 2211), (84, 0, 98, 2212), (88, 0, 32, 2217), (92, 0, 100, 2225), (96, 0, 31, 2233), (99, 0, 99, 2238), (114, 0, 45, 3003), (118, 0, 50, 3007), (121, 0, 51, 3015), (124, 0, 83, 3019), (138, 0, 12, 3027), (148, 0, 54, 3035), (157, 0, 55, 3039), (167, 0, 57, 3047), (171, 0, 2, 3051), (177, 0, 3, 3059)]
def z_lk5 : List (Nat × Nat × Nat × Nat) := [(44, 0, 62, 4071), (48, 0, 64, 4079), (55, 0, 61, 4083), (59, 3, 63, 4076), (69, 0, 82, 4075), (79, 3, 350, 4098), (85, 0, 65, 4112), (88, 3, 66, 4113), (91, 0, 67, 4122), (94, 0, 70, 4131), (98, 0, 71, 4135), (101, 0, 69, 4147), (114, 3, 78, 4233), (118, 0, 79, 4236)]
def z_lk6 : List (Nat × Nat × Nat × Nat) := [(29, 0, 82, 4174)]
def z_lk7 : List (Nat × Nat × Nat × Nat) := [(31, 0, 90, 2126), (40, 0, 91, 2130), (44, 0, 92, 2134), (48, 0, 95, 2138), (52, 0, 93, 2191), (58, 0, 94, 2195), (72, 0, 96, 2216), (76, 0, 99, 2229)]
def z_lk8 : List (Nat × Nat × Nat × Nat) := [(22, 3, 102, 2060), (26, 0, 103, 2061), (29, 0, 104, 2065), (33, 3, 110, 2073)]
def z_lk9 : List (Nat × Nat × Nat × Nat) := []
def z_lk10 : List (Nat × Nat × Nat × Nat) := [(23, 0, 112, 3103), (32, 0, 89, 3104), (40, 0, 118, 3105), (44, 0, 119, 3120), (47, 0, 96, 3109), (55, 0, 90, 3110), (58, 0, 97, 3111), (61, 0, 113, 3112), (68, 0, 114, 3116), (84, 0, 122, 3124), (87, 0, 121, 3130), (90, 0, 120, 3134), (93, 0, 98, 3129), (99, 0, 100, 3128)]
def z_lk11 : List (Nat × Nat × Nat × Nat) := [(9, 1, 101, 31), (18, 2, 86, 50), (25, 1, 29, 94), (35, 1, 42, 1094), (48, 1, 116, 1116), (61, 2, 59, 1145), (68, 2, 19, 1170), (90, 3, 102, 2037), (94, 0, 181, 2040), (97, 0, 106, 2044), (101, 0, 180, 2048), (105, 0, 105, 2056), (109, 0, 107, 2069), (113, 0, 179, 2080), (117, 0, 108, 2084), (121, 0, 103, 2092), (128, 0, 104, 2093), (132, 0, 109, 2094), (136, 0, 87, 2105), (139, 0, 88, 2109), (145, 0, 43, 2117), (148, 0, 185, 3063), (151, 0, 41, 3067), (164, 0, 178, 3091), (169, 0, 117, 3099), (170, 0, 115, 3138), (226, 3, 182, 3151), (232, 0, 81, 3158), (250, 0, 11, 3166), (258, 0, 16, 3174), (261, 0, 34, 3182), (276, 0, 37, 3202), (279, 0, 33, 3230), (283, 3, 184, 3238), (286, 0, 38, 4001), (290, 0, 12, 4013), (293, 0, 39, 4018), (296, 0, 82, 4035), (299, 3, 183, 4040), (302, 0, 83, 4043), (305, 0, 32, 4048), (309, 0, 36, 4053), (312, 0, 35, 4062), (315, 0, 60, 4067), (318, 0, 65, 4087), (321, 3, 66, 4095), (324, 0, 67, 4108), (327, 0, 68, 4118), (330, 0, 69, 4127), (333, 0, 72, 4143), (336, 0, 73, 4152), (339, 0, 74, 4161), (342, 0, 84, 4170), (345, 0, 75, 4175), (348, 0, 5, 4186), (351, 0, 6, 4198), (354, 0, 7, 4206), (357, 3, 350, 4211), (362, 0, 8, 4220), (365, 0, 76, 4228), (368, 0, 77, 5004), (371, 0, 186, 5012), (377, 0, 20, 5024)]
def z_lk12 : List (Nat × Nat × Nat × Nat) := [(53, 0, 246, 5089), (72, 0, 192, 5227), (76, 0, 197, 5239), (80, 0, 198, 5235), (84, 3, 195, 6003), (92, 3, 193, 6097), (96, 3, 203, 6078), (109, 0, 205, 6039), (115, 3, 206, 6043), (128, 3, 207, 6048), (134, 0, 208, 6051), (137, 3, 211, 6063), (141, 0, 212, 6066), (147, 0, 216, 6108), (151, 0, 217, 6125), (154, 0, 213, 6059), (157, 0, 214, 6100), (160, 0, 215, 6104), (163, 0, 218, 6133), (166, 0, 219, 6149), (169, 0, 220, 6157), (172, 0, 221, 6166), (175, 0, 222, 6174), (178, 0, 223, 6178), (181, 0, 224, 6186), (184, 0, 225, 6202), (187, 0, 226, 6206), (190, 0, 227, 6210), (193, 0, 232, 6215), (196, 0, 228, 6120), (200, 0, 229, 6145), (203, 0, 230, 6219), (206, 0, 231, 6223), (209, 0, 233, 6198), (218, 0, 235, 6081), (222, 0, 209, 6035), (225, 0, 236, 6089), (228, 0, 237, 6085), (232, 0, 238, 6093), (241, 0, 242, 6019), (247, 0, 248, 6074), (250, 0, 240, 6116), (253, 0, 252, 6141), (256, 0, 239, 6153), (262, 0, 254, 6162), (266, 0, 255, 6182), (270, 0, 234, 6194), (273, 0, 247, 6227), (276, 0, 258, 6235), (280, 0, 249, 6070), (283, 0, 250, 6112), (286, 0, 251, 6129), (289, 0, 253, 6137), (292, 0, 256, 6170), (295, 0, 257, 6190), (298, 0, 259, 6231), (301, 0, 260, 6239), (304, 0, 243, 6031), (307, 0, 261, 6055), (310, 0, 210, 7003), (313, 0, 244, 7007), (316, 0, 347, 7011), (319, 0, 263, 7027), (325, 0, 264, 7023), (328, 0, 265, 7019), (333, 0, 191, 7035), (336, 3, 267, 7043), (339, 0, 268, 7050), (344, 0, 269, 7059), (349, 0, 276, 7068), (354, 0, 278, 7077), (357, 0, 202, 7093), (360, 0, 199, 7098), (364, 0, 283, 7112), (370, 0, 284, 7108), (373, 0, 286, 7116), (376, 0, 285, 7121), (381, 0, 287, 7104), (384, 0, 271, 7125), (387, 0, 289, 7138), (392, 0, 290, 7134), (397, 0, 293, 7151), (402, 3, 270, 7168), (413, 0, 299, 7184), (416, 0, 300, 7188), (419, 3, 304, 7208), (423, 0, 305, 7204), (426, 3, 306, 7215), (431, 0, 307, 7227), (434, 0, 312, 7239), (437, 0, 313, 8003), (440, 0, 314, 7235), (443, 0, 318, 8019), (446, 0, 320, 8027), (449, 0, 322, 8035), (452, 0, 323, 8039), (455, 3, 204, 8055), (458, 0, 326, 8051), (461, 0, 330, 8070), (468, 0, 194, 8082), (476, 0, 335, 8126), (479, 0, 336, 8114), (482, 0, 338, 8118), (486, 0, 337, 8122), (502, 0, 339, 8110), (505, 0, 340, 8131), (508, 0, 342, 8102), (511, 0, 341, 8106), (525, 0, 343, 8098)]
def z_lk13 : List (Nat × Nat × Nat × Nat) := [(9, 1, 123, 23), (12, 1, 187, 5085), (13, 0, 124, 2021), (17, 0, 188, 5211), (18, 0, 125, 2025), (22, 0, 189, 5215), (23, 0, 126, 2029), (26, 0, 190, 5219), (27, 0, 127, 2033), (31, 0, 196, 5223), (34, 0, 128, 2052), (38, 0, 199, 5231), (39, 0, 129, 2076), (43, 0, 200, 6006), (44, 0, 130, 2088), (48, 0, 201, 6011), (49, 0, 131, 2101), (53, 0, 241, 6015), (54, 0, 132, 2113), (58, 0, 262, 6027), (59, 0, 133, 3095), (62, 0, 266, 7015), (63, 0, 134, 3139), (66, 0, 245, 6023), (67, 0, 135, 3143), (70, 0, 272, 7031), (71, 0, 136, 3147), (74, 0, 273, 7039), (75, 0, 137, 3154), (79, 0, 274, 7046), (80, 0, 138, 3162), (83, 0, 275, 7055), (84, 0, 139, 3170), (87, 0, 277, 7064), (88, 0, 140, 3178), (91, 0, 279, 7072), (92, 0, 141, 3186), (95, 0, 280, 7081), (96, 0, 142, 3190), (99, 0, 281, 7085), (100, 0, 143, 3194), (103, 0, 282, 7089), (104, 0, 144, 3198), (107, 0, 288, 7099), (108, 0, 145, 3234), (111, 0, 291, 7129), (112, 0, 146, 4009), (116, 0, 292, 7142), (117, 0, 147, 4014), (120, 0, 294, 7147), (121, 0, 148, 4027), (124, 0, 295, 7155), (125, 0, 149, 4031), (129, 0, 296, 7160), (130, 0, 150, 4036), (133, 0, 297, 7164), (134, 0, 151, 4044), (138, 0, 298, 7172), (139, 0, 152, 4049), (142, 0, 301, 7179), (143, 0, 153, 4054), (146, 0, 302, 7192), (147, 0, 154, 4058), (150, 0, 303, 7196), (151, 0, 155, 4063), (154, 0, 308, 7200), (155, 0, 156, 4091), (158, 0, 309, 7211), (159, 0, 157, 4104), (162, 0, 310, 7218), (163, 0, 158, 4114), (166, 0, 311, 7222), (167, 0, 159, 4123), (170, 0, 315, 7231), (171, 0, 160, 4139), (174, 0, 316, 8007), (175, 0, 161, 4148), (178, 0, 317, 8011), (179, 0, 162, 4157), (182, 0, 319, 8015), (183, 0, 163, 4166), (186, 0, 321, 8023), (187, 0, 164, 4182), (190, 0, 324, 8031), (191, 0, 165, 4194), (194, 0, 325, 8043), (195, 0, 166, 4202), (198, 0, 327, 8047), (199, 0, 167, 4212), (202, 0, 328, 8058), (203, 0, 168, 4216), (206, 0, 329, 8062), (207, 0, 169, 4224), (210, 0, 331, 8066), (211, 0, 170, 5000), (214, 0, 332, 8074), (215, 0, 171, 5008), (219, 0, 333, 8078), (220, 0, 172, 5016), (223, 0, 334, 8089), (224, 0, 173, 5020), (227, 0, 344, 8093), (228, 0, 174, 5067), (231, 0, 345, 8135), (232, 0, 175, 5071), (235, 0, 346, 8139), (236, 0, 176, 5075), (239, 0, 348, 8143), (240, 0, 177, 5079), (243, 0, 349, 8147)]
def z_lk14 : List (Nat × Nat × Nat × Nat) := []
def z_lk15 : List (Nat × Nat × Nat × Nat) := []
def z_lks : List (List (Nat × Nat × Nat × Nat)) := [z_lk0, z_lk1, z_lk2, z_lk3, z_lk4, z_lk5, z_lk6, z_lk7, z_lk8, z_lk9, z_lk10, z_lk11, z_lk12, z_lk13, z_lk14, z_lk15]
/-- a link: its kind (0 a method of an object, 1 a constructor, 2 a nest mate's constructor, 3 static), the method by its place in z_all, the place of the link's word -/
def z_lk (o i : Nat) : Option (Nat × Nat × Nat) := (z_lks.getD o []).lookup i
def z_bks : List (List (Nat × Nat × Nat)) := [[(3, 0, 178)], [(1, 0, 145)], [(1, 0, 1173)], [(3, 0, 97), (128, 5, 3223)], [(3, 0, 1097)], [(3, 0, 1148), (105, 5, 4165), (110, 4, 4179)], [(1, 0, 103)], [(3, 0, 53), (64, 2, 2143), (68, 3, 2153)], [(3, 0, 34), (37, 1, 2098)], [(3, 0, 216)], [(3, 0, 1119)], [(1, 0, 26)], [(1, 0, 5088), (66, 6, 8086), (235, 4, 6124), (367, 5, 7120)], [], [], []]
/-- a link to what the machine itself does here: 0 Object(), 1 arraycopy, 2 length of a text, 3 its char -/
def z_bk (o i : Nat) : Option (Nat × Nat) := (z_bks.getD o []).lookup i
def z_fls : List (List (Nat × Nat × Nat × Nat)) := [[(11, 0, 0, 179), (15, 0, 1, 181), (18, 0, 2, 183), (21, 0, 3, 185), (24, 0, 4, 187), (28, 0, 5, 190), (31, 0, 6, 193)], [(9, 1, 0, 146), (13, 1, 1, 149), (16, 1, 2, 152), (19, 1, 3, 154), (27, 1, 4, 160)], [(9, 2, 0, 1174), (15, 3, 4, 1046), (26, 9, 5, 228), (30, 2, 7, 1186), (33, 9, 0, 218), (42, 2, 2, 1176), (49, 2, 3, 1178), (60, 2, 1, 1175), (63, 2, 8, 1188), (67, 3, 10, 1062), (70, 2, 4, 1180), (73, 3, 11, 1065), (76, 2, 5, 1182), (77, 3, 2, 1038), (81, 1, 4, 159), (86, 2, 6, 1184), (87, 9, 4, 226), (93, 9, 1, 220), (100, 9, 2, 222), (107, 9, 3, 224), (125, 3, 5, 1048), (129, 3, 8, 1058), (135, 3, 0, 1031)], [(9, 3, 0, 1029), (18, 3, 1, 1033), (25, 3, 2, 1037), (32, 3, 3, 1041), (39, 3, 4, 1044), (46, 6, 5, 123), (50, 1, 3, 155), (51, 1, 4, 158), (56, 3, 5, 1047), (59, 3, 6, 1051), (62, 3, 7, 1053), (65, 3, 10, 1061), (68, 3, 11, 1064), (75, 3, 8, 1057), (78, 3, 9, 1060), (85, 6, 0, 106), (88, 6, 1, 110), (91, 6, 2, 114), (102, 6, 3, 118), (121, 1, 0, 147), (122, 1, 1, 150)], [(11, 4, 2, 1100), (17, 4, 3, 1101), (20, 4, 0, 1098), (24, 4, 1, 1099), (33, 4, 4, 1102), (43, 7, 3, 59), (102, 3, 0, 1030), (105, 3, 1, 1035), (109, 6, 5, 125), (128, 7, 6, 67), (131, 3, 2, 1039), (135, 1, 3, 156), (141, 3, 3, 1042), (145, 0, 4, 188), (151, 7, 4, 63), (154, 7, 5, 65), (160, 7, 0, 55), (164, 0, 5, 192), (174, 0, 6, 195)], [(9, 5, 0, 1149), (15, 5, 1, 1150), (18, 5, 2, 1151), (21, 5, 3, 1152), (24, 3, 6, 1050), (30, 5, 4, 1153), (31, 3, 8, 1056), (34, 5, 5, 1154), (35, 3, 1, 1034), (39, 6, 5, 124), (52, 3, 7, 1054), (63, 6, 0, 105), (66, 6, 1, 109), (73, 6, 2, 113), (76, 6, 3, 117)], [(9, 6, 0, 104), (13, 6, 1, 108), (16, 6, 2, 112), (19, 6, 3, 116), (22, 6, 4, 120), (25, 6, 5, 122)], [(11, 7, 0, 54), (15, 7, 1, 56), (19, 7, 2, 58), (22, 7, 5, 64), (25, 7, 7, 68), (28, 7, 8, 70), (34, 7, 4, 62), (37, 7, 3, 61), (55, 7, 6, 66)], [(11, 8, 0, 35), (15, 8, 1, 36), (19, 8, 2, 37)], [(9, 9, 0, 217), (13, 9, 1, 219), (16, 9, 2, 221), (19, 9, 3, 223), (22, 9, 4, 225), (25, 9, 5, 227), (29, 9, 6, 230), (32, 9, 7, 233)], [(11, 10, 2, 1122), (15, 10, 0, 1120), (19, 10, 1, 1121), (28, 10, 3, 1123), (37, 7, 3, 60), (51, 9, 7, 234), (65, 9, 5, 229), (72, 9, 6, 231), (75, 10, 4, 1124), (78, 10, 5, 1125), (81, 10, 6, 1126)], [(10, 11, 0, 1209), (19, 11, 1, 1210), (26, 11, 2, 1211), (30, 11, 3, 1212), (38, 11, 4, 1213), (44, 3, 4, 1045), (51, 11, 5, 1214), (55, 11, 6, 1215), (62, 11, 7, 1216), (69, 11, 8, 1217), (73, 11, 9, 1218), (76, 11, 13, 1222), (80, 11, 15, 1224), (84, 11, 11, 1220), (87, 11, 12, 1221), (124, 8, 2, 38), (142, 7, 1, 57), (155, 3, 1, 1036), (159, 6, 5, 126), (173, 9, 6, 232), (176, 11, 16, 1225), (180, 11, 14, 1223), (183, 3, 2, 1040), (187, 1, 3, 157), (190, 3, 3, 1043), (194, 0, 4, 189), (199, 0, 5, 191), (202, 0, 6, 194), (205, 3, 5, 1049), (208, 3, 6, 1052), (211, 3, 7, 1055), (214, 3, 8, 1059), (217, 3, 10, 1063), (220, 1, 4, 161), (223, 3, 11, 1066), (229, 3, 0, 1032), (235, 6, 0, 107), (238, 6, 1, 111), (241, 6, 2, 115), (244, 6, 3, 119), (247, 6, 4, 121), (251, 1, 0, 148), (252, 1, 1, 151), (255, 1, 2, 153), (264, 0, 0, 180), (267, 0, 1, 182), (270, 0, 2, 184), (273, 0, 3, 186), (375, 9, 7, 235), (381, 2, 2, 1177), (382, 2, 8, 1189), (385, 2, 3, 1179), (388, 2, 4, 1181), (390, 2, 5, 1183), (391, 2, 6, 1185), (392, 2, 7, 1187), (395, 11, 10, 1219), (398, 7, 7, 69), (401, 7, 8, 71)], [(7, 12, 3, 5096), (13, 12, 4, 5097), (17, 12, 5, 5098), (20, 12, 6, 5099), (24, 12, 7, 5100), (28, 12, 10, 5103), (32, 12, 11, 5104), (35, 12, 20, 5113), (38, 12, 21, 5114), (41, 12, 22, 5115), (44, 12, 26, 5119), (47, 12, 27, 5120), (50, 12, 29, 5122), (57, 12, 1, 5094), (60, 12, 0, 5093), (63, 12, 2, 5095), (100, 12, 9, 5102), (103, 12, 16, 5109), (106, 12, 15, 5108), (112, 12, 14, 5107), (118, 12, 19, 5112), (125, 12, 18, 5111), (131, 12, 17, 5110), (212, 12, 12, 5105), (215, 12, 13, 5106), (238, 12, 8, 5101), (244, 12, 24, 5117), (322, 12, 25, 5118), (465, 12, 28, 5121), (472, 12, 32, 5125), (489, 12, 33, 5126), (492, 12, 31, 5124), (496, 12, 38, 5131), (499, 12, 34, 5127), (514, 12, 35, 5128), (517, 12, 36, 5129), (520, 12, 37, 5130), (528, 12, 30, 5123), (531, 12, 23, 5116)], [], [], []]
/-- a field: class, slot, the place of the link's word -/
def z_fl (o i : Nat) : Option (Nat × Nat × Nat) := (z_fls.getD o []).lookup i
def z_kcs : List (List (Nat × Int32 × Nat)) := [[], [], [(25, 1000000, 5032), (128, 65535, 5053)], [], [], [(104, -1000000, 4156), (113, 1000000, 4232)], [], [], [], [], [], [], [(475, 65536, 8130)], [], [(265, 1431655765, 4101), (266, 858993459, 4102), (267, 252645135, 4103)], []]
def z_kc (o i : Nat) : Option (Int32 × Nat) := (z_kcs.getD o []).lookup i
def z_kls : List (List (Nat × Int64 × Nat)) := [[], [], [], [], [], [], [], [], [], [], [], [], [(88, -1, 6010), (90, 3, 7097), (121, 32, 6046), (123, 96, 6047), (145, 115, 6214), (260, 11, 6161), (331, 4095, 7171), (342, 4, 7054), (347, 2, 7063), (352, 6, 7076), (379, 99, 7103), (390, 20, 7133), (395, 24, 7146), (400, 50, 7159), (405, 5, 7176), (407, 7, 7177), (409, 16, 7178), (411, 60, 7183), (429, 12, 7226), (523, 9999, 8097)], [(32, 4294967295, 8151)], [], []]
def z_kl (o i : Nat) : Option (Int64 × Nat) := (z_kls.getD o []).lookup i
def z_nws : List (List (Nat × Nat × Nat × Nat × Nat)) := [[], [], [], [(15, 6, 98, 99, 5), (22, 1, 140, 141, 6), (29, 0, 173, 174, 7), (36, 9, 211, 212, 8)], [], [], [], [], [], [], [], [(7, 8, 29, 30, 2), (16, 7, 48, 49, 3), (23, 3, 92, 93, 4), (33, 4, 1092, 1093, 9), (42, 10, 1114, 1115, 10), (59, 5, 1143, 1144, 11), (66, 2, 1168, 1169, 12)], [], [(7, 11, 21, 22, 1), (10, 12, 5083, 5084, 13)], [], []]
/-- a class to make: its number, the places of classLink, instantiable, initialized -/
def z_nw (o i : Nat) : Option (Nat × Nat × Nat × Nat) := (z_nws.getD o []).lookup i
/-! the checks: a word by its table and its place there -/
def z_tbs : List (List Cond) := [tables_1_1, tables_1_2, tables_1_3, tables_1_4, tables_1_5, tables_1_6, tables_1_7, tables_1_8, tables_1_9, k2_sels lw_privs_1, k2_sels lw_privs_2, k2_sels lw_privs_3, k2_sels lw_privs_4, k2_sels lw_privs_5, k2_sels lw_privs_6, k2_sels lw_privs_7, k2_sels lw_privs_8, k2_sels lw_privs_9, k2_sels lw_privs_10]
def z_get : List Cond → Nat → Option Cond
  | [], _ => none
  | a :: _, 0 => some a
  | _ :: l, n + 1 => z_get l n
theorem z_get_mem {w : Cond} : ∀ (l : List Cond) (n : Nat), z_get l n = some w → w ∈ l
  | [], _, h => by cases h
  | a :: l, 0, h => by cases h; exact List.mem_cons_self
  | a :: l, n + 1, h => List.mem_cons_of_mem _ (z_get_mem l n h)
theorem z_sels_mem {a b : List (MethodName × Nat)} {w : Cond} (h : w ∈ k2_sels a) (hs : ∀ q ∈ a, q ∈ b) : w ∈ k2_sels b := by
  obtain ⟨q, hq, rfl⟩ := List.mem_map.mp h
  exact List.mem_map.mpr ⟨q, hs q hq, rfl⟩
theorem z_or0 {p0 p1 p2 p3 p4 p5 p6 p7 p8 : Prop} (h : p0) : p0 ∨ p1 ∨ p2 ∨ p3 ∨ p4 ∨ p5 ∨ p6 ∨ p7 ∨ p8 := Or.inl h
theorem z_or1 {p0 p1 p2 p3 p4 p5 p6 p7 p8 : Prop} (h : p1) : p0 ∨ p1 ∨ p2 ∨ p3 ∨ p4 ∨ p5 ∨ p6 ∨ p7 ∨ p8 := Or.inr (Or.inl h)
theorem z_or2 {p0 p1 p2 p3 p4 p5 p6 p7 p8 : Prop} (h : p2) : p0 ∨ p1 ∨ p2 ∨ p3 ∨ p4 ∨ p5 ∨ p6 ∨ p7 ∨ p8 := Or.inr (Or.inr (Or.inl h))
theorem z_or3 {p0 p1 p2 p3 p4 p5 p6 p7 p8 : Prop} (h : p3) : p0 ∨ p1 ∨ p2 ∨ p3 ∨ p4 ∨ p5 ∨ p6 ∨ p7 ∨ p8 := Or.inr (Or.inr (Or.inr (Or.inl h)))
theorem z_or4 {p0 p1 p2 p3 p4 p5 p6 p7 p8 : Prop} (h : p4) : p0 ∨ p1 ∨ p2 ∨ p3 ∨ p4 ∨ p5 ∨ p6 ∨ p7 ∨ p8 := Or.inr (Or.inr (Or.inr (Or.inr (Or.inl h))))
theorem z_or5 {p0 p1 p2 p3 p4 p5 p6 p7 p8 : Prop} (h : p5) : p0 ∨ p1 ∨ p2 ∨ p3 ∨ p4 ∨ p5 ∨ p6 ∨ p7 ∨ p8 := Or.inr (Or.inr (Or.inr (Or.inr (Or.inr (Or.inl h)))))
theorem z_or6 {p0 p1 p2 p3 p4 p5 p6 p7 p8 : Prop} (h : p6) : p0 ∨ p1 ∨ p2 ∨ p3 ∨ p4 ∨ p5 ∨ p6 ∨ p7 ∨ p8 := Or.inr (Or.inr (Or.inr (Or.inr (Or.inr (Or.inr (Or.inl h))))))
theorem z_or7 {p0 p1 p2 p3 p4 p5 p6 p7 p8 : Prop} (h : p7) : p0 ∨ p1 ∨ p2 ∨ p3 ∨ p4 ∨ p5 ∨ p6 ∨ p7 ∨ p8 := Or.inr (Or.inr (Or.inr (Or.inr (Or.inr (Or.inr (Or.inr (Or.inl h)))))))
theorem z_or8 {p0 p1 p2 p3 p4 p5 p6 p7 p8 : Prop} (h : p8) : p0 ∨ p1 ∨ p2 ∨ p3 ∨ p4 ∨ p5 ∨ p6 ∨ p7 ∨ p8 := Or.inr (Or.inr (Or.inr (Or.inr (Or.inr (Or.inr (Or.inr (Or.inr (h))))))))
theorem z_orp0 {p0 p1 p2 p3 p4 p5 p6 p7 p8 p9 : Prop} (h : p0) : p0 ∨ p1 ∨ p2 ∨ p3 ∨ p4 ∨ p5 ∨ p6 ∨ p7 ∨ p8 ∨ p9 := Or.inl h
theorem z_orp1 {p0 p1 p2 p3 p4 p5 p6 p7 p8 p9 : Prop} (h : p1) : p0 ∨ p1 ∨ p2 ∨ p3 ∨ p4 ∨ p5 ∨ p6 ∨ p7 ∨ p8 ∨ p9 := Or.inr (Or.inl h)
theorem z_orp2 {p0 p1 p2 p3 p4 p5 p6 p7 p8 p9 : Prop} (h : p2) : p0 ∨ p1 ∨ p2 ∨ p3 ∨ p4 ∨ p5 ∨ p6 ∨ p7 ∨ p8 ∨ p9 := Or.inr (Or.inr (Or.inl h))
theorem z_orp3 {p0 p1 p2 p3 p4 p5 p6 p7 p8 p9 : Prop} (h : p3) : p0 ∨ p1 ∨ p2 ∨ p3 ∨ p4 ∨ p5 ∨ p6 ∨ p7 ∨ p8 ∨ p9 := Or.inr (Or.inr (Or.inr (Or.inl h)))
theorem z_orp4 {p0 p1 p2 p3 p4 p5 p6 p7 p8 p9 : Prop} (h : p4) : p0 ∨ p1 ∨ p2 ∨ p3 ∨ p4 ∨ p5 ∨ p6 ∨ p7 ∨ p8 ∨ p9 := Or.inr (Or.inr (Or.inr (Or.inr (Or.inl h))))
theorem z_orp5 {p0 p1 p2 p3 p4 p5 p6 p7 p8 p9 : Prop} (h : p5) : p0 ∨ p1 ∨ p2 ∨ p3 ∨ p4 ∨ p5 ∨ p6 ∨ p7 ∨ p8 ∨ p9 := Or.inr (Or.inr (Or.inr (Or.inr (Or.inr (Or.inl h)))))
theorem z_orp6 {p0 p1 p2 p3 p4 p5 p6 p7 p8 p9 : Prop} (h : p6) : p0 ∨ p1 ∨ p2 ∨ p3 ∨ p4 ∨ p5 ∨ p6 ∨ p7 ∨ p8 ∨ p9 := Or.inr (Or.inr (Or.inr (Or.inr (Or.inr (Or.inr (Or.inl h))))))
theorem z_orp7 {p0 p1 p2 p3 p4 p5 p6 p7 p8 p9 : Prop} (h : p7) : p0 ∨ p1 ∨ p2 ∨ p3 ∨ p4 ∨ p5 ∨ p6 ∨ p7 ∨ p8 ∨ p9 := Or.inr (Or.inr (Or.inr (Or.inr (Or.inr (Or.inr (Or.inr (Or.inl h)))))))
theorem z_orp8 {p0 p1 p2 p3 p4 p5 p6 p7 p8 p9 : Prop} (h : p8) : p0 ∨ p1 ∨ p2 ∨ p3 ∨ p4 ∨ p5 ∨ p6 ∨ p7 ∨ p8 ∨ p9 := Or.inr (Or.inr (Or.inr (Or.inr (Or.inr (Or.inr (Or.inr (Or.inr (Or.inl h))))))))
theorem z_orp9 {p0 p1 p2 p3 p4 p5 p6 p7 p8 p9 : Prop} (h : p9) : p0 ∨ p1 ∨ p2 ∨ p3 ∨ p4 ∨ p5 ∨ p6 ∨ p7 ∨ p8 ∨ p9 := Or.inr (Or.inr (Or.inr (Or.inr (Or.inr (Or.inr (Or.inr (Or.inr (Or.inr (h)))))))))
theorem z_tbs_mem : ∀ l ∈ z_tbs, ∀ w ∈ l, w ∈ lw_tbl := by
  intro l hl w hw
  have ht : ∀ v ∈ tables_1, v ∈ lw_tbl := fun v hv => List.mem_append_right _ hv
  have hp : ∀ v ∈ k2_sels lw_privs, v ∈ lw_tbl := fun v hv => List.mem_append_left _ hv
  unfold z_tbs at hl
  simp only [List.mem_cons, List.not_mem_nil, or_false] at hl
  rcases hl with rfl | rfl | rfl | rfl | rfl | rfl | rfl | rfl | rfl | rfl | rfl | rfl | rfl | rfl | rfl | rfl | rfl | rfl | rfl
  · exact ht _ (by unfold tables_1; simp only [List.mem_append]; exact z_or0 hw)
  · exact ht _ (by unfold tables_1; simp only [List.mem_append]; exact z_or1 hw)
  · exact ht _ (by unfold tables_1; simp only [List.mem_append]; exact z_or2 hw)
  · exact ht _ (by unfold tables_1; simp only [List.mem_append]; exact z_or3 hw)
  · exact ht _ (by unfold tables_1; simp only [List.mem_append]; exact z_or4 hw)
  · exact ht _ (by unfold tables_1; simp only [List.mem_append]; exact z_or5 hw)
  · exact ht _ (by unfold tables_1; simp only [List.mem_append]; exact z_or6 hw)
  · exact ht _ (by unfold tables_1; simp only [List.mem_append]; exact z_or7 hw)
  · exact ht _ (by unfold tables_1; simp only [List.mem_append]; exact z_or8 hw)
  · exact hp _ (z_sels_mem hw (fun q h => by unfold lw_privs; simp only [List.mem_append]; exact z_orp0 h))
  · exact hp _ (z_sels_mem hw (fun q h => by unfold lw_privs; simp only [List.mem_append]; exact z_orp1 h))
  · exact hp _ (z_sels_mem hw (fun q h => by unfold lw_privs; simp only [List.mem_append]; exact z_orp2 h))
  · exact hp _ (z_sels_mem hw (fun q h => by unfold lw_privs; simp only [List.mem_append]; exact z_orp3 h))
  · exact hp _ (z_sels_mem hw (fun q h => by unfold lw_privs; simp only [List.mem_append]; exact z_orp4 h))
  · exact hp _ (z_sels_mem hw (fun q h => by unfold lw_privs; simp only [List.mem_append]; exact z_orp5 h))
  · exact hp _ (z_sels_mem hw (fun q h => by unfold lw_privs; simp only [List.mem_append]; exact z_orp6 h))
  · exact hp _ (z_sels_mem hw (fun q h => by unfold lw_privs; simp only [List.mem_append]; exact z_orp7 h))
  · exact hp _ (z_sels_mem hw (fun q h => by unfold lw_privs; simp only [List.mem_append]; exact z_orp8 h))
  · exact hp _ (z_sels_mem hw (fun q h => by unfold lw_privs; simp only [List.mem_append]; exact z_orp9 h))
def z_nest : List Cond := [.methodLinkNest "DitchSaint" 18 ⟨"DitchSaint$Tokens", "<init>", "()V"⟩ "DitchSaint", .methodLinkNest "DitchSaint$Parish" 17 ⟨"DitchSaint$Rights", "<init>", "()V"⟩ "DitchSaint", .methodLinkNest "DitchSaint$Parish" 24 ⟨"DitchSaint$Debts", "<init>", "()V"⟩ "DitchSaint", .methodLinkNest "DitchSaint$Parish" 31 ⟨"DitchSaint$Court", "<init>", "()V"⟩ "DitchSaint", .methodLinkNest "DitchSaint$Parish" 38 ⟨"DitchSaint$Years", "<init>", "()V"⟩ "DitchSaint", .methodLinkNest "DitchSaint" 61 ⟨"DitchSaint$Plans", "<init>", "()V"⟩ "DitchSaint", .methodLinkNest "DitchSaint" 68 ⟨"DitchSaint$Life", "<init>", "()V"⟩ "DitchSaint"]
theorem z_tb_mem {c i : Nat} {w : Cond} (h : z_get (z_tbs.getD c []) i = some w) : w ∈ lw_tbl := by
  have h1 := z_get_mem _ _ h
  by_cases hc : c < z_tbs.length
  · have : z_tbs.getD c [] ∈ z_tbs := by rw [List.getD_eq_getElem?_getD, List.getElem?_eq_getElem hc]; exact List.getElem_mem hc
    exact z_tbs_mem _ this _ h1
  · rw [List.getD_eq_getElem?_getD, List.getElem?_eq_none (by omega)] at h1; cases h1
def z_at (p : Nat) (w : Cond) : Bool := decide (z_get (z_tbs.getD (p / 1000) []) (p % 1000) = some w)
theorem z_at_mem {p : Nat} {w : Cond} (h : z_at p w = true) : w ∈ lw_tbl := z_tb_mem (of_decide_eq_true h)
abbrev z_code (m : z_M) : Cond := .code (z_y m) (z_b m) (z_x m) (z_r m)
def z_okM (m : z_M) : Bool := z_at ((z_p m).getD 1 0) (.initialized (z_y m).cls) && plainName (z_y m).cls && decide ((z_y m).cls ≠ "java/lang/invoke/MethodHandle") && decide ((z_y m).cls ≠ "java/lang/invoke/VarHandle") && decide ((parseMethodDescriptor (z_y m).desc).map (fun d => d.parameters.length) = some (z_n m)) && decide (z_R (z_o m) = (z_y m).cls)
def z_okL (o : Nat) (e : Nat × Nat × Nat × Nat) : Bool :=
  let i := e.1; let k := e.2.1; let m := z_ms e.2.2.1; let p := e.2.2.2
  decide (e.2.2.1 < z_all.length) && (match k with
    | 0 => z_at p (.methodLink (z_R o) i (z_y m)) && z_at ((z_p m).getD 2 0) (.instanceMethod (z_y m)) && z_at ((z_p m).getD 3 0) (.selects (z_y m).cls (z_y m) (z_y m)) && decide (z_o m < 13)
    | 1 => z_at p (.methodLink (z_R o) i (z_y m)) && z_at ((z_p m).getD 2 0) (.instanceMethod (z_y m)) && decide ((z_y m).name = "<init>") && decide (z_r m = none)
    | 2 => decide (Cond.methodLinkNest (z_R o) i (z_y m) "DitchSaint" ∈ z_nest) && z_at ((z_p m).getD 2 0) (.instanceMethod (z_y m)) && decide ((z_y m).name = "<init>") && decide (z_r m = none)
    | 3 => z_at p (.methodLink (z_R o) i (z_y m)) && z_at ((z_p m).getD 2 0) (.static (z_y m))
    | _ => false)
theorem kk_mX0_init : z_code mX0_init ∈ lw_tbl := z_tb_mem (c := 0) (i := 177) rfl
theorem kk_mX0_beginAnew : z_code mX0_beginAnew ∈ lw_tbl := z_tb_mem (c := 1) (i := 20) rfl
theorem kk_mX0_addClause : z_code mX0_addClause ∈ lw_tbl := z_tb_mem (c := 3) (i := 54) rfl
theorem kk_mX0_addWitness : z_code mX0_addWitness ∈ lw_tbl := z_tb_mem (c := 3) (i := 62) rfl
theorem kk_mX0_brokenBy : z_code mX0_brokenBy ∈ lw_tbl := z_tb_mem (c := 4) (i := 193) rfl
theorem kk_mX0_countRulings : z_code mX0_countRulings ∈ lw_tbl := z_tb_mem (c := 4) (i := 189) rfl
theorem kk_mX0_findRuling : z_code mX0_findRuling ∈ lw_tbl := z_tb_mem (c := 4) (i := 201) rfl
theorem kk_mX0_leastStrike : z_code mX0_leastStrike ∈ lw_tbl := z_tb_mem (c := 4) (i := 209) rfl
theorem kk_mX0_sureTruth : z_code mX0_sureTruth ∈ lw_tbl := z_tb_mem (c := 4) (i := 223) rfl
theorem kk_mX0_copyFrom : z_code mX0_copyFrom ∈ lw_tbl := z_tb_mem (c := 3) (i := 86) rfl
theorem kk_mX1_init : z_code mX1_init ∈ lw_tbl := z_tb_mem (c := 0) (i := 144) rfl
theorem kk_mX1_isThere : z_code mX1_isThere ∈ lw_tbl := z_tb_mem (c := 3) (i := 169) rfl
theorem kk_mX1_add : z_code mX1_add ∈ lw_tbl := z_tb_mem (c := 3) (i := 30) rfl
theorem kk_mX1_drop : z_code mX1_drop ∈ lw_tbl := z_tb_mem (c := 4) (i := 26) rfl
theorem kk_mX1_age : z_code mX1_age ∈ lw_tbl := z_tb_mem (c := 3) (i := 229) rfl
theorem kk_mX1_lapseAll : z_code mX1_lapseAll ∈ lw_tbl := z_tb_mem (c := 4) (i := 8) rfl
theorem kk_mX1_owedBy : z_code mX1_owedBy ∈ lw_tbl := z_tb_mem (c := 3) (i := 177) rfl
theorem kk_mX1_copyFrom : z_code mX1_copyFrom ∈ lw_tbl := z_tb_mem (c := 3) (i := 78) rfl
theorem kk_mX1_copyOne : z_code mX1_copyOne ∈ lw_tbl := z_tb_mem (c := 3) (i := 82) rfl
theorem kk_mX2_init : z_code mX2_init ∈ lw_tbl := z_tb_mem (c := 1) (i := 172) rfl
theorem kk_mX2_run : z_code mX2_run ∈ lw_tbl := z_tb_mem (c := 5) (i := 27) rfl
theorem kk_mX2_begin : z_code mX2_begin ∈ lw_tbl := z_tb_mem (c := 5) (i := 31) rfl
theorem kk_mX2_finish : z_code mX2_finish ∈ lw_tbl := z_tb_mem (c := 5) (i := 66) rfl
theorem kk_mX2_behindEnd : z_code mX2_behindEnd ∈ lw_tbl := z_tb_mem (c := 5) (i := 36) rfl
theorem kk_mX2_behindStep : z_code mX2_behindStep ∈ lw_tbl := z_tb_mem (c := 5) (i := 57) rfl
theorem kk_mX2_isDone : z_code mX2_isDone ∈ lw_tbl := z_tb_mem (c := 5) (i := 40) rfl
theorem kk_mX2_isAnyDone : z_code mX2_isAnyDone ∈ lw_tbl := z_tb_mem (c := 5) (i := 48) rfl
theorem kk_mX2_drawBy : z_code mX2_drawBy ∈ lw_tbl := z_tb_mem (c := 5) (i := 52) rfl
theorem kk_mX2_holds : z_code mX2_holds ∈ lw_tbl := z_tb_mem (c := 5) (i := 61) rfl
theorem kk_mX3_init : z_code mX3_init ∈ lw_tbl := z_tb_mem (c := 0) (i := 96) rfl
theorem kk_mX3_beginAnew : z_code mX3_beginAnew ∈ lw_tbl := z_tb_mem (c := 1) (i := 16) rfl
theorem kk_mX3_lieEver : z_code mX3_lieEver ∈ lw_tbl := z_tb_mem (c := 1) (i := 28) rfl
theorem kk_mX3_setRule : z_code mX3_setRule ∈ lw_tbl := z_tb_mem (c := 2) (i := 220) rfl
theorem kk_mX3_bothChests : z_code mX3_bothChests ∈ lw_tbl := z_tb_mem (c := 3) (i := 233) rfl
theorem kk_mX3_sideAgo : z_code mX3_sideAgo ∈ lw_tbl := z_tb_mem (c := 3) (i := 185) rfl
theorem kk_mX3_isBearing : z_code mX3_isBearing ∈ lw_tbl := z_tb_mem (c := 3) (i := 213) rfl
theorem kk_mX3_passMonth : z_code mX3_passMonth ∈ lw_tbl := z_tb_mem (c := 3) (i := 209) rfl
theorem kk_mX3_passMonths : z_code mX3_passMonths ∈ lw_tbl := z_tb_mem (c := 3) (i := 205) rfl
theorem kk_mX3_carryBy : z_code mX3_carryBy ∈ lw_tbl := z_tb_mem (c := 4) (i := 4) rfl
theorem kk_mX3_payDebt : z_code mX3_payDebt ∈ lw_tbl := z_tb_mem (c := 4) (i := 21) rfl
theorem kk_mX3_bring : z_code mX3_bring ∈ lw_tbl := z_tb_mem (c := 3) (i := 222) rfl
theorem kk_mX3_copyFrom : z_code mX3_copyFrom ∈ lw_tbl := z_tb_mem (c := 3) (i := 70) rfl
theorem kk_mX4_init : z_code mX4_init ∈ lw_tbl := z_tb_mem (c := 1) (i := 96) rfl
theorem kk_mX4_readText : z_code mX4_readText ∈ lw_tbl := z_tb_mem (c := 2) (i := 120) rfl
theorem kk_mX4_isFirst : z_code mX4_isFirst ∈ lw_tbl := z_tb_mem (c := 2) (i := 206) rfl
theorem kk_mX4_hasRoom : z_code mX4_hasRoom ∈ lw_tbl := z_tb_mem (c := 3) (i := 6) rfl
theorem kk_mX4_readRule : z_code mX4_readRule ∈ lw_tbl := z_tb_mem (c := 2) (i := 202) rfl
theorem kk_mX4_readLies : z_code mX4_readLies ∈ lw_tbl := z_tb_mem (c := 2) (i := 224) rfl
theorem kk_mX4_readChest : z_code mX4_readChest ∈ lw_tbl := z_tb_mem (c := 2) (i := 237) rfl
theorem kk_mX4_readRight : z_code mX4_readRight ∈ lw_tbl := z_tb_mem (c := 3) (i := 2) rfl
theorem kk_mX4_kindHere : z_code mX4_kindHere ∈ lw_tbl := z_tb_mem (c := 3) (i := 10) rfl
theorem kk_mX4_takeMonths : z_code mX4_takeMonths ∈ lw_tbl := z_tb_mem (c := 3) (i := 18) rfl
theorem kk_mX4_readDebt : z_code mX4_readDebt ∈ lw_tbl := z_tb_mem (c := 3) (i := 26) rfl
theorem kk_mX4_readAsk : z_code mX4_readAsk ∈ lw_tbl := z_tb_mem (c := 3) (i := 34) rfl
theorem kk_mX4_questionHere : z_code mX4_questionHere ∈ lw_tbl := z_tb_mem (c := 3) (i := 38) rfl
theorem kk_mX4_isNameHere : z_code mX4_isNameHere ∈ lw_tbl := z_tb_mem (c := 3) (i := 42) rfl
theorem kk_mX4_readClause : z_code mX4_readClause ∈ lw_tbl := z_tb_mem (c := 3) (i := 46) rfl
theorem kk_mX4_takeLiteral : z_code mX4_takeLiteral ∈ lw_tbl := z_tb_mem (c := 3) (i := 50) rfl
theorem kk_mX4_readWitness : z_code mX4_readWitness ∈ lw_tbl := z_tb_mem (c := 3) (i := 58) rfl
theorem kk_mX5_init : z_code mX5_init ∈ lw_tbl := z_tb_mem (c := 1) (i := 147) rfl
theorem kk_mX5_weigh : z_code mX5_weigh ∈ lw_tbl := z_tb_mem (c := 4) (i := 70) rfl
theorem kk_mX5_foughtBy : z_code mX5_foughtBy ∈ lw_tbl := z_tb_mem (c := 4) (i := 86) rfl
theorem kk_mX5_weighRight : z_code mX5_weighRight ∈ lw_tbl := z_tb_mem (c := 4) (i := 74) rfl
theorem kk_mX5_bearingAt : z_code mX5_bearingAt ∈ lw_tbl := z_tb_mem (c := 4) (i := 78) rfl
theorem kk_mX5_sumHalf : z_code mX5_sumHalf ∈ lw_tbl := z_tb_mem (c := 4) (i := 82) rfl
theorem kk_mX5_gainOf : z_code mX5_gainOf ∈ lw_tbl := z_tb_mem (c := 4) (i := 90) rfl
theorem kk_mX5_changesOf : z_code mX5_changesOf ∈ lw_tbl := z_tb_mem (c := 4) (i := 97) rfl
theorem kk_mX5_netOf : z_code mX5_netOf ∈ lw_tbl := z_tb_mem (c := 4) (i := 111) rfl
theorem kk_mX5_bestWithin : z_code mX5_bestWithin ∈ lw_tbl := z_tb_mem (c := 4) (i := 121) rfl
theorem kk_mX5_isOf : z_code mX5_isOf ∈ lw_tbl := z_tb_mem (c := 4) (i := 130) rfl
theorem kk_mX5_isFair : z_code mX5_isFair ∈ lw_tbl := z_tb_mem (c := 4) (i := 134) rfl
theorem kk_mX5_isTreaty : z_code mX5_isTreaty ∈ lw_tbl := z_tb_mem (c := 4) (i := 138) rfl
theorem kk_mX5_countOf : z_code mX5_countOf ∈ lw_tbl := z_tb_mem (c := 4) (i := 146) rfl
theorem kk_mX5_bestAmong : z_code mX5_bestAmong ∈ lw_tbl := z_tb_mem (c := 4) (i := 155) rfl
theorem kk_mX5_evenPlan : z_code mX5_evenPlan ∈ lw_tbl := z_tb_mem (c := 4) (i := 164) rfl
theorem kk_mX5_greatestWithout : z_code mX5_greatestWithout ∈ lw_tbl := z_tb_mem (c := 4) (i := 178) rfl
theorem kk_mX5_playedOut : z_code mX5_playedOut ∈ lw_tbl := z_tb_mem (c := 4) (i := 231) rfl
theorem kk_mX5_firstMove : z_code mX5_firstMove ∈ lw_tbl := z_tb_mem (c := 5) (i := 7) rfl
theorem kk_mX5_bestPlay : z_code mX5_bestPlay ∈ lw_tbl := z_tb_mem (c := 4) (i := 235) rfl
theorem kk_mX5_leadOf : z_code mX5_leadOf ∈ lw_tbl := z_tb_mem (c := 4) (i := 239) rfl
theorem kk_mX6_init : z_code mX6_init ∈ lw_tbl := z_tb_mem (c := 0) (i := 102) rfl
theorem kk_mX6_isThere : z_code mX6_isThere ∈ lw_tbl := z_tb_mem (c := 3) (i := 161) rfl
theorem kk_mX6_isIn : z_code mX6_isIn ∈ lw_tbl := z_tb_mem (c := 3) (i := 217) rfl
theorem kk_mX6_add : z_code mX6_add ∈ lw_tbl := z_tb_mem (c := 3) (i := 22) rfl
theorem kk_mX6_awayIn : z_code mX6_awayIn ∈ lw_tbl := z_tb_mem (c := 4) (i := 173) rfl
theorem kk_mX6_copyFrom : z_code mX6_copyFrom ∈ lw_tbl := z_tb_mem (c := 3) (i := 74) rfl
theorem kk_mX7_init : z_code mX7_init ∈ lw_tbl := z_tb_mem (c := 0) (i := 52) rfl
theorem kk_mX7_hasRoom : z_code mX7_hasRoom ∈ lw_tbl := z_tb_mem (c := 2) (i := 108) rfl
theorem kk_mX7_put : z_code mX7_put ∈ lw_tbl := z_tb_mem (c := 2) (i := 112) rfl
theorem kk_mX7_open : z_code mX7_open ∈ lw_tbl := z_tb_mem (c := 2) (i := 125) rfl
theorem kk_mX7_advance : z_code mX7_advance ∈ lw_tbl := z_tb_mem (c := 2) (i := 129) rfl
theorem kk_mX7_isBetween : z_code mX7_isBetween ∈ lw_tbl := z_tb_mem (c := 2) (i := 133) rfl
theorem kk_mX7_goBehind : z_code mX7_goBehind ∈ lw_tbl := z_tb_mem (c := 2) (i := 137) rfl
theorem kk_mX7_digitsRead : z_code mX7_digitsRead ∈ lw_tbl := z_tb_mem (c := 2) (i := 194) rfl
theorem kk_mX7_signAt : z_code mX7_signAt ∈ lw_tbl := z_tb_mem (c := 2) (i := 198) rfl
theorem kk_mX7_wordNumber : z_code mX7_wordNumber ∈ lw_tbl := z_tb_mem (c := 2) (i := 141) rfl
theorem kk_mX7_fail : z_code mX7_fail ∈ lw_tbl := z_tb_mem (c := 2) (i := 210) rfl
theorem kk_mX7_take : z_code mX7_take ∈ lw_tbl := z_tb_mem (c := 3) (i := 14) rfl
theorem kk_mX7_takeNumber : z_code mX7_takeNumber ∈ lw_tbl := z_tb_mem (c := 2) (i := 215) rfl
theorem kk_mX7_sideHere : z_code mX7_sideHere ∈ lw_tbl := z_tb_mem (c := 2) (i := 232) rfl
theorem kk_mX7_takeSide : z_code mX7_takeSide ∈ lw_tbl := z_tb_mem (c := 2) (i := 228) rfl
theorem kk_mX8_init : z_code mX8_init ∈ lw_tbl := z_tb_mem (c := 0) (i := 33) rfl
theorem kk_mX8_isTray : z_code mX8_isTray ∈ lw_tbl := z_tb_mem (c := 2) (i := 39) rfl
theorem kk_mX8_isMissing : z_code mX8_isMissing ∈ lw_tbl := z_tb_mem (c := 2) (i := 64) rfl
theorem kk_mX8_has : z_code mX8_has ∈ lw_tbl := z_tb_mem (c := 2) (i := 68) rfl
theorem kk_mX8_whyNot : z_code mX8_whyNot ∈ lw_tbl := z_tb_mem (c := 2) (i := 59) rfl
theorem kk_mX8_lay : z_code mX8_lay ∈ lw_tbl := z_tb_mem (c := 2) (i := 47) rfl
theorem kk_mX8_put : z_code mX8_put ∈ lw_tbl := z_tb_mem (c := 2) (i := 72) rfl
theorem kk_mX8_look : z_code mX8_look ∈ lw_tbl := z_tb_mem (c := 2) (i := 87) rfl
theorem kk_mX8_move : z_code mX8_move ∈ lw_tbl := z_tb_mem (c := 2) (i := 97) rfl
theorem kk_mX8_cut : z_code mX8_cut ∈ lw_tbl := z_tb_mem (c := 2) (i := 75) rfl
theorem kk_mX9_init : z_code mX9_init ∈ lw_tbl := z_tb_mem (c := 0) (i := 215) rfl
theorem kk_mX9_beginAnew : z_code mX9_beginAnew ∈ lw_tbl := z_tb_mem (c := 1) (i := 24) rfl
theorem kk_mX9_add : z_code mX9_add ∈ lw_tbl := z_tb_mem (c := 3) (i := 115) rfl
theorem kk_mX9_join : z_code mX9_join ∈ lw_tbl := z_tb_mem (c := 3) (i := 119) rfl
theorem kk_mX9_copyFrom : z_code mX9_copyFrom ∈ lw_tbl := z_tb_mem (c := 3) (i := 90) rfl
theorem kk_mX10_init : z_code mX10_init ∈ lw_tbl := z_tb_mem (c := 1) (i := 118) rfl
theorem kk_mX10_readText : z_code mX10_readText ∈ lw_tbl := z_tb_mem (c := 3) (i := 102) rfl
theorem kk_mX10_readEnd : z_code mX10_readEnd ∈ lw_tbl := z_tb_mem (c := 3) (i := 108) rfl
theorem kk_mX10_readStep : z_code mX10_readStep ∈ lw_tbl := z_tb_mem (c := 3) (i := 123) rfl
theorem kk_mX10_takeNumbers : z_code mX10_takeNumbers ∈ lw_tbl := z_tb_mem (c := 3) (i := 137) rfl
theorem kk_mX10_takeSworn : z_code mX10_takeSworn ∈ lw_tbl := z_tb_mem (c := 3) (i := 133) rfl
theorem kk_mX10_takeTest : z_code mX10_takeTest ∈ lw_tbl := z_tb_mem (c := 3) (i := 127) rfl
theorem kk_mX11_init : z_code mX11_init ∈ lw_tbl := z_tb_mem (c := 0) (i := 25) rfl
theorem kk_mX11_status : z_code mX11_status ∈ lw_tbl := z_tb_mem (c := 2) (i := 24) rfl
theorem kk_mX11_top : z_code mX11_top ∈ lw_tbl := z_tb_mem (c := 2) (i := 28) rfl
theorem kk_mX11_bottom : z_code mX11_bottom ∈ lw_tbl := z_tb_mem (c := 2) (i := 32) rfl
theorem kk_mX11_tray : z_code mX11_tray ∈ lw_tbl := z_tb_mem (c := 2) (i := 36) rfl
theorem kk_mX11_write : z_code mX11_write ∈ lw_tbl := z_tb_mem (c := 2) (i := 55) rfl
theorem kk_mX11_read : z_code mX11_read ∈ lw_tbl := z_tb_mem (c := 2) (i := 79) rfl
theorem kk_mX11_pour : z_code mX11_pour ∈ lw_tbl := z_tb_mem (c := 2) (i := 91) rfl
theorem kk_mX11_feed : z_code mX11_feed ∈ lw_tbl := z_tb_mem (c := 2) (i := 104) rfl
theorem kk_mX11_parish : z_code mX11_parish ∈ lw_tbl := z_tb_mem (c := 2) (i := 116) rfl
theorem kk_mX11_years : z_code mX11_years ∈ lw_tbl := z_tb_mem (c := 3) (i := 98) rfl
theorem kk_mX11_fault : z_code mX11_fault ∈ lw_tbl := z_tb_mem (c := 3) (i := 142) rfl
theorem kk_mX11_many : z_code mX11_many ∈ lw_tbl := z_tb_mem (c := 3) (i := 146) rfl
theorem kk_mX11_chest : z_code mX11_chest ∈ lw_tbl := z_tb_mem (c := 3) (i := 150) rfl
theorem kk_mX11_right : z_code mX11_right ∈ lw_tbl := z_tb_mem (c := 3) (i := 157) rfl
theorem kk_mX11_debt : z_code mX11_debt ∈ lw_tbl := z_tb_mem (c := 3) (i := 165) rfl
theorem kk_mX11_owes : z_code mX11_owes ∈ lw_tbl := z_tb_mem (c := 3) (i := 173) rfl
theorem kk_mX11_layAgo : z_code mX11_layAgo ∈ lw_tbl := z_tb_mem (c := 3) (i := 181) rfl
theorem kk_mX11_clause : z_code mX11_clause ∈ lw_tbl := z_tb_mem (c := 3) (i := 189) rfl
theorem kk_mX11_witness : z_code mX11_witness ∈ lw_tbl := z_tb_mem (c := 3) (i := 193) rfl
theorem kk_mX11_copyWorth : z_code mX11_copyWorth ∈ lw_tbl := z_tb_mem (c := 3) (i := 197) rfl
theorem kk_mX11_month : z_code mX11_month ∈ lw_tbl := z_tb_mem (c := 3) (i := 201) rfl
theorem kk_mX11_carry : z_code mX11_carry ∈ lw_tbl := z_tb_mem (c := 3) (i := 237) rfl
theorem kk_mX11_swear : z_code mX11_swear ∈ lw_tbl := z_tb_mem (c := 4) (i := 12) rfl
theorem kk_mX11_pay : z_code mX11_pay ∈ lw_tbl := z_tb_mem (c := 4) (i := 17) rfl
theorem kk_mX11_price : z_code mX11_price ∈ lw_tbl := z_tb_mem (c := 4) (i := 30) rfl
theorem kk_mX11_grant : z_code mX11_grant ∈ lw_tbl := z_tb_mem (c := 4) (i := 34) rfl
theorem kk_mX11_claim : z_code mX11_claim ∈ lw_tbl := z_tb_mem (c := 4) (i := 39) rfl
theorem kk_mX11_rule : z_code mX11_rule ∈ lw_tbl := z_tb_mem (c := 4) (i := 47) rfl
theorem kk_mX11_chestIn : z_code mX11_chestIn ∈ lw_tbl := z_tb_mem (c := 4) (i := 52) rfl
theorem kk_mX11_tollIn : z_code mX11_tollIn ∈ lw_tbl := z_tb_mem (c := 4) (i := 57) rfl
theorem kk_mX11_bears : z_code mX11_bears ∈ lw_tbl := z_tb_mem (c := 4) (i := 61) rfl
theorem kk_mX11_gain : z_code mX11_gain ∈ lw_tbl := z_tb_mem (c := 4) (i := 66) rfl
theorem kk_mX11_changes : z_code mX11_changes ∈ lw_tbl := z_tb_mem (c := 4) (i := 94) rfl
theorem kk_mX11_net : z_code mX11_net ∈ lw_tbl := z_tb_mem (c := 4) (i := 107) rfl
theorem kk_mX11_best : z_code mX11_best ∈ lw_tbl := z_tb_mem (c := 4) (i := 117) rfl
theorem kk_mX11_isSo : z_code mX11_isSo ∈ lw_tbl := z_tb_mem (c := 4) (i := 126) rfl
theorem kk_mX11_howMany : z_code mX11_howMany ∈ lw_tbl := z_tb_mem (c := 4) (i := 142) rfl
theorem kk_mX11_bestOf : z_code mX11_bestOf ∈ lw_tbl := z_tb_mem (c := 4) (i := 151) rfl
theorem kk_mX11_even : z_code mX11_even ∈ lw_tbl := z_tb_mem (c := 4) (i := 160) rfl
theorem kk_mX11_rent : z_code mX11_rent ∈ lw_tbl := z_tb_mem (c := 4) (i := 169) rfl
theorem kk_mX11_rulings : z_code mX11_rulings ∈ lw_tbl := z_tb_mem (c := 4) (i := 185) rfl
theorem kk_mX11_rulingAt : z_code mX11_rulingAt ∈ lw_tbl := z_tb_mem (c := 4) (i := 197) rfl
theorem kk_mX11_strike : z_code mX11_strike ∈ lw_tbl := z_tb_mem (c := 4) (i := 205) rfl
theorem kk_mX11_strikeSet : z_code mX11_strikeSet ∈ lw_tbl := z_tb_mem (c := 4) (i := 215) rfl
theorem kk_mX11_sure : z_code mX11_sure ∈ lw_tbl := z_tb_mem (c := 4) (i := 219) rfl
theorem kk_mX11_game : z_code mX11_game ∈ lw_tbl := z_tb_mem (c := 4) (i := 227) rfl
theorem kk_mX11_moveOf : z_code mX11_moveOf ∈ lw_tbl := z_tb_mem (c := 5) (i := 3) rfl
theorem kk_mX11_whose : z_code mX11_whose ∈ lw_tbl := z_tb_mem (c := 5) (i := 11) rfl
theorem kk_mX11_share : z_code mX11_share ∈ lw_tbl := z_tb_mem (c := 5) (i := 19) rfl
theorem kk_mX11_live : z_code mX11_live ∈ lw_tbl := z_tb_mem (c := 5) (i := 23) rfl
theorem kk_mX11_lived : z_code mX11_lived ∈ lw_tbl := z_tb_mem (c := 5) (i := 70) rfl
theorem kk_mX11_mean : z_code mX11_mean ∈ lw_tbl := z_tb_mem (c := 5) (i := 74) rfl
theorem kk_mX11_mark : z_code mX11_mark ∈ lw_tbl := z_tb_mem (c := 5) (i := 78) rfl
theorem kk_mX11_back : z_code mX11_back ∈ lw_tbl := z_tb_mem (c := 5) (i := 82) rfl
theorem kk_mX11_answer : z_code mX11_answer ∈ lw_tbl := z_tb_mem (c := 3) (i := 94) rfl
theorem kk_mX11_refuse : z_code mX11_refuse ∈ lw_tbl := z_tb_mem (c := 2) (i := 83) rfl
theorem kk_mX11_allow : z_code mX11_allow ∈ lw_tbl := z_tb_mem (c := 2) (i := 51) rfl
theorem kk_mX11_deny : z_code mX11_deny ∈ lw_tbl := z_tb_mem (c := 2) (i := 43) rfl
theorem kk_mX11_isSide : z_code mX11_isSide ∈ lw_tbl := z_tb_mem (c := 3) (i := 153) rfl
theorem kk_mX11_isPlan : z_code mX11_isPlan ∈ lw_tbl := z_tb_mem (c := 4) (i := 42) rfl
theorem kk_mX11_isWithin : z_code mX11_isWithin ∈ lw_tbl := z_tb_mem (c := 4) (i := 0) rfl
theorem kk_mX11_keepFault : z_code mX11_keepFault ∈ lw_tbl := z_tb_mem (c := 3) (i := 66) rfl
theorem kk_mX11_tellFraction : z_code mX11_tellFraction ∈ lw_tbl := z_tb_mem (c := 5) (i := 15) rfl
theorem kk_mX12_init : z_code mX12_init ∈ lw_tbl := z_tb_mem (c := 5) (i := 87) rfl
theorem kk_mX12_status : z_code mX12_status ∈ lw_tbl := z_tb_mem (c := 5) (i := 214) rfl
theorem kk_mX12_top : z_code mX12_top ∈ lw_tbl := z_tb_mem (c := 5) (i := 218) rfl
theorem kk_mX12_bottom : z_code mX12_bottom ∈ lw_tbl := z_tb_mem (c := 5) (i := 222) rfl
theorem kk_mX12_refuse : z_code mX12_refuse ∈ lw_tbl := z_tb_mem (c := 7) (i := 38) rfl
theorem kk_mX12_no : z_code mX12_no ∈ lw_tbl := z_tb_mem (c := 5) (i := 230) rfl
theorem kk_mX12_isIn : z_code mX12_isIn ∈ lw_tbl := z_tb_mem (c := 6) (i := 99) rfl
theorem kk_mX12_fraction : z_code mX12_fraction ∈ lw_tbl := z_tb_mem (c := 8) (i := 85) rfl
theorem kk_mX12_cut : z_code mX12_cut ∈ lw_tbl := z_tb_mem (c := 6) (i := 5) rfl
theorem kk_mX12_tray : z_code mX12_tray ∈ lw_tbl := z_tb_mem (c := 5) (i := 226) rfl
theorem kk_mX12_trayed : z_code mX12_trayed ∈ lw_tbl := z_tb_mem (c := 6) (i := 2) rfl
theorem kk_mX12_placed : z_code mX12_placed ∈ lw_tbl := z_tb_mem (c := 5) (i := 238) rfl
theorem kk_mX12_write : z_code mX12_write ∈ lw_tbl := z_tb_mem (c := 5) (i := 234) rfl
theorem kk_mX12_read : z_code mX12_read ∈ lw_tbl := z_tb_mem (c := 6) (i := 9) rfl
theorem kk_mX12_pour : z_code mX12_pour ∈ lw_tbl := z_tb_mem (c := 6) (i := 14) rfl
theorem kk_mX12_isTray : z_code mX12_isTray ∈ lw_tbl := z_tb_mem (c := 7) (i := 96) rfl
theorem kk_mX12_has : z_code mX12_has ∈ lw_tbl := z_tb_mem (c := 6) (i := 80) rfl
theorem kk_mX12_sizeOf : z_code mX12_sizeOf ∈ lw_tbl := z_tb_mem (c := 8) (i := 57) rfl
theorem kk_mX12_look2 : z_code mX12_look2 ∈ lw_tbl := z_tb_mem (c := 6) (i := 42) rfl
theorem kk_mX12_isLetter : z_code mX12_isLetter ∈ lw_tbl := z_tb_mem (c := 6) (i := 45) rfl
theorem kk_mX12_isDigit : z_code mX12_isDigit ∈ lw_tbl := z_tb_mem (c := 6) (i := 50) rfl
theorem kk_mX12_isSignByte : z_code mX12_isSignByte ∈ lw_tbl := z_tb_mem (c := 6) (i := 54) rfl
theorem kk_mX12_advance : z_code mX12_advance ∈ lw_tbl := z_tb_mem (c := 6) (i := 38) rfl
theorem kk_mX12_isSign : z_code mX12_isSign ∈ lw_tbl := z_tb_mem (c := 7) (i := 6) rfl
theorem kk_mX12_spelled : z_code mX12_spelled ∈ lw_tbl := z_tb_mem (c := 6) (i := 65) rfl
theorem kk_mX12_isWord : z_code mX12_isWord ∈ lw_tbl := z_tb_mem (c := 6) (i := 69) rfl
theorem kk_mX12_isOdds : z_code mX12_isOdds ∈ lw_tbl := z_tb_mem (c := 6) (i := 62) rfl
theorem kk_mX12_isToll : z_code mX12_isToll ∈ lw_tbl := z_tb_mem (c := 6) (i := 103) rfl
theorem kk_mX12_isWar : z_code mX12_isWar ∈ lw_tbl := z_tb_mem (c := 6) (i := 107) rfl
theorem kk_mX12_isLies : z_code mX12_isLies ∈ lw_tbl := z_tb_mem (c := 6) (i := 111) rfl
theorem kk_mX12_isChest : z_code mX12_isChest ∈ lw_tbl := z_tb_mem (c := 6) (i := 128) rfl
theorem kk_mX12_isRight : z_code mX12_isRight ∈ lw_tbl := z_tb_mem (c := 6) (i := 136) rfl
theorem kk_mX12_isWorth : z_code mX12_isWorth ∈ lw_tbl := z_tb_mem (c := 6) (i := 152) rfl
theorem kk_mX12_isInWord : z_code mX12_isInWord ∈ lw_tbl := z_tb_mem (c := 6) (i := 160) rfl
theorem kk_mX12_isDebt : z_code mX12_isDebt ∈ lw_tbl := z_tb_mem (c := 6) (i := 169) rfl
theorem kk_mX12_isSum : z_code mX12_isSum ∈ lw_tbl := z_tb_mem (c := 6) (i := 177) rfl
theorem kk_mX12_isLeft : z_code mX12_isLeft ∈ lw_tbl := z_tb_mem (c := 6) (i := 181) rfl
theorem kk_mX12_isAsk : z_code mX12_isAsk ∈ lw_tbl := z_tb_mem (c := 6) (i := 189) rfl
theorem kk_mX12_isClause : z_code mX12_isClause ∈ lw_tbl := z_tb_mem (c := 6) (i := 205) rfl
theorem kk_mX12_isNot : z_code mX12_isNot ∈ lw_tbl := z_tb_mem (c := 6) (i := 209) rfl
theorem kk_mX12_isWitness : z_code mX12_isWitness ∈ lw_tbl := z_tb_mem (c := 6) (i := 213) rfl
theorem kk_mX12_sideWord : z_code mX12_sideWord ∈ lw_tbl := z_tb_mem (c := 6) (i := 123) rfl
theorem kk_mX12_kindWord : z_code mX12_kindWord ∈ lw_tbl := z_tb_mem (c := 6) (i := 148) rfl
theorem kk_mX12_stepWord : z_code mX12_stepWord ∈ lw_tbl := z_tb_mem (c := 6) (i := 222) rfl
theorem kk_mX12_testWord : z_code mX12_testWord ∈ lw_tbl := z_tb_mem (c := 6) (i := 226) rfl
theorem kk_mX12_isEnd : z_code mX12_isEnd ∈ lw_tbl := z_tb_mem (c := 6) (i := 218) rfl
theorem kk_mX12_isKept : z_code mX12_isKept ∈ lw_tbl := z_tb_mem (c := 6) (i := 201) rfl
theorem kk_mX12_isName : z_code mX12_isName ∈ lw_tbl := z_tb_mem (c := 6) (i := 197) rfl
theorem kk_mX12_fail : z_code mX12_fail ∈ lw_tbl := z_tb_mem (c := 6) (i := 84) rfl
theorem kk_mX12_amiss : z_code mX12_amiss ∈ lw_tbl := z_tb_mem (c := 6) (i := 92) rfl
theorem kk_mX12_must : z_code mX12_must ∈ lw_tbl := z_tb_mem (c := 6) (i := 88) rfl
theorem kk_mX12_count : z_code mX12_count ∈ lw_tbl := z_tb_mem (c := 6) (i := 96) rfl
theorem kk_mX12_behindWord : z_code mX12_behindWord ∈ lw_tbl := z_tb_mem (c := 6) (i := 156) rfl
theorem kk_mX12_readSide : z_code mX12_readSide ∈ lw_tbl := z_tb_mem (c := 6) (i := 119) rfl
theorem kk_mX12_feed : z_code mX12_feed ∈ lw_tbl := z_tb_mem (c := 6) (i := 18) rfl
theorem kk_mX12_lay : z_code mX12_lay ∈ lw_tbl := z_tb_mem (c := 6) (i := 22) rfl
theorem kk_mX12_starts : z_code mX12_starts ∈ lw_tbl := z_tb_mem (c := 6) (i := 34) rfl
theorem kk_mX12_isWell : z_code mX12_isWell ∈ lw_tbl := z_tb_mem (c := 7) (i := 10) rfl
theorem kk_mX12_fault : z_code mX12_fault ∈ lw_tbl := z_tb_mem (c := 6) (i := 26) rfl
theorem kk_mX12_empties : z_code mX12_empties ∈ lw_tbl := z_tb_mem (c := 5) (i := 92) rfl
theorem kk_mX12_named : z_code mX12_named ∈ lw_tbl := z_tb_mem (c := 6) (i := 230) rfl
theorem kk_mX12_once : z_code mX12_once ∈ lw_tbl := z_tb_mem (c := 6) (i := 77) rfl
theorem kk_mX12_readOnce : z_code mX12_readOnce ∈ lw_tbl := z_tb_mem (c := 6) (i := 73) rfl
theorem kk_mX12_readLies : z_code mX12_readLies ∈ lw_tbl := z_tb_mem (c := 6) (i := 115) rfl
theorem kk_mX12_readChest : z_code mX12_readChest ∈ lw_tbl := z_tb_mem (c := 6) (i := 132) rfl
theorem kk_mX12_another : z_code mX12_another ∈ lw_tbl := z_tb_mem (c := 6) (i := 144) rfl
theorem kk_mX12_readRight : z_code mX12_readRight ∈ lw_tbl := z_tb_mem (c := 6) (i := 140) rfl
theorem kk_mX12_grants : z_code mX12_grants ∈ lw_tbl := z_tb_mem (c := 6) (i := 165) rfl
theorem kk_mX12_swears : z_code mX12_swears ∈ lw_tbl := z_tb_mem (c := 6) (i := 185) rfl
theorem kk_mX12_readDebt : z_code mX12_readDebt ∈ lw_tbl := z_tb_mem (c := 6) (i := 173) rfl
theorem kk_mX12_readAsk : z_code mX12_readAsk ∈ lw_tbl := z_tb_mem (c := 6) (i := 193) rfl
theorem kk_mX12_readLiteral : z_code mX12_readLiteral ∈ lw_tbl := z_tb_mem (c := 6) (i := 238) rfl
theorem kk_mX12_readClause : z_code mX12_readClause ∈ lw_tbl := z_tb_mem (c := 6) (i := 234) rfl
theorem kk_mX12_readWitness : z_code mX12_readWitness ∈ lw_tbl := z_tb_mem (c := 7) (i := 2) rfl
theorem kk_mX12_readPart : z_code mX12_readPart ∈ lw_tbl := z_tb_mem (c := 6) (i := 58) rfl
theorem kk_mX12_parish : z_code mX12_parish ∈ lw_tbl := z_tb_mem (c := 6) (i := 30) rfl
theorem kk_mX12_readTest : z_code mX12_readTest ∈ lw_tbl := z_tb_mem (c := 7) (i := 30) rfl
theorem kk_mX12_readRest : z_code mX12_readRest ∈ lw_tbl := z_tb_mem (c := 7) (i := 26) rfl
theorem kk_mX12_readStep : z_code mX12_readStep ∈ lw_tbl := z_tb_mem (c := 7) (i := 22) rfl
theorem kk_mX12_years : z_code mX12_years ∈ lw_tbl := z_tb_mem (c := 7) (i := 18) rfl
theorem kk_mX12_isSideAt : z_code mX12_isSideAt ∈ lw_tbl := z_tb_mem (c := 7) (i := 45) rfl
theorem kk_mX12_isRightAt : z_code mX12_isRightAt ∈ lw_tbl := z_tb_mem (c := 7) (i := 53) rfl
theorem kk_mX12_isDebtAt : z_code mX12_isDebtAt ∈ lw_tbl := z_tb_mem (c := 7) (i := 62) rfl
theorem kk_mX12_isPlan : z_code mX12_isPlan ∈ lw_tbl := z_tb_mem (c := 7) (i := 170) rfl
theorem kk_mX12_bothChests : z_code mX12_bothChests ∈ lw_tbl := z_tb_mem (c := 7) (i := 128) rfl
theorem kk_mX12_many : z_code mX12_many ∈ lw_tbl := z_tb_mem (c := 7) (i := 34) rfl
theorem kk_mX12_chest : z_code mX12_chest ∈ lw_tbl := z_tb_mem (c := 7) (i := 42) rfl
theorem kk_mX12_right : z_code mX12_right ∈ lw_tbl := z_tb_mem (c := 7) (i := 49) rfl
theorem kk_mX12_debt : z_code mX12_debt ∈ lw_tbl := z_tb_mem (c := 7) (i := 58) rfl
theorem kk_mX12_owed : z_code mX12_owed ∈ lw_tbl := z_tb_mem (c := 7) (i := 71) rfl
theorem kk_mX12_owes : z_code mX12_owes ∈ lw_tbl := z_tb_mem (c := 7) (i := 67) rfl
theorem kk_mX12_layOf : z_code mX12_layOf ∈ lw_tbl := z_tb_mem (c := 7) (i := 80) rfl
theorem kk_mX12_layAgo : z_code mX12_layAgo ∈ lw_tbl := z_tb_mem (c := 7) (i := 75) rfl
theorem kk_mX12_clause : z_code mX12_clause ∈ lw_tbl := z_tb_mem (c := 7) (i := 84) rfl
theorem kk_mX12_witness : z_code mX12_witness ∈ lw_tbl := z_tb_mem (c := 7) (i := 88) rfl
theorem kk_mX12_copyWorth : z_code mX12_copyWorth ∈ lw_tbl := z_tb_mem (c := 7) (i := 92) rfl
theorem kk_mX12_isBorne : z_code mX12_isBorne ∈ lw_tbl := z_tb_mem (c := 7) (i := 115) rfl
theorem kk_mX12_borne : z_code mX12_borne ∈ lw_tbl := z_tb_mem (c := 7) (i := 111) rfl
theorem kk_mX12_dropDebt : z_code mX12_dropDebt ∈ lw_tbl := z_tb_mem (c := 7) (i := 124) rfl
theorem kk_mX12_brings : z_code mX12_brings ∈ lw_tbl := z_tb_mem (c := 7) (i := 119) rfl
theorem kk_mX12_passes : z_code mX12_passes ∈ lw_tbl := z_tb_mem (c := 7) (i := 107) rfl
theorem kk_mX12_month : z_code mX12_month ∈ lw_tbl := z_tb_mem (c := 7) (i := 102) rfl
theorem kk_mX12_hasToll : z_code mX12_hasToll ∈ lw_tbl := z_tb_mem (c := 7) (i := 141) rfl
theorem kk_mX12_carries : z_code mX12_carries ∈ lw_tbl := z_tb_mem (c := 7) (i := 137) rfl
theorem kk_mX12_carry : z_code mX12_carry ∈ lw_tbl := z_tb_mem (c := 7) (i := 132) rfl
theorem kk_mX12_swear : z_code mX12_swear ∈ lw_tbl := z_tb_mem (c := 7) (i := 145) rfl
theorem kk_mX12_pays : z_code mX12_pays ∈ lw_tbl := z_tb_mem (c := 7) (i := 154) rfl
theorem kk_mX12_pay : z_code mX12_pay ∈ lw_tbl := z_tb_mem (c := 7) (i := 150) rfl
theorem kk_mX12_price : z_code mX12_price ∈ lw_tbl := z_tb_mem (c := 7) (i := 158) rfl
theorem kk_mX12_grant : z_code mX12_grant ∈ lw_tbl := z_tb_mem (c := 7) (i := 163) rfl
theorem kk_mX12_claim : z_code mX12_claim ∈ lw_tbl := z_tb_mem (c := 7) (i := 167) rfl
theorem kk_mX12_rule : z_code mX12_rule ∈ lw_tbl := z_tb_mem (c := 7) (i := 175) rfl
theorem kk_mX12_keeps : z_code mX12_keeps ∈ lw_tbl := z_tb_mem (c := 7) (i := 187) rfl
theorem kk_mX12_restores : z_code mX12_restores ∈ lw_tbl := z_tb_mem (c := 7) (i := 191) rfl
theorem kk_mX12_chestIn : z_code mX12_chestIn ∈ lw_tbl := z_tb_mem (c := 7) (i := 182) rfl
theorem kk_mX12_tollIn : z_code mX12_tollIn ∈ lw_tbl := z_tb_mem (c := 7) (i := 195) rfl
theorem kk_mX12_bears : z_code mX12_bears ∈ lw_tbl := z_tb_mem (c := 7) (i := 199) rfl
theorem kk_mX12_lyingBy : z_code mX12_lyingBy ∈ lw_tbl := z_tb_mem (c := 7) (i := 210) rfl
theorem kk_mX12_gainOf : z_code mX12_gainOf ∈ lw_tbl := z_tb_mem (c := 7) (i := 207) rfl
theorem kk_mX12_changesOf : z_code mX12_changesOf ∈ lw_tbl := z_tb_mem (c := 7) (i := 217) rfl
theorem kk_mX12_laysPlans : z_code mX12_laysPlans ∈ lw_tbl := z_tb_mem (c := 7) (i := 230) rfl
theorem kk_mX12_gain : z_code mX12_gain ∈ lw_tbl := z_tb_mem (c := 7) (i := 203) rfl
theorem kk_mX12_changes : z_code mX12_changes ∈ lw_tbl := z_tb_mem (c := 7) (i := 214) rfl
theorem kk_mX12_net : z_code mX12_net ∈ lw_tbl := z_tb_mem (c := 7) (i := 221) rfl
theorem kk_mX12_best : z_code mX12_best ∈ lw_tbl := z_tb_mem (c := 7) (i := 225) rfl
theorem kk_mX12_isFair : z_code mX12_isFair ∈ lw_tbl := z_tb_mem (c := 8) (i := 2) rfl
theorem kk_mX12_isTreaty : z_code mX12_isTreaty ∈ lw_tbl := z_tb_mem (c := 8) (i := 6) rfl
theorem kk_mX12_isSuch : z_code mX12_isSuch ∈ lw_tbl := z_tb_mem (c := 7) (i := 238) rfl
theorem kk_mX12_isSo : z_code mX12_isSo ∈ lw_tbl := z_tb_mem (c := 7) (i := 234) rfl
theorem kk_mX12_howMany : z_code mX12_howMany ∈ lw_tbl := z_tb_mem (c := 8) (i := 10) rfl
theorem kk_mX12_bestOf : z_code mX12_bestOf ∈ lw_tbl := z_tb_mem (c := 8) (i := 14) rfl
theorem kk_mX12_lesser : z_code mX12_lesser ∈ lw_tbl := z_tb_mem (c := 8) (i := 22) rfl
theorem kk_mX12_even : z_code mX12_even ∈ lw_tbl := z_tb_mem (c := 8) (i := 18) rfl
theorem kk_mX12_greatestNet : z_code mX12_greatestNet ∈ lw_tbl := z_tb_mem (c := 8) (i := 30) rfl
theorem kk_mX12_rent : z_code mX12_rent ∈ lw_tbl := z_tb_mem (c := 8) (i := 26) rfl
theorem kk_mX12_allQuestions : z_code mX12_allQuestions ∈ lw_tbl := z_tb_mem (c := 8) (i := 38) rfl
theorem kk_mX12_brokenBy : z_code mX12_brokenBy ∈ lw_tbl := z_tb_mem (c := 8) (i := 42) rfl
theorem kk_mX12_rulings : z_code mX12_rulings ∈ lw_tbl := z_tb_mem (c := 8) (i := 34) rfl
theorem kk_mX12_rulingAt : z_code mX12_rulingAt ∈ lw_tbl := z_tb_mem (c := 8) (i := 46) rfl
theorem kk_mX12_striking : z_code mX12_striking ∈ lw_tbl := z_tb_mem (c := 8) (i := 54) rfl
theorem kk_mX12_strike : z_code mX12_strike ∈ lw_tbl := z_tb_mem (c := 8) (i := 50) rfl
theorem kk_mX12_strikeSet : z_code mX12_strikeSet ∈ lw_tbl := z_tb_mem (c := 8) (i := 61) rfl
theorem kk_mX12_sure : z_code mX12_sure ∈ lw_tbl := z_tb_mem (c := 8) (i := 65) rfl
theorem kk_mX12_plays : z_code mX12_plays ∈ lw_tbl := z_tb_mem (c := 8) (i := 73) rfl
theorem kk_mX12_game : z_code mX12_game ∈ lw_tbl := z_tb_mem (c := 8) (i := 69) rfl
theorem kk_mX12_moveOf : z_code mX12_moveOf ∈ lw_tbl := z_tb_mem (c := 8) (i := 77) rfl
theorem kk_mX12_whose : z_code mX12_whose ∈ lw_tbl := z_tb_mem (c := 8) (i := 81) rfl
theorem kk_mX12_share : z_code mX12_share ∈ lw_tbl := z_tb_mem (c := 8) (i := 92) rfl
theorem kk_mX12_draw : z_code mX12_draw ∈ lw_tbl := z_tb_mem (c := 8) (i := 129) rfl
theorem kk_mX12_pass : z_code mX12_pass ∈ lw_tbl := z_tb_mem (c := 8) (i := 117) rfl
theorem kk_mX12_isAny : z_code mX12_isAny ∈ lw_tbl := z_tb_mem (c := 8) (i := 125) rfl
theorem kk_mX12_isSworn : z_code mX12_isSworn ∈ lw_tbl := z_tb_mem (c := 8) (i := 121) rfl
theorem kk_mX12_does : z_code mX12_does ∈ lw_tbl := z_tb_mem (c := 8) (i := 113) rfl
theorem kk_mX12_holds : z_code mX12_holds ∈ lw_tbl := z_tb_mem (c := 8) (i := 134) rfl
theorem kk_mX12_doOne : z_code mX12_doOne ∈ lw_tbl := z_tb_mem (c := 8) (i := 109) rfl
theorem kk_mX12_doAll : z_code mX12_doAll ∈ lw_tbl := z_tb_mem (c := 8) (i := 105) rfl
theorem kk_mX12_runsYears : z_code mX12_runsYears ∈ lw_tbl := z_tb_mem (c := 8) (i := 101) rfl
theorem kk_mX12_live : z_code mX12_live ∈ lw_tbl := z_tb_mem (c := 8) (i := 96) rfl
theorem kk_mX12_lived : z_code mX12_lived ∈ lw_tbl := z_tb_mem (c := 8) (i := 138) rfl
theorem kk_mX12_mean : z_code mX12_mean ∈ lw_tbl := z_tb_mem (c := 8) (i := 142) rfl
theorem kk_mX12_copy : z_code mX12_copy ∈ lw_tbl := z_tb_mem (c := 7) (i := 14) rfl
theorem kk_mX12_mark : z_code mX12_mark ∈ lw_tbl := z_tb_mem (c := 8) (i := 146) rfl
theorem kk_mX12_back : z_code mX12_back ∈ lw_tbl := z_tb_mem (c := 8) (i := 150) rfl
theorem kk_mJ6_bitCount_0f7a4 : z_code mJ6_bitCount_0f7a4 ∈ lw_tbl := z_tb_mem (c := 4) (i := 100) rfl
set_option maxRecDepth 100000 in
theorem z_all_code : ∀ m ∈ z_all, z_code m ∈ lw_tbl := List.forall_mem_cons.mpr ⟨kk_mX0_init, List.forall_mem_cons.mpr ⟨kk_mX0_beginAnew, List.forall_mem_cons.mpr ⟨kk_mX0_addClause, List.forall_mem_cons.mpr ⟨kk_mX0_addWitness, List.forall_mem_cons.mpr ⟨kk_mX0_brokenBy, List.forall_mem_cons.mpr ⟨kk_mX0_countRulings, List.forall_mem_cons.mpr ⟨kk_mX0_findRuling, List.forall_mem_cons.mpr ⟨kk_mX0_leastStrike, List.forall_mem_cons.mpr ⟨kk_mX0_sureTruth, List.forall_mem_cons.mpr ⟨kk_mX0_copyFrom, List.forall_mem_cons.mpr ⟨kk_mX1_init, List.forall_mem_cons.mpr ⟨kk_mX1_isThere, List.forall_mem_cons.mpr ⟨kk_mX1_add, List.forall_mem_cons.mpr ⟨kk_mX1_drop, List.forall_mem_cons.mpr ⟨kk_mX1_age, List.forall_mem_cons.mpr ⟨kk_mX1_lapseAll, List.forall_mem_cons.mpr ⟨kk_mX1_owedBy, List.forall_mem_cons.mpr ⟨kk_mX1_copyFrom, List.forall_mem_cons.mpr ⟨kk_mX1_copyOne, List.forall_mem_cons.mpr ⟨kk_mX2_init, List.forall_mem_cons.mpr ⟨kk_mX2_run, List.forall_mem_cons.mpr ⟨kk_mX2_begin, List.forall_mem_cons.mpr ⟨kk_mX2_finish, List.forall_mem_cons.mpr ⟨kk_mX2_behindEnd, List.forall_mem_cons.mpr ⟨kk_mX2_behindStep, List.forall_mem_cons.mpr ⟨kk_mX2_isDone, List.forall_mem_cons.mpr ⟨kk_mX2_isAnyDone, List.forall_mem_cons.mpr ⟨kk_mX2_drawBy, List.forall_mem_cons.mpr ⟨kk_mX2_holds, List.forall_mem_cons.mpr ⟨kk_mX3_init, List.forall_mem_cons.mpr ⟨kk_mX3_beginAnew, List.forall_mem_cons.mpr ⟨kk_mX3_lieEver, List.forall_mem_cons.mpr ⟨kk_mX3_setRule, List.forall_mem_cons.mpr ⟨kk_mX3_bothChests, List.forall_mem_cons.mpr ⟨kk_mX3_sideAgo, List.forall_mem_cons.mpr ⟨kk_mX3_isBearing, List.forall_mem_cons.mpr ⟨kk_mX3_passMonth, List.forall_mem_cons.mpr ⟨kk_mX3_passMonths, List.forall_mem_cons.mpr ⟨kk_mX3_carryBy, List.forall_mem_cons.mpr ⟨kk_mX3_payDebt, List.forall_mem_cons.mpr ⟨kk_mX3_bring, List.forall_mem_cons.mpr ⟨kk_mX3_copyFrom, List.forall_mem_cons.mpr ⟨kk_mX4_init, List.forall_mem_cons.mpr ⟨kk_mX4_readText, List.forall_mem_cons.mpr ⟨kk_mX4_isFirst, List.forall_mem_cons.mpr ⟨kk_mX4_hasRoom, List.forall_mem_cons.mpr ⟨kk_mX4_readRule, List.forall_mem_cons.mpr ⟨kk_mX4_readLies, List.forall_mem_cons.mpr ⟨kk_mX4_readChest, List.forall_mem_cons.mpr ⟨kk_mX4_readRight, List.forall_mem_cons.mpr ⟨kk_mX4_kindHere, List.forall_mem_cons.mpr ⟨kk_mX4_takeMonths, List.forall_mem_cons.mpr ⟨kk_mX4_readDebt, List.forall_mem_cons.mpr ⟨kk_mX4_readAsk, List.forall_mem_cons.mpr ⟨kk_mX4_questionHere, List.forall_mem_cons.mpr ⟨kk_mX4_isNameHere, List.forall_mem_cons.mpr ⟨kk_mX4_readClause, List.forall_mem_cons.mpr ⟨kk_mX4_takeLiteral, List.forall_mem_cons.mpr ⟨kk_mX4_readWitness, List.forall_mem_cons.mpr ⟨kk_mX5_init, List.forall_mem_cons.mpr ⟨kk_mX5_weigh, List.forall_mem_cons.mpr ⟨kk_mX5_foughtBy, List.forall_mem_cons.mpr ⟨kk_mX5_weighRight, List.forall_mem_cons.mpr ⟨kk_mX5_bearingAt, List.forall_mem_cons.mpr ⟨kk_mX5_sumHalf, List.forall_mem_cons.mpr ⟨kk_mX5_gainOf, List.forall_mem_cons.mpr ⟨kk_mX5_changesOf, List.forall_mem_cons.mpr ⟨kk_mX5_netOf, List.forall_mem_cons.mpr ⟨kk_mX5_bestWithin, List.forall_mem_cons.mpr ⟨kk_mX5_isOf, List.forall_mem_cons.mpr ⟨kk_mX5_isFair, List.forall_mem_cons.mpr ⟨kk_mX5_isTreaty, List.forall_mem_cons.mpr ⟨kk_mX5_countOf, List.forall_mem_cons.mpr ⟨kk_mX5_bestAmong, List.forall_mem_cons.mpr ⟨kk_mX5_evenPlan, List.forall_mem_cons.mpr ⟨kk_mX5_greatestWithout, List.forall_mem_cons.mpr ⟨kk_mX5_playedOut, List.forall_mem_cons.mpr ⟨kk_mX5_firstMove, List.forall_mem_cons.mpr ⟨kk_mX5_bestPlay, List.forall_mem_cons.mpr ⟨kk_mX5_leadOf, List.forall_mem_cons.mpr ⟨kk_mX6_init, List.forall_mem_cons.mpr ⟨kk_mX6_isThere, List.forall_mem_cons.mpr ⟨kk_mX6_isIn, List.forall_mem_cons.mpr ⟨kk_mX6_add, List.forall_mem_cons.mpr ⟨kk_mX6_awayIn, List.forall_mem_cons.mpr ⟨kk_mX6_copyFrom, List.forall_mem_cons.mpr ⟨kk_mX7_init, List.forall_mem_cons.mpr ⟨kk_mX7_hasRoom, List.forall_mem_cons.mpr ⟨kk_mX7_put, List.forall_mem_cons.mpr ⟨kk_mX7_open, List.forall_mem_cons.mpr ⟨kk_mX7_advance, List.forall_mem_cons.mpr ⟨kk_mX7_isBetween, List.forall_mem_cons.mpr ⟨kk_mX7_goBehind, List.forall_mem_cons.mpr ⟨kk_mX7_digitsRead, List.forall_mem_cons.mpr ⟨kk_mX7_signAt, List.forall_mem_cons.mpr ⟨kk_mX7_wordNumber, List.forall_mem_cons.mpr ⟨kk_mX7_fail, List.forall_mem_cons.mpr ⟨kk_mX7_take, List.forall_mem_cons.mpr ⟨kk_mX7_takeNumber, List.forall_mem_cons.mpr ⟨kk_mX7_sideHere, List.forall_mem_cons.mpr ⟨kk_mX7_takeSide, List.forall_mem_cons.mpr ⟨kk_mX8_init, List.forall_mem_cons.mpr ⟨kk_mX8_isTray, List.forall_mem_cons.mpr ⟨kk_mX8_isMissing, List.forall_mem_cons.mpr ⟨kk_mX8_has, List.forall_mem_cons.mpr ⟨kk_mX8_whyNot, List.forall_mem_cons.mpr ⟨kk_mX8_lay, List.forall_mem_cons.mpr ⟨kk_mX8_put, List.forall_mem_cons.mpr ⟨kk_mX8_look, List.forall_mem_cons.mpr ⟨kk_mX8_move, List.forall_mem_cons.mpr ⟨kk_mX8_cut, List.forall_mem_cons.mpr ⟨kk_mX9_init, List.forall_mem_cons.mpr ⟨kk_mX9_beginAnew, List.forall_mem_cons.mpr ⟨kk_mX9_add, List.forall_mem_cons.mpr ⟨kk_mX9_join, List.forall_mem_cons.mpr ⟨kk_mX9_copyFrom, List.forall_mem_cons.mpr ⟨kk_mX10_init, List.forall_mem_cons.mpr ⟨kk_mX10_readText, List.forall_mem_cons.mpr ⟨kk_mX10_readEnd, List.forall_mem_cons.mpr ⟨kk_mX10_readStep, List.forall_mem_cons.mpr ⟨kk_mX10_takeNumbers, List.forall_mem_cons.mpr ⟨kk_mX10_takeSworn, List.forall_mem_cons.mpr ⟨kk_mX10_takeTest, List.forall_mem_cons.mpr ⟨kk_mX11_init, List.forall_mem_cons.mpr ⟨kk_mX11_status, List.forall_mem_cons.mpr ⟨kk_mX11_top, List.forall_mem_cons.mpr ⟨kk_mX11_bottom, List.forall_mem_cons.mpr ⟨kk_mX11_tray, List.forall_mem_cons.mpr ⟨kk_mX11_write, List.forall_mem_cons.mpr ⟨kk_mX11_read, List.forall_mem_cons.mpr ⟨kk_mX11_pour, List.forall_mem_cons.mpr ⟨kk_mX11_feed, List.forall_mem_cons.mpr ⟨kk_mX11_parish, List.forall_mem_cons.mpr ⟨kk_mX11_years, List.forall_mem_cons.mpr ⟨kk_mX11_fault, List.forall_mem_cons.mpr ⟨kk_mX11_many, List.forall_mem_cons.mpr ⟨kk_mX11_chest, List.forall_mem_cons.mpr ⟨kk_mX11_right, List.forall_mem_cons.mpr ⟨kk_mX11_debt, List.forall_mem_cons.mpr ⟨kk_mX11_owes, List.forall_mem_cons.mpr ⟨kk_mX11_layAgo, List.forall_mem_cons.mpr ⟨kk_mX11_clause, List.forall_mem_cons.mpr ⟨kk_mX11_witness, List.forall_mem_cons.mpr ⟨kk_mX11_copyWorth, List.forall_mem_cons.mpr ⟨kk_mX11_month, List.forall_mem_cons.mpr ⟨kk_mX11_carry, List.forall_mem_cons.mpr ⟨kk_mX11_swear, List.forall_mem_cons.mpr ⟨kk_mX11_pay, List.forall_mem_cons.mpr ⟨kk_mX11_price, List.forall_mem_cons.mpr ⟨kk_mX11_grant, List.forall_mem_cons.mpr ⟨kk_mX11_claim, List.forall_mem_cons.mpr ⟨kk_mX11_rule, List.forall_mem_cons.mpr ⟨kk_mX11_chestIn, List.forall_mem_cons.mpr ⟨kk_mX11_tollIn, List.forall_mem_cons.mpr ⟨kk_mX11_bears, List.forall_mem_cons.mpr ⟨kk_mX11_gain, List.forall_mem_cons.mpr ⟨kk_mX11_changes, List.forall_mem_cons.mpr ⟨kk_mX11_net, List.forall_mem_cons.mpr ⟨kk_mX11_best, List.forall_mem_cons.mpr ⟨kk_mX11_isSo, List.forall_mem_cons.mpr ⟨kk_mX11_howMany, List.forall_mem_cons.mpr ⟨kk_mX11_bestOf, List.forall_mem_cons.mpr ⟨kk_mX11_even, List.forall_mem_cons.mpr ⟨kk_mX11_rent, List.forall_mem_cons.mpr ⟨kk_mX11_rulings, List.forall_mem_cons.mpr ⟨kk_mX11_rulingAt, List.forall_mem_cons.mpr ⟨kk_mX11_strike, List.forall_mem_cons.mpr ⟨kk_mX11_strikeSet, List.forall_mem_cons.mpr ⟨kk_mX11_sure, List.forall_mem_cons.mpr ⟨kk_mX11_game, List.forall_mem_cons.mpr ⟨kk_mX11_moveOf, List.forall_mem_cons.mpr ⟨kk_mX11_whose, List.forall_mem_cons.mpr ⟨kk_mX11_share, List.forall_mem_cons.mpr ⟨kk_mX11_live, List.forall_mem_cons.mpr ⟨kk_mX11_lived, List.forall_mem_cons.mpr ⟨kk_mX11_mean, List.forall_mem_cons.mpr ⟨kk_mX11_mark, List.forall_mem_cons.mpr ⟨kk_mX11_back, List.forall_mem_cons.mpr ⟨kk_mX11_answer, List.forall_mem_cons.mpr ⟨kk_mX11_refuse, List.forall_mem_cons.mpr ⟨kk_mX11_allow, List.forall_mem_cons.mpr ⟨kk_mX11_deny, List.forall_mem_cons.mpr ⟨kk_mX11_isSide, List.forall_mem_cons.mpr ⟨kk_mX11_isPlan, List.forall_mem_cons.mpr ⟨kk_mX11_isWithin, List.forall_mem_cons.mpr ⟨kk_mX11_keepFault, List.forall_mem_cons.mpr ⟨kk_mX11_tellFraction, List.forall_mem_cons.mpr ⟨kk_mX12_init, List.forall_mem_cons.mpr ⟨kk_mX12_status, List.forall_mem_cons.mpr ⟨kk_mX12_top, List.forall_mem_cons.mpr ⟨kk_mX12_bottom, List.forall_mem_cons.mpr ⟨kk_mX12_refuse, List.forall_mem_cons.mpr ⟨kk_mX12_no, List.forall_mem_cons.mpr ⟨kk_mX12_isIn, List.forall_mem_cons.mpr ⟨kk_mX12_fraction, List.forall_mem_cons.mpr ⟨kk_mX12_cut, List.forall_mem_cons.mpr ⟨kk_mX12_tray, List.forall_mem_cons.mpr ⟨kk_mX12_trayed, List.forall_mem_cons.mpr ⟨kk_mX12_placed, List.forall_mem_cons.mpr ⟨kk_mX12_write, List.forall_mem_cons.mpr ⟨kk_mX12_read, List.forall_mem_cons.mpr ⟨kk_mX12_pour, List.forall_mem_cons.mpr ⟨kk_mX12_isTray, List.forall_mem_cons.mpr ⟨kk_mX12_has, List.forall_mem_cons.mpr ⟨kk_mX12_sizeOf, List.forall_mem_cons.mpr ⟨kk_mX12_look2, List.forall_mem_cons.mpr ⟨kk_mX12_isLetter, List.forall_mem_cons.mpr ⟨kk_mX12_isDigit, List.forall_mem_cons.mpr ⟨kk_mX12_isSignByte, List.forall_mem_cons.mpr ⟨kk_mX12_advance, List.forall_mem_cons.mpr ⟨kk_mX12_isSign, List.forall_mem_cons.mpr ⟨kk_mX12_spelled, List.forall_mem_cons.mpr ⟨kk_mX12_isWord, List.forall_mem_cons.mpr ⟨kk_mX12_isOdds, List.forall_mem_cons.mpr ⟨kk_mX12_isToll, List.forall_mem_cons.mpr ⟨kk_mX12_isWar, List.forall_mem_cons.mpr ⟨kk_mX12_isLies, List.forall_mem_cons.mpr ⟨kk_mX12_isChest, List.forall_mem_cons.mpr ⟨kk_mX12_isRight, List.forall_mem_cons.mpr ⟨kk_mX12_isWorth, List.forall_mem_cons.mpr ⟨kk_mX12_isInWord, List.forall_mem_cons.mpr ⟨kk_mX12_isDebt, List.forall_mem_cons.mpr ⟨kk_mX12_isSum, List.forall_mem_cons.mpr ⟨kk_mX12_isLeft, List.forall_mem_cons.mpr ⟨kk_mX12_isAsk, List.forall_mem_cons.mpr ⟨kk_mX12_isClause, List.forall_mem_cons.mpr ⟨kk_mX12_isNot, List.forall_mem_cons.mpr ⟨kk_mX12_isWitness, List.forall_mem_cons.mpr ⟨kk_mX12_sideWord, List.forall_mem_cons.mpr ⟨kk_mX12_kindWord, List.forall_mem_cons.mpr ⟨kk_mX12_stepWord, List.forall_mem_cons.mpr ⟨kk_mX12_testWord, List.forall_mem_cons.mpr ⟨kk_mX12_isEnd, List.forall_mem_cons.mpr ⟨kk_mX12_isKept, List.forall_mem_cons.mpr ⟨kk_mX12_isName, List.forall_mem_cons.mpr ⟨kk_mX12_fail, List.forall_mem_cons.mpr ⟨kk_mX12_amiss, List.forall_mem_cons.mpr ⟨kk_mX12_must, List.forall_mem_cons.mpr ⟨kk_mX12_count, List.forall_mem_cons.mpr ⟨kk_mX12_behindWord, List.forall_mem_cons.mpr ⟨kk_mX12_readSide, List.forall_mem_cons.mpr ⟨kk_mX12_feed, List.forall_mem_cons.mpr ⟨kk_mX12_lay, List.forall_mem_cons.mpr ⟨kk_mX12_starts, List.forall_mem_cons.mpr ⟨kk_mX12_isWell, List.forall_mem_cons.mpr ⟨kk_mX12_fault, List.forall_mem_cons.mpr ⟨kk_mX12_empties, List.forall_mem_cons.mpr ⟨kk_mX12_named, List.forall_mem_cons.mpr ⟨kk_mX12_once, List.forall_mem_cons.mpr ⟨kk_mX12_readOnce, List.forall_mem_cons.mpr ⟨kk_mX12_readLies, List.forall_mem_cons.mpr ⟨kk_mX12_readChest, List.forall_mem_cons.mpr ⟨kk_mX12_another, List.forall_mem_cons.mpr ⟨kk_mX12_readRight, List.forall_mem_cons.mpr ⟨kk_mX12_grants, List.forall_mem_cons.mpr ⟨kk_mX12_swears, List.forall_mem_cons.mpr ⟨kk_mX12_readDebt, List.forall_mem_cons.mpr ⟨kk_mX12_readAsk, List.forall_mem_cons.mpr ⟨kk_mX12_readLiteral, List.forall_mem_cons.mpr ⟨kk_mX12_readClause, List.forall_mem_cons.mpr ⟨kk_mX12_readWitness, List.forall_mem_cons.mpr ⟨kk_mX12_readPart, List.forall_mem_cons.mpr ⟨kk_mX12_parish, List.forall_mem_cons.mpr ⟨kk_mX12_readTest, List.forall_mem_cons.mpr ⟨kk_mX12_readRest, List.forall_mem_cons.mpr ⟨kk_mX12_readStep, List.forall_mem_cons.mpr ⟨kk_mX12_years, List.forall_mem_cons.mpr ⟨kk_mX12_isSideAt, List.forall_mem_cons.mpr ⟨kk_mX12_isRightAt, List.forall_mem_cons.mpr ⟨kk_mX12_isDebtAt, List.forall_mem_cons.mpr ⟨kk_mX12_isPlan, List.forall_mem_cons.mpr ⟨kk_mX12_bothChests, List.forall_mem_cons.mpr ⟨kk_mX12_many, List.forall_mem_cons.mpr ⟨kk_mX12_chest, List.forall_mem_cons.mpr ⟨kk_mX12_right, List.forall_mem_cons.mpr ⟨kk_mX12_debt, List.forall_mem_cons.mpr ⟨kk_mX12_owed, List.forall_mem_cons.mpr ⟨kk_mX12_owes, List.forall_mem_cons.mpr ⟨kk_mX12_layOf, List.forall_mem_cons.mpr ⟨kk_mX12_layAgo, List.forall_mem_cons.mpr ⟨kk_mX12_clause, List.forall_mem_cons.mpr ⟨kk_mX12_witness, List.forall_mem_cons.mpr ⟨kk_mX12_copyWorth, List.forall_mem_cons.mpr ⟨kk_mX12_isBorne, List.forall_mem_cons.mpr ⟨kk_mX12_borne, List.forall_mem_cons.mpr ⟨kk_mX12_dropDebt, List.forall_mem_cons.mpr ⟨kk_mX12_brings, List.forall_mem_cons.mpr ⟨kk_mX12_passes, List.forall_mem_cons.mpr ⟨kk_mX12_month, List.forall_mem_cons.mpr ⟨kk_mX12_hasToll, List.forall_mem_cons.mpr ⟨kk_mX12_carries, List.forall_mem_cons.mpr ⟨kk_mX12_carry, List.forall_mem_cons.mpr ⟨kk_mX12_swear, List.forall_mem_cons.mpr ⟨kk_mX12_pays, List.forall_mem_cons.mpr ⟨kk_mX12_pay, List.forall_mem_cons.mpr ⟨kk_mX12_price, List.forall_mem_cons.mpr ⟨kk_mX12_grant, List.forall_mem_cons.mpr ⟨kk_mX12_claim, List.forall_mem_cons.mpr ⟨kk_mX12_rule, List.forall_mem_cons.mpr ⟨kk_mX12_keeps, List.forall_mem_cons.mpr ⟨kk_mX12_restores, List.forall_mem_cons.mpr ⟨kk_mX12_chestIn, List.forall_mem_cons.mpr ⟨kk_mX12_tollIn, List.forall_mem_cons.mpr ⟨kk_mX12_bears, List.forall_mem_cons.mpr ⟨kk_mX12_lyingBy, List.forall_mem_cons.mpr ⟨kk_mX12_gainOf, List.forall_mem_cons.mpr ⟨kk_mX12_changesOf, List.forall_mem_cons.mpr ⟨kk_mX12_laysPlans, List.forall_mem_cons.mpr ⟨kk_mX12_gain, List.forall_mem_cons.mpr ⟨kk_mX12_changes, List.forall_mem_cons.mpr ⟨kk_mX12_net, List.forall_mem_cons.mpr ⟨kk_mX12_best, List.forall_mem_cons.mpr ⟨kk_mX12_isFair, List.forall_mem_cons.mpr ⟨kk_mX12_isTreaty, List.forall_mem_cons.mpr ⟨kk_mX12_isSuch, List.forall_mem_cons.mpr ⟨kk_mX12_isSo, List.forall_mem_cons.mpr ⟨kk_mX12_howMany, List.forall_mem_cons.mpr ⟨kk_mX12_bestOf, List.forall_mem_cons.mpr ⟨kk_mX12_lesser, List.forall_mem_cons.mpr ⟨kk_mX12_even, List.forall_mem_cons.mpr ⟨kk_mX12_greatestNet, List.forall_mem_cons.mpr ⟨kk_mX12_rent, List.forall_mem_cons.mpr ⟨kk_mX12_allQuestions, List.forall_mem_cons.mpr ⟨kk_mX12_brokenBy, List.forall_mem_cons.mpr ⟨kk_mX12_rulings, List.forall_mem_cons.mpr ⟨kk_mX12_rulingAt, List.forall_mem_cons.mpr ⟨kk_mX12_striking, List.forall_mem_cons.mpr ⟨kk_mX12_strike, List.forall_mem_cons.mpr ⟨kk_mX12_strikeSet, List.forall_mem_cons.mpr ⟨kk_mX12_sure, List.forall_mem_cons.mpr ⟨kk_mX12_plays, List.forall_mem_cons.mpr ⟨kk_mX12_game, List.forall_mem_cons.mpr ⟨kk_mX12_moveOf, List.forall_mem_cons.mpr ⟨kk_mX12_whose, List.forall_mem_cons.mpr ⟨kk_mX12_share, List.forall_mem_cons.mpr ⟨kk_mX12_draw, List.forall_mem_cons.mpr ⟨kk_mX12_pass, List.forall_mem_cons.mpr ⟨kk_mX12_isAny, List.forall_mem_cons.mpr ⟨kk_mX12_isSworn, List.forall_mem_cons.mpr ⟨kk_mX12_does, List.forall_mem_cons.mpr ⟨kk_mX12_holds, List.forall_mem_cons.mpr ⟨kk_mX12_doOne, List.forall_mem_cons.mpr ⟨kk_mX12_doAll, List.forall_mem_cons.mpr ⟨kk_mX12_runsYears, List.forall_mem_cons.mpr ⟨kk_mX12_live, List.forall_mem_cons.mpr ⟨kk_mX12_lived, List.forall_mem_cons.mpr ⟨kk_mX12_mean, List.forall_mem_cons.mpr ⟨kk_mX12_copy, List.forall_mem_cons.mpr ⟨kk_mX12_mark, List.forall_mem_cons.mpr ⟨kk_mX12_back, List.forall_mem_cons.mpr ⟨kk_mJ6_bitCount_0f7a4, fun _ h => absurd h List.not_mem_nil⟩⟩⟩⟩⟩⟩⟩⟩⟩⟩⟩⟩⟩⟩⟩⟩⟩⟩⟩⟩⟩⟩⟩⟩⟩⟩⟩⟩⟩⟩⟩⟩⟩⟩⟩⟩⟩⟩⟩⟩⟩⟩⟩⟩⟩⟩⟩⟩⟩⟩⟩⟩⟩⟩⟩⟩⟩⟩⟩⟩⟩⟩⟩⟩⟩⟩⟩⟩⟩⟩⟩⟩⟩⟩⟩⟩⟩⟩⟩⟩⟩⟩⟩⟩⟩⟩⟩⟩⟩⟩⟩⟩⟩⟩⟩⟩⟩⟩⟩⟩⟩⟩⟩⟩⟩⟩⟩⟩⟩⟩⟩⟩⟩⟩⟩⟩⟩⟩⟩⟩⟩⟩⟩⟩⟩⟩⟩⟩⟩⟩⟩⟩⟩⟩⟩⟩⟩⟩⟩⟩⟩⟩⟩⟩⟩⟩⟩⟩⟩⟩⟩⟩⟩⟩⟩⟩⟩⟩⟩⟩⟩⟩⟩⟩⟩⟩⟩⟩⟩⟩⟩⟩⟩⟩⟩⟩⟩⟩⟩⟩⟩⟩⟩⟩⟩⟩⟩⟩⟩⟩⟩⟩⟩⟩⟩⟩⟩⟩⟩⟩⟩⟩⟩⟩⟩⟩⟩⟩⟩⟩⟩⟩⟩⟩⟩⟩⟩⟩⟩⟩⟩⟩⟩⟩⟩⟩⟩⟩⟩⟩⟩⟩⟩⟩⟩⟩⟩⟩⟩⟩⟩⟩⟩⟩⟩⟩⟩⟩⟩⟩⟩⟩⟩⟩⟩⟩⟩⟩⟩⟩⟩⟩⟩⟩⟩⟩⟩⟩⟩⟩⟩⟩⟩⟩⟩⟩⟩⟩⟩⟩⟩⟩⟩⟩⟩⟩⟩⟩⟩⟩⟩⟩⟩⟩⟩⟩⟩⟩⟩⟩⟩⟩⟩⟩⟩⟩⟩⟩⟩⟩⟩⟩⟩⟩⟩⟩⟩⟩⟩⟩⟩⟩⟩⟩⟩⟩⟩⟩⟩⟩⟩⟩⟩⟩⟩⟩⟩⟩⟩⟩⟩⟩⟩⟩⟩⟩⟩⟩⟩⟩⟩
theorem z_mc : z_all.all (fun m => z_okM m && decide (z_x m ≤ 40)) = true := by decide +kernel
theorem z_lc0 : z_lk0.all (z_okL 0) = true := by decide +kernel
theorem z_lc1 : z_lk1.all (z_okL 1) = true := by decide +kernel
theorem z_lc2 : z_lk2.all (z_okL 2) = true := by decide +kernel
theorem z_lc3 : z_lk3.all (z_okL 3) = true := by decide +kernel
theorem z_lc4 : z_lk4.all (z_okL 4) = true := by decide +kernel
theorem z_lc5 : z_lk5.all (z_okL 5) = true := by decide +kernel
theorem z_lc6 : z_lk6.all (z_okL 6) = true := by decide +kernel
theorem z_lc7 : z_lk7.all (z_okL 7) = true := by decide +kernel
theorem z_lc8 : z_lk8.all (z_okL 8) = true := by decide +kernel
theorem z_lc9 : z_lk9.all (z_okL 9) = true := rfl
theorem z_lc10 : z_lk10.all (z_okL 10) = true := by decide +kernel
theorem z_lc11 : z_lk11.all (z_okL 11) = true := by decide +kernel
theorem z_lc12 : z_lk12.all (z_okL 12) = true := by decide +kernel
theorem z_lc13 : z_lk13.all (z_okL 13) = true := by decide +kernel
theorem z_lc14 : z_lk14.all (z_okL 14) = true := rfl
theorem z_lc15 : z_lk15.all (z_okL 15) = true := rfl
theorem z_lcs : ∀ o, (z_lks.getD o []).all (z_okL o) = true
  | 0 => z_lc0
  | 1 => z_lc1
  | 2 => z_lc2
  | 3 => z_lc3
  | 4 => z_lc4
  | 5 => z_lc5
  | 6 => z_lc6
  | 7 => z_lc7
  | 8 => z_lc8
  | 9 => z_lc9
  | 10 => z_lc10
  | 11 => z_lc11
  | 12 => z_lc12
  | 13 => z_lc13
  | 14 => z_lc14
  | 15 => z_lc15
  | _ + 16 => rfl
def z_okF (o : Nat) (e : Nat × Nat × Nat × Nat) : Bool := match z_cl[e.2.1]? with
  | some q => z_at e.2.2.2 (.fieldLink (z_R o) e.1 (q.2.1 e.2.2.1).1 (q.2.1 e.2.2.1).2.1 (q.2.1 e.2.2.1).2.2.1) && decide (e.2.2.1 < q.2.2)
  | none => false
theorem z_fc0 : (z_fls.getD 0 []).all (z_okF 0) = true := by decide +kernel
theorem z_fc1 : (z_fls.getD 1 []).all (z_okF 1) = true := by decide +kernel
theorem z_fc2 : (z_fls.getD 2 []).all (z_okF 2) = true := by decide +kernel
theorem z_fc3 : (z_fls.getD 3 []).all (z_okF 3) = true := by decide +kernel
theorem z_fc4 : (z_fls.getD 4 []).all (z_okF 4) = true := by decide +kernel
theorem z_fc5 : (z_fls.getD 5 []).all (z_okF 5) = true := by decide +kernel
theorem z_fc6 : (z_fls.getD 6 []).all (z_okF 6) = true := by decide +kernel
theorem z_fc7 : (z_fls.getD 7 []).all (z_okF 7) = true := by decide +kernel
theorem z_fc8 : (z_fls.getD 8 []).all (z_okF 8) = true := by decide +kernel
theorem z_fc9 : (z_fls.getD 9 []).all (z_okF 9) = true := by decide +kernel
theorem z_fc10 : (z_fls.getD 10 []).all (z_okF 10) = true := by decide +kernel
theorem z_fc11 : (z_fls.getD 11 []).all (z_okF 11) = true := by decide +kernel
theorem z_fc12 : (z_fls.getD 12 []).all (z_okF 12) = true := by decide +kernel
theorem z_fc13 : (z_fls.getD 13 []).all (z_okF 13) = true := by decide +kernel
theorem z_fc14 : (z_fls.getD 14 []).all (z_okF 14) = true := by decide +kernel
theorem z_fc15 : (z_fls.getD 15 []).all (z_okF 15) = true := by decide +kernel
theorem z_fcs : ∀ o, (z_fls.getD o []).all (z_okF o) = true
  | 0 => z_fc0
  | 1 => z_fc1
  | 2 => z_fc2
  | 3 => z_fc3
  | 4 => z_fc4
  | 5 => z_fc5
  | 6 => z_fc6
  | 7 => z_fc7
  | 8 => z_fc8
  | 9 => z_fc9
  | 10 => z_fc10
  | 11 => z_fc11
  | 12 => z_fc12
  | 13 => z_fc13
  | 14 => z_fc14
  | 15 => z_fc15
  | _ + 16 => rfl
def z_okC (o : Nat) (e : Nat × Int32 × Nat) : Bool := z_at e.2.2 (.constant (z_R o) e.1 e.2.1)
def z_okK (o : Nat) (e : Nat × Int64 × Nat) : Bool := z_at e.2.2 (.constantLong (z_R o) e.1 e.2.1)
def z_okN (o : Nat) (e : Nat × Nat × Nat × Nat × Nat) : Bool := match z_cl[e.2.1]? with | some q => z_at e.2.2.1 (.classLink (z_R o) e.1 q.1) && z_at e.2.2.2.1 (.instantiable q.1 q.2.2) && z_at e.2.2.2.2 (.initialized q.1) | none => false
def z_okB (o : Nat) (e : Nat × Nat × Nat) : Bool := match e.2.1 with
  | 0 => z_at e.2.2 (.methodLink (z_R o) e.1 Lib.objectInit)
  | 1 => z_at e.2.2 (.methodLink (z_R o) e.1 arraycopyName)
  | 2 => z_at e.2.2 (.methodLink (z_R o) e.1 yJ0_length_8abf5)
  | 3 => z_at e.2.2 (.methodLink (z_R o) e.1 yJ0_charAt_5068e)
  | 4 => z_at e.2.2 (.methodLink (z_R o) e.1 Lib.Math.max.name)
  | 5 => z_at e.2.2 (.methodLink (z_R o) e.1 Lib.Math.min.name)
  | 6 => z_at e.2.2 (.methodLink (z_R o) e.1 Lib.MathLoose.abs_long.x)
  | _ => false
theorem z_cCs : ∀ o, o < 16 → (z_kcs.getD o []).all (z_okC o) = true := by decide +kernel
theorem z_cKs : ∀ o, o < 16 → (z_kls.getD o []).all (z_okK o) = true := by decide +kernel
theorem z_cNs : ∀ o, o < 16 → (z_nws.getD o []).all (z_okN o) = true := by decide +kernel
theorem z_cBs : ∀ o, o < 16 → (z_bks.getD o []).all (z_okB o) = true := by decide +kernel
def z_lys : List (List Nat) := [[196, 198, 200, 202, 204, 206, 208], [162, 164, 166, 168, 170], [1190, 1192, 1194, 1196, 1198, 1200, 1202, 1204, 1206], [1067, 1069, 1071, 1073, 1075, 1077, 1079, 1081, 1083, 1085, 1087, 1089], [1103, 1105, 1107, 1109, 1111], [1155, 1157, 1159, 1161, 1163, 1165], [127, 129, 131, 133, 135, 137], [72, 74, 76, 78, 80, 82, 84, 86, 88], [39, 41, 43], [236, 238, 1000, 1002, 1004, 1006, 1008, 1010], [1127, 1129, 1131, 1133, 1135, 1137, 1139], [1226, 1228, 1230, 1232, 1234, 1236, 1238, 2000, 2002, 2004, 2006, 2008, 2010, 2012, 2014, 2016, 2018], [5132, 5134, 5136, 5138, 5140, 5142, 5144, 5146, 5148, 5150, 5152, 5154, 5156, 5158, 5160, 5162, 5164, 5166, 5168, 5170, 5172, 5174, 5176, 5178, 5180, 5182, 5184, 5186, 5188, 5190, 5192, 5194, 5196, 5198, 5200, 5202, 5204, 5206, 5208]]
def z_okY (c : Nat) : Bool := match z_cl[c]? with | some q => (List.range q.2.2).all (fun k => z_at ((z_lys.getD c []).getD k 0) (u_lay q.1 q.2.1 k) && decide (parseFieldDescriptor (q.2.1 k).2.2.1 = some (z_ty c k))) | none => true
theorem z_cYs : ∀ c, c < 13 → z_okY c = true := by decide +kernel
theorem z_arr_long : Cond.arrayClass .long ∈ lw_tbl := z_at_mem (p := 46) (by decide +kernel)
theorem z_arr_int : Cond.arrayClass .int ∈ lw_tbl := z_at_mem (p := 47) (by decide +kernel)
theorem z_arr_byte : Cond.arrayClass .byte ∈ lw_tbl := z_at_mem (p := 91) (by decide +kernel)
theorem z_over : Cond.arrayOver (.object "DitchSaint$Parish") ∈ lw_tbl := z_at_mem (p := 1142) (by decide +kernel)
theorem z_oi_inst : Cond.instanceMethod Lib.objectInit ∈ lw_tbl := z_at_mem (p := 27) (by decide +kernel)
theorem z_oi_code : Cond.code Lib.objectInit ⟨#[0xb1]⟩ 1 none ∈ lw_tbl := z_tb_mem (c := 0) (i := 28) rfl
theorem z_ac_nat : Cond.native arraycopyName ∈ lw_tbl := z_at_mem (p := 2100) (by decide +kernel)
theorem z_ac_st : Cond.static arraycopyName ∈ lw_tbl := z_at_mem (p := 2099) (by decide +kernel)
theorem z_ac_in : Cond.initialized "java/lang/System" ∈ lw_tbl := z_at_mem (p := 14) (by decide +kernel)
theorem z_ma_in : Cond.initialized "java/lang/Math" ∈ lw_tbl := z_at_mem (p := 19) (by decide +kernel)
theorem z_mmax_st : Cond.static Lib.Math.max.name ∈ lw_tbl := z_at_mem (p := 4180) (by decide +kernel)
theorem z_mmax_code : Cond.code Lib.Math.max.name Lib.Math.max.code 2 (some .int) ∈ lw_tbl := z_tb_mem (c := 4) (i := 181) rfl
theorem z_mmin_st : Cond.static Lib.Math.min.name ∈ lw_tbl := z_at_mem (p := 3224) (by decide +kernel)
theorem z_mmin_code : Cond.code Lib.Math.min.name Lib.Math.min.code 2 (some .int) ∈ lw_tbl := z_tb_mem (c := 3) (i := 225) rfl
theorem z_mabs_st : Cond.static Lib.MathLoose.abs_long.x ∈ lw_tbl := z_at_mem (p := 8087) (by decide +kernel)
theorem z_mabs_code : Cond.code Lib.MathLoose.abs_long.x Lib.MathLoose.abs_long.code 2 (some .long) ∈ lw_tbl := z_tb_mem (c := 8) (i := 88) rfl
theorem z_nest_mem : ∀ w ∈ z_nest, w ∈ lw_tbl := List.forall_mem_cons.mpr ⟨z_at_mem (p := 50) (by decide +kernel), List.forall_mem_cons.mpr ⟨z_at_mem (p := 100) (by decide +kernel), List.forall_mem_cons.mpr ⟨z_at_mem (p := 142) (by decide +kernel), List.forall_mem_cons.mpr ⟨z_at_mem (p := 175) (by decide +kernel), List.forall_mem_cons.mpr ⟨z_at_mem (p := 213) (by decide +kernel), List.forall_mem_cons.mpr ⟨z_at_mem (p := 1145) (by decide +kernel), List.forall_mem_cons.mpr ⟨z_at_mem (p := 1170) (by decide +kernel), fun _ h => absurd h List.not_mem_nil⟩⟩⟩⟩⟩⟩⟩
/-- the words that stay -/
def z_T : List Cond := lw_tbl.filter goodWord
theorem z_T_in {w : Cond} (h : w ∈ lw_tbl) (g : goodWord w = true) : w ∈ z_T := List.mem_filter.mpr ⟨h, g⟩
theorem z_T_good : ∀ w ∈ z_T, w ∈ z_T ∧ ((w.onTables && w.keeps) = true ∨ ∃ ty, w = .arrayClass ty) := fun w h => ⟨h, good_of_word (List.mem_filter.mp h).2⟩
theorem z_T_tbl {w : Cond} (h : w ∈ z_T) : w ∈ lw_tbl := (List.mem_filter.mp h).1
