-- began from the skeleton's PART A and the printed names
-- ===== PART A: goes FIRST, ahead of the names: the tables' words, and 'selects' of the private methods out of them =====
/-- a private method of a class that the tables say can be made, by its rows of tables_1 -/
def lw_okq (q : MethodName × Nat) : Prop := (q.1.cls ≠ "java/lang/invoke/MethodHandle" ∧ q.1.cls ≠ "java/lang/invoke/VarHandle") ∧ Cond.instantiable q.1.cls q.2 ∈ tables_1 ∧ Cond.privateMethod q.1 ∈ tables_1 ∧ Cond.instanceMethod q.1 ∈ tables_1
theorem lw_p0 : lw_okq (⟨"DitchSaint", "deny", "(I)Z"⟩, 17) := ⟨⟨by decide +kernel, by decide +kernel⟩, List.mem_of_getElem? (i := 22) (by decide +kernel), List.mem_of_getElem? (i := 521) (by decide +kernel), List.mem_of_getElem? (i := 522) (by decide +kernel)⟩
theorem lw_p1 : lw_okq (⟨"DitchSaint", "allow", "()Z"⟩, 17) := ⟨⟨by decide +kernel, by decide +kernel⟩, List.mem_of_getElem? (i := 22) (by decide +kernel), List.mem_of_getElem? (i := 529) (by decide +kernel), List.mem_of_getElem? (i := 530) (by decide +kernel)⟩
theorem lw_p2 : lw_okq (⟨"DitchSaint", "refuse", "(I)I"⟩, 17) := ⟨⟨by decide +kernel, by decide +kernel⟩, List.mem_of_getElem? (i := 22) (by decide +kernel), List.mem_of_getElem? (i := 561) (by decide +kernel), List.mem_of_getElem? (i := 562) (by decide +kernel)⟩
theorem lw_p3 : lw_okq (⟨"DitchSaint$Tokens", "isBetween", "(ICC)Z"⟩, 9) := ⟨⟨by decide +kernel, by decide +kernel⟩, List.mem_of_getElem? (i := 49) (by decide +kernel), List.mem_of_getElem? (i := 611) (by decide +kernel), List.mem_of_getElem? (i := 612) (by decide +kernel)⟩
theorem lw_p4 : lw_okq (⟨"DitchSaint$Tokens", "goBehind", "(CC)V"⟩, 9) := ⟨⟨by decide +kernel, by decide +kernel⟩, List.mem_of_getElem? (i := 49) (by decide +kernel), List.mem_of_getElem? (i := 615) (by decide +kernel), List.mem_of_getElem? (i := 616) (by decide +kernel)⟩
theorem lw_p5 : lw_okq (⟨"DitchSaint$Tokens", "wordNumber", "()I"⟩, 9) := ⟨⟨by decide +kernel, by decide +kernel⟩, List.mem_of_getElem? (i := 49) (by decide +kernel), List.mem_of_getElem? (i := 619) (by decide +kernel), List.mem_of_getElem? (i := 620) (by decide +kernel)⟩
theorem lw_p6 : lw_okq (⟨"DitchSaint$Tokens", "digitsRead", "()I"⟩, 9) := ⟨⟨by decide +kernel, by decide +kernel⟩, List.mem_of_getElem? (i := 49) (by decide +kernel), List.mem_of_getElem? (i := 672) (by decide +kernel), List.mem_of_getElem? (i := 673) (by decide +kernel)⟩
theorem lw_p7 : lw_okq (⟨"DitchSaint$Tokens", "signAt", "(I)I"⟩, 9) := ⟨⟨by decide +kernel, by decide +kernel⟩, List.mem_of_getElem? (i := 49) (by decide +kernel), List.mem_of_getElem? (i := 676) (by decide +kernel), List.mem_of_getElem? (i := 677) (by decide +kernel)⟩
theorem lw_p8 : lw_okq (⟨"DitchSaint$ParishReader", "readRule", "(I)Z"⟩, 5) := ⟨⟨by decide +kernel, by decide +kernel⟩, List.mem_of_getElem? (i := 333) (by decide +kernel), List.mem_of_getElem? (i := 680) (by decide +kernel), List.mem_of_getElem? (i := 681) (by decide +kernel)⟩
theorem lw_p9 : lw_okq (⟨"DitchSaint$ParishReader", "isFirst", "(I)Z"⟩, 5) := ⟨⟨by decide +kernel, by decide +kernel⟩, List.mem_of_getElem? (i := 333) (by decide +kernel), List.mem_of_getElem? (i := 684) (by decide +kernel), List.mem_of_getElem? (i := 685) (by decide +kernel)⟩
theorem lw_p10 : lw_okq (⟨"DitchSaint$ParishReader", "readLies", "()Z"⟩, 5) := ⟨⟨by decide +kernel, by decide +kernel⟩, List.mem_of_getElem? (i := 333) (by decide +kernel), List.mem_of_getElem? (i := 702) (by decide +kernel), List.mem_of_getElem? (i := 703) (by decide +kernel)⟩
theorem lw_p11 : lw_okq (⟨"DitchSaint$ParishReader", "readChest", "()Z"⟩, 5) := ⟨⟨by decide +kernel, by decide +kernel⟩, List.mem_of_getElem? (i := 333) (by decide +kernel), List.mem_of_getElem? (i := 715) (by decide +kernel), List.mem_of_getElem? (i := 716) (by decide +kernel)⟩
theorem lw_p12 : lw_okq (⟨"DitchSaint$ParishReader", "readRight", "()Z"⟩, 5) := ⟨⟨by decide +kernel, by decide +kernel⟩, List.mem_of_getElem? (i := 333) (by decide +kernel), List.mem_of_getElem? (i := 720) (by decide +kernel), List.mem_of_getElem? (i := 721) (by decide +kernel)⟩
theorem lw_p13 : lw_okq (⟨"DitchSaint$ParishReader", "hasRoom", "(II)Z"⟩, 5) := ⟨⟨by decide +kernel, by decide +kernel⟩, List.mem_of_getElem? (i := 333) (by decide +kernel), List.mem_of_getElem? (i := 724) (by decide +kernel), List.mem_of_getElem? (i := 725) (by decide +kernel)⟩
theorem lw_p14 : lw_okq (⟨"DitchSaint$ParishReader", "kindHere", "()I"⟩, 5) := ⟨⟨by decide +kernel, by decide +kernel⟩, List.mem_of_getElem? (i := 333) (by decide +kernel), List.mem_of_getElem? (i := 728) (by decide +kernel), List.mem_of_getElem? (i := 729) (by decide +kernel)⟩
theorem lw_p15 : lw_okq (⟨"DitchSaint$ParishReader", "takeMonths", "()I"⟩, 5) := ⟨⟨by decide +kernel, by decide +kernel⟩, List.mem_of_getElem? (i := 333) (by decide +kernel), List.mem_of_getElem? (i := 736) (by decide +kernel), List.mem_of_getElem? (i := 737) (by decide +kernel)⟩
def lw_privs_1 : List (MethodName × Nat) := [(⟨"DitchSaint", "deny", "(I)Z"⟩, 17), (⟨"DitchSaint", "allow", "()Z"⟩, 17), (⟨"DitchSaint", "refuse", "(I)I"⟩, 17), (⟨"DitchSaint$Tokens", "isBetween", "(ICC)Z"⟩, 9), (⟨"DitchSaint$Tokens", "goBehind", "(CC)V"⟩, 9), (⟨"DitchSaint$Tokens", "wordNumber", "()I"⟩, 9), (⟨"DitchSaint$Tokens", "digitsRead", "()I"⟩, 9), (⟨"DitchSaint$Tokens", "signAt", "(I)I"⟩, 9), (⟨"DitchSaint$ParishReader", "readRule", "(I)Z"⟩, 5), (⟨"DitchSaint$ParishReader", "isFirst", "(I)Z"⟩, 5), (⟨"DitchSaint$ParishReader", "readLies", "()Z"⟩, 5), (⟨"DitchSaint$ParishReader", "readChest", "()Z"⟩, 5), (⟨"DitchSaint$ParishReader", "readRight", "()Z"⟩, 5), (⟨"DitchSaint$ParishReader", "hasRoom", "(II)Z"⟩, 5), (⟨"DitchSaint$ParishReader", "kindHere", "()I"⟩, 5), (⟨"DitchSaint$ParishReader", "takeMonths", "()I"⟩, 5)]
theorem lw_r1 : ∀ q ∈ lw_privs_1, lw_okq q := List.forall_mem_cons.mpr ⟨lw_p0, List.forall_mem_cons.mpr ⟨lw_p1, List.forall_mem_cons.mpr ⟨lw_p2, List.forall_mem_cons.mpr ⟨lw_p3, List.forall_mem_cons.mpr ⟨lw_p4, List.forall_mem_cons.mpr ⟨lw_p5, List.forall_mem_cons.mpr ⟨lw_p6, List.forall_mem_cons.mpr ⟨lw_p7, List.forall_mem_cons.mpr ⟨lw_p8, List.forall_mem_cons.mpr ⟨lw_p9, List.forall_mem_cons.mpr ⟨lw_p10, List.forall_mem_cons.mpr ⟨lw_p11, List.forall_mem_cons.mpr ⟨lw_p12, List.forall_mem_cons.mpr ⟨lw_p13, List.forall_mem_cons.mpr ⟨lw_p14, List.forall_mem_cons.mpr ⟨lw_p15, fun _ h => absurd h List.not_mem_nil⟩⟩⟩⟩⟩⟩⟩⟩⟩⟩⟩⟩⟩⟩⟩⟩
theorem lw_p16 : lw_okq (⟨"DitchSaint$ParishReader", "readDebt", "()Z"⟩, 5) := ⟨⟨by decide +kernel, by decide +kernel⟩, List.mem_of_getElem? (i := 333) (by decide +kernel), List.mem_of_getElem? (i := 744) (by decide +kernel), List.mem_of_getElem? (i := 745) (by decide +kernel)⟩
theorem lw_p17 : lw_okq (⟨"DitchSaint$ParishReader", "readAsk", "()Z"⟩, 5) := ⟨⟨by decide +kernel, by decide +kernel⟩, List.mem_of_getElem? (i := 333) (by decide +kernel), List.mem_of_getElem? (i := 752) (by decide +kernel), List.mem_of_getElem? (i := 753) (by decide +kernel)⟩
theorem lw_p18 : lw_okq (⟨"DitchSaint$ParishReader", "questionHere", "()I"⟩, 5) := ⟨⟨by decide +kernel, by decide +kernel⟩, List.mem_of_getElem? (i := 333) (by decide +kernel), List.mem_of_getElem? (i := 756) (by decide +kernel), List.mem_of_getElem? (i := 757) (by decide +kernel)⟩
theorem lw_p19 : lw_okq (⟨"DitchSaint$ParishReader", "isNameHere", "(I)Z"⟩, 5) := ⟨⟨by decide +kernel, by decide +kernel⟩, List.mem_of_getElem? (i := 333) (by decide +kernel), List.mem_of_getElem? (i := 760) (by decide +kernel), List.mem_of_getElem? (i := 761) (by decide +kernel)⟩
theorem lw_p20 : lw_okq (⟨"DitchSaint$ParishReader", "readClause", "()Z"⟩, 5) := ⟨⟨by decide +kernel, by decide +kernel⟩, List.mem_of_getElem? (i := 333) (by decide +kernel), List.mem_of_getElem? (i := 764) (by decide +kernel), List.mem_of_getElem? (i := 765) (by decide +kernel)⟩
theorem lw_p21 : lw_okq (⟨"DitchSaint$ParishReader", "takeLiteral", "(Z)I"⟩, 5) := ⟨⟨by decide +kernel, by decide +kernel⟩, List.mem_of_getElem? (i := 333) (by decide +kernel), List.mem_of_getElem? (i := 768) (by decide +kernel), List.mem_of_getElem? (i := 769) (by decide +kernel)⟩
theorem lw_p22 : lw_okq (⟨"DitchSaint$ParishReader", "readWitness", "()Z"⟩, 5) := ⟨⟨by decide +kernel, by decide +kernel⟩, List.mem_of_getElem? (i := 333) (by decide +kernel), List.mem_of_getElem? (i := 776) (by decide +kernel), List.mem_of_getElem? (i := 777) (by decide +kernel)⟩
theorem lw_p23 : lw_okq (⟨"DitchSaint", "keepFault", "()V"⟩, 17) := ⟨⟨by decide +kernel, by decide +kernel⟩, List.mem_of_getElem? (i := 22) (by decide +kernel), List.mem_of_getElem? (i := 784) (by decide +kernel), List.mem_of_getElem? (i := 785) (by decide +kernel)⟩
theorem lw_p24 : lw_okq (⟨"DitchSaint$Debts", "copyOne", "(LDitchSaint$Debts;II)V"⟩, 5) := ⟨⟨by decide +kernel, by decide +kernel⟩, List.mem_of_getElem? (i := 141) (by decide +kernel), List.mem_of_getElem? (i := 800) (by decide +kernel), List.mem_of_getElem? (i := 801) (by decide +kernel)⟩
theorem lw_p25 : lw_okq (⟨"DitchSaint", "answer", "(I)I"⟩, 17) := ⟨⟨by decide +kernel, by decide +kernel⟩, List.mem_of_getElem? (i := 22) (by decide +kernel), List.mem_of_getElem? (i := 812) (by decide +kernel), List.mem_of_getElem? (i := 813) (by decide +kernel)⟩
theorem lw_p26 : lw_okq (⟨"DitchSaint$YearsReader", "readEnd", "()Z"⟩, 7) := ⟨⟨by decide +kernel, by decide +kernel⟩, List.mem_of_getElem? (i := 355) (by decide +kernel), List.mem_of_getElem? (i := 826) (by decide +kernel), List.mem_of_getElem? (i := 827) (by decide +kernel)⟩
theorem lw_p27 : lw_okq (⟨"DitchSaint$YearsReader", "readStep", "()Z"⟩, 7) := ⟨⟨by decide +kernel, by decide +kernel⟩, List.mem_of_getElem? (i := 355) (by decide +kernel), List.mem_of_getElem? (i := 841) (by decide +kernel), List.mem_of_getElem? (i := 842) (by decide +kernel)⟩
theorem lw_p28 : lw_okq (⟨"DitchSaint$YearsReader", "takeTest", "()Z"⟩, 7) := ⟨⟨by decide +kernel, by decide +kernel⟩, List.mem_of_getElem? (i := 355) (by decide +kernel), List.mem_of_getElem? (i := 845) (by decide +kernel), List.mem_of_getElem? (i := 846) (by decide +kernel)⟩
theorem lw_p29 : lw_okq (⟨"DitchSaint$YearsReader", "takeSworn", "()Z"⟩, 7) := ⟨⟨by decide +kernel, by decide +kernel⟩, List.mem_of_getElem? (i := 355) (by decide +kernel), List.mem_of_getElem? (i := 851) (by decide +kernel), List.mem_of_getElem? (i := 852) (by decide +kernel)⟩
theorem lw_p30 : lw_okq (⟨"DitchSaint$YearsReader", "takeNumbers", "(I)Z"⟩, 7) := ⟨⟨by decide +kernel, by decide +kernel⟩, List.mem_of_getElem? (i := 355) (by decide +kernel), List.mem_of_getElem? (i := 855) (by decide +kernel), List.mem_of_getElem? (i := 856) (by decide +kernel)⟩
theorem lw_p31 : lw_okq (⟨"DitchSaint$Parish", "bring", "(II)V"⟩, 12) := ⟨⟨by decide +kernel, by decide +kernel⟩, List.mem_of_getElem? (i := 93) (by decide +kernel), List.mem_of_getElem? (i := 940) (by decide +kernel), List.mem_of_getElem? (i := 941) (by decide +kernel)⟩
def lw_privs_2 : List (MethodName × Nat) := [(⟨"DitchSaint$ParishReader", "readDebt", "()Z"⟩, 5), (⟨"DitchSaint$ParishReader", "readAsk", "()Z"⟩, 5), (⟨"DitchSaint$ParishReader", "questionHere", "()I"⟩, 5), (⟨"DitchSaint$ParishReader", "isNameHere", "(I)Z"⟩, 5), (⟨"DitchSaint$ParishReader", "readClause", "()Z"⟩, 5), (⟨"DitchSaint$ParishReader", "takeLiteral", "(Z)I"⟩, 5), (⟨"DitchSaint$ParishReader", "readWitness", "()Z"⟩, 5), (⟨"DitchSaint", "keepFault", "()V"⟩, 17), (⟨"DitchSaint$Debts", "copyOne", "(LDitchSaint$Debts;II)V"⟩, 5), (⟨"DitchSaint", "answer", "(I)I"⟩, 17), (⟨"DitchSaint$YearsReader", "readEnd", "()Z"⟩, 7), (⟨"DitchSaint$YearsReader", "readStep", "()Z"⟩, 7), (⟨"DitchSaint$YearsReader", "takeTest", "()Z"⟩, 7), (⟨"DitchSaint$YearsReader", "takeSworn", "()Z"⟩, 7), (⟨"DitchSaint$YearsReader", "takeNumbers", "(I)Z"⟩, 7), (⟨"DitchSaint$Parish", "bring", "(II)V"⟩, 12)]
theorem lw_r2 : ∀ q ∈ lw_privs_2, lw_okq q := List.forall_mem_cons.mpr ⟨lw_p16, List.forall_mem_cons.mpr ⟨lw_p17, List.forall_mem_cons.mpr ⟨lw_p18, List.forall_mem_cons.mpr ⟨lw_p19, List.forall_mem_cons.mpr ⟨lw_p20, List.forall_mem_cons.mpr ⟨lw_p21, List.forall_mem_cons.mpr ⟨lw_p22, List.forall_mem_cons.mpr ⟨lw_p23, List.forall_mem_cons.mpr ⟨lw_p24, List.forall_mem_cons.mpr ⟨lw_p25, List.forall_mem_cons.mpr ⟨lw_p26, List.forall_mem_cons.mpr ⟨lw_p27, List.forall_mem_cons.mpr ⟨lw_p28, List.forall_mem_cons.mpr ⟨lw_p29, List.forall_mem_cons.mpr ⟨lw_p30, List.forall_mem_cons.mpr ⟨lw_p31, fun _ h => absurd h List.not_mem_nil⟩⟩⟩⟩⟩⟩⟩⟩⟩⟩⟩⟩⟩⟩⟩⟩
theorem lw_p32 : lw_okq (⟨"DitchSaint$Plans", "weighRight", "(LDitchSaint$Rights;I)V"⟩, 6) := ⟨⟨by decide +kernel, by decide +kernel⟩, List.mem_of_getElem? (i := 384) (by decide +kernel), List.mem_of_getElem? (i := 1032) (by decide +kernel), List.mem_of_getElem? (i := 1033) (by decide +kernel)⟩
theorem lw_p33 : lw_okq (⟨"DitchSaint$Plans", "sumHalf", "([III)V"⟩, 6) := ⟨⟨by decide +kernel, by decide +kernel⟩, List.mem_of_getElem? (i := 384) (by decide +kernel), List.mem_of_getElem? (i := 1040) (by decide +kernel), List.mem_of_getElem? (i := 1041) (by decide +kernel)⟩
theorem lw_p34 : lw_okq (⟨"DitchSaint$Plans", "foughtBy", "(II)I"⟩, 6) := ⟨⟨by decide +kernel, by decide +kernel⟩, List.mem_of_getElem? (i := 384) (by decide +kernel), List.mem_of_getElem? (i := 1044) (by decide +kernel), List.mem_of_getElem? (i := 1045) (by decide +kernel)⟩
theorem lw_p35 : lw_okq (⟨"DitchSaint$Plans", "isFair", "(I)Z"⟩, 6) := ⟨⟨by decide +kernel, by decide +kernel⟩, List.mem_of_getElem? (i := 384) (by decide +kernel), List.mem_of_getElem? (i := 1092) (by decide +kernel), List.mem_of_getElem? (i := 1093) (by decide +kernel)⟩
theorem lw_p36 : lw_okq (⟨"DitchSaint$Plans", "isTreaty", "(I)Z"⟩, 6) := ⟨⟨by decide +kernel, by decide +kernel⟩, List.mem_of_getElem? (i := 384) (by decide +kernel), List.mem_of_getElem? (i := 1096) (by decide +kernel), List.mem_of_getElem? (i := 1097) (by decide +kernel)⟩
theorem lw_p37 : lw_okq (⟨"DitchSaint$Court", "brokenBy", "(I)I"⟩, 7) := ⟨⟨by decide +kernel, by decide +kernel⟩, List.mem_of_getElem? (i := 174) (by decide +kernel), List.mem_of_getElem? (i := 1151) (by decide +kernel), List.mem_of_getElem? (i := 1152) (by decide +kernel)⟩
theorem lw_p38 : lw_okq (⟨"DitchSaint$Plans", "leadOf", "(II)I"⟩, 6) := ⟨⟨by decide +kernel, by decide +kernel⟩, List.mem_of_getElem? (i := 384) (by decide +kernel), List.mem_of_getElem? (i := 1197) (by decide +kernel), List.mem_of_getElem? (i := 1198) (by decide +kernel)⟩
theorem lw_p39 : lw_okq (⟨"DitchSaint", "tellFraction", "(JJ)Z"⟩, 17) := ⟨⟨by decide +kernel, by decide +kernel⟩, List.mem_of_getElem? (i := 22) (by decide +kernel), List.mem_of_getElem? (i := 1213) (by decide +kernel), List.mem_of_getElem? (i := 1214) (by decide +kernel)⟩
theorem lw_p40 : lw_okq (⟨"DitchSaint$Life", "begin", "(LDitchSaint$Parish;I)V"⟩, 9) := ⟨⟨by decide +kernel, by decide +kernel⟩, List.mem_of_getElem? (i := 409) (by decide +kernel), List.mem_of_getElem? (i := 1229) (by decide +kernel), List.mem_of_getElem? (i := 1230) (by decide +kernel)⟩
theorem lw_p41 : lw_okq (⟨"DitchSaint$Life", "behindEnd", "(LDitchSaint$Years;I)I"⟩, 9) := ⟨⟨by decide +kernel, by decide +kernel⟩, List.mem_of_getElem? (i := 409) (by decide +kernel), List.mem_of_getElem? (i := 1234) (by decide +kernel), List.mem_of_getElem? (i := 1235) (by decide +kernel)⟩
theorem lw_p42 : lw_okq (⟨"DitchSaint$Life", "isDone", "(LDitchSaint$Parish;I)Z"⟩, 9) := ⟨⟨by decide +kernel, by decide +kernel⟩, List.mem_of_getElem? (i := 409) (by decide +kernel), List.mem_of_getElem? (i := 1238) (by decide +kernel), List.mem_of_getElem? (i := 1239) (by decide +kernel)⟩
theorem lw_p43 : lw_okq (⟨"DitchSaint$Life", "isAnyDone", "(LDitchSaint$Parish;)Z"⟩, 9) := ⟨⟨by decide +kernel, by decide +kernel⟩, List.mem_of_getElem? (i := 409) (by decide +kernel), List.mem_of_getElem? (i := 1246) (by decide +kernel), List.mem_of_getElem? (i := 1247) (by decide +kernel)⟩
theorem lw_p44 : lw_okq (⟨"DitchSaint$Life", "drawBy", "(I)I"⟩, 9) := ⟨⟨by decide +kernel, by decide +kernel⟩, List.mem_of_getElem? (i := 409) (by decide +kernel), List.mem_of_getElem? (i := 1250) (by decide +kernel), List.mem_of_getElem? (i := 1251) (by decide +kernel)⟩
theorem lw_p45 : lw_okq (⟨"DitchSaint$Life", "behindStep", "(LDitchSaint$Parish;I)I"⟩, 9) := ⟨⟨by decide +kernel, by decide +kernel⟩, List.mem_of_getElem? (i := 409) (by decide +kernel), List.mem_of_getElem? (i := 1255) (by decide +kernel), List.mem_of_getElem? (i := 1256) (by decide +kernel)⟩
theorem lw_p46 : lw_okq (⟨"DitchSaint$Life", "holds", "(LDitchSaint$Parish;I)Z"⟩, 9) := ⟨⟨by decide +kernel, by decide +kernel⟩, List.mem_of_getElem? (i := 409) (by decide +kernel), List.mem_of_getElem? (i := 1259) (by decide +kernel), List.mem_of_getElem? (i := 1260) (by decide +kernel)⟩
theorem lw_p47 : lw_okq (⟨"DitchSaint$Life", "finish", "(LDitchSaint$Parish;)V"⟩, 9) := ⟨⟨by decide +kernel, by decide +kernel⟩, List.mem_of_getElem? (i := 409) (by decide +kernel), List.mem_of_getElem? (i := 1264) (by decide +kernel), List.mem_of_getElem? (i := 1265) (by decide +kernel)⟩
def lw_privs_3 : List (MethodName × Nat) := [(⟨"DitchSaint$Plans", "weighRight", "(LDitchSaint$Rights;I)V"⟩, 6), (⟨"DitchSaint$Plans", "sumHalf", "([III)V"⟩, 6), (⟨"DitchSaint$Plans", "foughtBy", "(II)I"⟩, 6), (⟨"DitchSaint$Plans", "isFair", "(I)Z"⟩, 6), (⟨"DitchSaint$Plans", "isTreaty", "(I)Z"⟩, 6), (⟨"DitchSaint$Court", "brokenBy", "(I)I"⟩, 7), (⟨"DitchSaint$Plans", "leadOf", "(II)I"⟩, 6), (⟨"DitchSaint", "tellFraction", "(JJ)Z"⟩, 17), (⟨"DitchSaint$Life", "begin", "(LDitchSaint$Parish;I)V"⟩, 9), (⟨"DitchSaint$Life", "behindEnd", "(LDitchSaint$Years;I)I"⟩, 9), (⟨"DitchSaint$Life", "isDone", "(LDitchSaint$Parish;I)Z"⟩, 9), (⟨"DitchSaint$Life", "isAnyDone", "(LDitchSaint$Parish;)Z"⟩, 9), (⟨"DitchSaint$Life", "drawBy", "(I)I"⟩, 9), (⟨"DitchSaint$Life", "behindStep", "(LDitchSaint$Parish;I)I"⟩, 9), (⟨"DitchSaint$Life", "holds", "(LDitchSaint$Parish;I)Z"⟩, 9), (⟨"DitchSaint$Life", "finish", "(LDitchSaint$Parish;)V"⟩, 9)]
theorem lw_r3 : ∀ q ∈ lw_privs_3, lw_okq q := List.forall_mem_cons.mpr ⟨lw_p32, List.forall_mem_cons.mpr ⟨lw_p33, List.forall_mem_cons.mpr ⟨lw_p34, List.forall_mem_cons.mpr ⟨lw_p35, List.forall_mem_cons.mpr ⟨lw_p36, List.forall_mem_cons.mpr ⟨lw_p37, List.forall_mem_cons.mpr ⟨lw_p38, List.forall_mem_cons.mpr ⟨lw_p39, List.forall_mem_cons.mpr ⟨lw_p40, List.forall_mem_cons.mpr ⟨lw_p41, List.forall_mem_cons.mpr ⟨lw_p42, List.forall_mem_cons.mpr ⟨lw_p43, List.forall_mem_cons.mpr ⟨lw_p44, List.forall_mem_cons.mpr ⟨lw_p45, List.forall_mem_cons.mpr ⟨lw_p46, List.forall_mem_cons.mpr ⟨lw_p47, fun _ h => absurd h List.not_mem_nil⟩⟩⟩⟩⟩⟩⟩⟩⟩⟩⟩⟩⟩⟩⟩⟩
theorem lw_p48 : lw_okq (⟨"DitchSaintModel", "empties", "(I)V"⟩, 39) := ⟨⟨by decide +kernel, by decide +kernel⟩, List.mem_of_getElem? (i := 1284) (by decide +kernel), List.mem_of_getElem? (i := 1290) (by decide +kernel), List.mem_of_getElem? (i := 1291) (by decide +kernel)⟩
theorem lw_p49 : lw_okq (⟨"DitchSaintModel", "no", "(I)Z"⟩, 39) := ⟨⟨by decide +kernel, by decide +kernel⟩, List.mem_of_getElem? (i := 1284) (by decide +kernel), List.mem_of_getElem? (i := 1428) (by decide +kernel), List.mem_of_getElem? (i := 1429) (by decide +kernel)⟩
theorem lw_p50 : lw_okq (⟨"DitchSaintModel", "placed", "(II)I"⟩, 39) := ⟨⟨by decide +kernel, by decide +kernel⟩, List.mem_of_getElem? (i := 1284) (by decide +kernel), List.mem_of_getElem? (i := 1436) (by decide +kernel), List.mem_of_getElem? (i := 1437) (by decide +kernel)⟩
theorem lw_p51 : lw_okq (⟨"DitchSaintModel", "trayed", "(I)I"⟩, 39) := ⟨⟨by decide +kernel, by decide +kernel⟩, List.mem_of_getElem? (i := 1284) (by decide +kernel), List.mem_of_getElem? (i := 1440) (by decide +kernel), List.mem_of_getElem? (i := 1441) (by decide +kernel)⟩
theorem lw_p52 : lw_okq (⟨"DitchSaintModel", "lay", "(I)V"⟩, 39) := ⟨⟨by decide +kernel, by decide +kernel⟩, List.mem_of_getElem? (i := 1284) (by decide +kernel), List.mem_of_getElem? (i := 1460) (by decide +kernel), List.mem_of_getElem? (i := 1461) (by decide +kernel)⟩
theorem lw_p53 : lw_okq (⟨"DitchSaintModel", "starts", "(II)Z"⟩, 39) := ⟨⟨by decide +kernel, by decide +kernel⟩, List.mem_of_getElem? (i := 1284) (by decide +kernel), List.mem_of_getElem? (i := 1472) (by decide +kernel), List.mem_of_getElem? (i := 1473) (by decide +kernel)⟩
theorem lw_p54 : lw_okq (⟨"DitchSaintModel", "advance", "()V"⟩, 39) := ⟨⟨by decide +kernel, by decide +kernel⟩, List.mem_of_getElem? (i := 1284) (by decide +kernel), List.mem_of_getElem? (i := 1476) (by decide +kernel), List.mem_of_getElem? (i := 1477) (by decide +kernel)⟩
theorem lw_p55 : lw_okq (⟨"DitchSaintModel", "look2", "(I)I"⟩, 39) := ⟨⟨by decide +kernel, by decide +kernel⟩, List.mem_of_getElem? (i := 1284) (by decide +kernel), List.mem_of_getElem? (i := 1480) (by decide +kernel), List.mem_of_getElem? (i := 1481) (by decide +kernel)⟩
theorem lw_p56 : lw_okq (⟨"DitchSaintModel", "isSignByte", "(I)Z"⟩, 39) := ⟨⟨by decide +kernel, by decide +kernel⟩, List.mem_of_getElem? (i := 1284) (by decide +kernel), List.mem_of_getElem? (i := 1492) (by decide +kernel), List.mem_of_getElem? (i := 1493) (by decide +kernel)⟩
theorem lw_p57 : lw_okq (⟨"DitchSaintModel", "readPart", "()V"⟩, 39) := ⟨⟨by decide +kernel, by decide +kernel⟩, List.mem_of_getElem? (i := 1284) (by decide +kernel), List.mem_of_getElem? (i := 1496) (by decide +kernel), List.mem_of_getElem? (i := 1497) (by decide +kernel)⟩
theorem lw_p58 : lw_okq (⟨"DitchSaintModel", "isOdds", "()Z"⟩, 39) := ⟨⟨by decide +kernel, by decide +kernel⟩, List.mem_of_getElem? (i := 1284) (by decide +kernel), List.mem_of_getElem? (i := 1500) (by decide +kernel), List.mem_of_getElem? (i := 1501) (by decide +kernel)⟩
theorem lw_p59 : lw_okq (⟨"DitchSaintModel", "isWord", "(J)Z"⟩, 39) := ⟨⟨by decide +kernel, by decide +kernel⟩, List.mem_of_getElem? (i := 1284) (by decide +kernel), List.mem_of_getElem? (i := 1507) (by decide +kernel), List.mem_of_getElem? (i := 1508) (by decide +kernel)⟩
theorem lw_p60 : lw_okq (⟨"DitchSaintModel", "readOnce", "(II)V"⟩, 39) := ⟨⟨by decide +kernel, by decide +kernel⟩, List.mem_of_getElem? (i := 1284) (by decide +kernel), List.mem_of_getElem? (i := 1511) (by decide +kernel), List.mem_of_getElem? (i := 1512) (by decide +kernel)⟩
theorem lw_p61 : lw_okq (⟨"DitchSaintModel", "once", "(I)V"⟩, 39) := ⟨⟨by decide +kernel, by decide +kernel⟩, List.mem_of_getElem? (i := 1284) (by decide +kernel), List.mem_of_getElem? (i := 1515) (by decide +kernel), List.mem_of_getElem? (i := 1516) (by decide +kernel)⟩
theorem lw_p62 : lw_okq (⟨"DitchSaintModel", "fail", "(II)V"⟩, 39) := ⟨⟨by decide +kernel, by decide +kernel⟩, List.mem_of_getElem? (i := 1284) (by decide +kernel), List.mem_of_getElem? (i := 1522) (by decide +kernel), List.mem_of_getElem? (i := 1523) (by decide +kernel)⟩
theorem lw_p63 : lw_okq (⟨"DitchSaintModel", "must", "(Z)V"⟩, 39) := ⟨⟨by decide +kernel, by decide +kernel⟩, List.mem_of_getElem? (i := 1284) (by decide +kernel), List.mem_of_getElem? (i := 1526) (by decide +kernel), List.mem_of_getElem? (i := 1527) (by decide +kernel)⟩
def lw_privs_4 : List (MethodName × Nat) := [(⟨"DitchSaintModel", "empties", "(I)V"⟩, 39), (⟨"DitchSaintModel", "no", "(I)Z"⟩, 39), (⟨"DitchSaintModel", "placed", "(II)I"⟩, 39), (⟨"DitchSaintModel", "trayed", "(I)I"⟩, 39), (⟨"DitchSaintModel", "lay", "(I)V"⟩, 39), (⟨"DitchSaintModel", "starts", "(II)Z"⟩, 39), (⟨"DitchSaintModel", "advance", "()V"⟩, 39), (⟨"DitchSaintModel", "look2", "(I)I"⟩, 39), (⟨"DitchSaintModel", "isSignByte", "(I)Z"⟩, 39), (⟨"DitchSaintModel", "readPart", "()V"⟩, 39), (⟨"DitchSaintModel", "isOdds", "()Z"⟩, 39), (⟨"DitchSaintModel", "isWord", "(J)Z"⟩, 39), (⟨"DitchSaintModel", "readOnce", "(II)V"⟩, 39), (⟨"DitchSaintModel", "once", "(I)V"⟩, 39), (⟨"DitchSaintModel", "fail", "(II)V"⟩, 39), (⟨"DitchSaintModel", "must", "(Z)V"⟩, 39)]
theorem lw_r4 : ∀ q ∈ lw_privs_4, lw_okq q := List.forall_mem_cons.mpr ⟨lw_p48, List.forall_mem_cons.mpr ⟨lw_p49, List.forall_mem_cons.mpr ⟨lw_p50, List.forall_mem_cons.mpr ⟨lw_p51, List.forall_mem_cons.mpr ⟨lw_p52, List.forall_mem_cons.mpr ⟨lw_p53, List.forall_mem_cons.mpr ⟨lw_p54, List.forall_mem_cons.mpr ⟨lw_p55, List.forall_mem_cons.mpr ⟨lw_p56, List.forall_mem_cons.mpr ⟨lw_p57, List.forall_mem_cons.mpr ⟨lw_p58, List.forall_mem_cons.mpr ⟨lw_p59, List.forall_mem_cons.mpr ⟨lw_p60, List.forall_mem_cons.mpr ⟨lw_p61, List.forall_mem_cons.mpr ⟨lw_p62, List.forall_mem_cons.mpr ⟨lw_p63, fun _ h => absurd h List.not_mem_nil⟩⟩⟩⟩⟩⟩⟩⟩⟩⟩⟩⟩⟩⟩⟩⟩
theorem lw_p64 : lw_okq (⟨"DitchSaintModel", "amiss", "()V"⟩, 39) := ⟨⟨by decide +kernel, by decide +kernel⟩, List.mem_of_getElem? (i := 1284) (by decide +kernel), List.mem_of_getElem? (i := 1530) (by decide +kernel), List.mem_of_getElem? (i := 1531) (by decide +kernel)⟩
theorem lw_p65 : lw_okq (⟨"DitchSaintModel", "count", "(II)I"⟩, 39) := ⟨⟨by decide +kernel, by decide +kernel⟩, List.mem_of_getElem? (i := 1284) (by decide +kernel), List.mem_of_getElem? (i := 1534) (by decide +kernel), List.mem_of_getElem? (i := 1535) (by decide +kernel)⟩
theorem lw_p66 : lw_okq (⟨"DitchSaintModel", "isToll", "()Z"⟩, 39) := ⟨⟨by decide +kernel, by decide +kernel⟩, List.mem_of_getElem? (i := 1284) (by decide +kernel), List.mem_of_getElem? (i := 1541) (by decide +kernel), List.mem_of_getElem? (i := 1542) (by decide +kernel)⟩
theorem lw_p67 : lw_okq (⟨"DitchSaintModel", "isWar", "()Z"⟩, 39) := ⟨⟨by decide +kernel, by decide +kernel⟩, List.mem_of_getElem? (i := 1284) (by decide +kernel), List.mem_of_getElem? (i := 1545) (by decide +kernel), List.mem_of_getElem? (i := 1546) (by decide +kernel)⟩
theorem lw_p68 : lw_okq (⟨"DitchSaintModel", "isLies", "()Z"⟩, 39) := ⟨⟨by decide +kernel, by decide +kernel⟩, List.mem_of_getElem? (i := 1284) (by decide +kernel), List.mem_of_getElem? (i := 1549) (by decide +kernel), List.mem_of_getElem? (i := 1550) (by decide +kernel)⟩
theorem lw_p69 : lw_okq (⟨"DitchSaintModel", "readLies", "()V"⟩, 39) := ⟨⟨by decide +kernel, by decide +kernel⟩, List.mem_of_getElem? (i := 1284) (by decide +kernel), List.mem_of_getElem? (i := 1553) (by decide +kernel), List.mem_of_getElem? (i := 1554) (by decide +kernel)⟩
theorem lw_p70 : lw_okq (⟨"DitchSaintModel", "readSide", "()I"⟩, 39) := ⟨⟨by decide +kernel, by decide +kernel⟩, List.mem_of_getElem? (i := 1284) (by decide +kernel), List.mem_of_getElem? (i := 1557) (by decide +kernel), List.mem_of_getElem? (i := 1558) (by decide +kernel)⟩
theorem lw_p71 : lw_okq (⟨"DitchSaintModel", "sideWord", "()I"⟩, 39) := ⟨⟨by decide +kernel, by decide +kernel⟩, List.mem_of_getElem? (i := 1284) (by decide +kernel), List.mem_of_getElem? (i := 1561) (by decide +kernel), List.mem_of_getElem? (i := 1562) (by decide +kernel)⟩
theorem lw_p72 : lw_okq (⟨"DitchSaintModel", "isChest", "()Z"⟩, 39) := ⟨⟨by decide +kernel, by decide +kernel⟩, List.mem_of_getElem? (i := 1284) (by decide +kernel), List.mem_of_getElem? (i := 1566) (by decide +kernel), List.mem_of_getElem? (i := 1567) (by decide +kernel)⟩
theorem lw_p73 : lw_okq (⟨"DitchSaintModel", "readChest", "()V"⟩, 39) := ⟨⟨by decide +kernel, by decide +kernel⟩, List.mem_of_getElem? (i := 1284) (by decide +kernel), List.mem_of_getElem? (i := 1570) (by decide +kernel), List.mem_of_getElem? (i := 1571) (by decide +kernel)⟩
theorem lw_p74 : lw_okq (⟨"DitchSaintModel", "isRight", "()Z"⟩, 39) := ⟨⟨by decide +kernel, by decide +kernel⟩, List.mem_of_getElem? (i := 1284) (by decide +kernel), List.mem_of_getElem? (i := 1574) (by decide +kernel), List.mem_of_getElem? (i := 1575) (by decide +kernel)⟩
theorem lw_p75 : lw_okq (⟨"DitchSaintModel", "readRight", "()V"⟩, 39) := ⟨⟨by decide +kernel, by decide +kernel⟩, List.mem_of_getElem? (i := 1284) (by decide +kernel), List.mem_of_getElem? (i := 1578) (by decide +kernel), List.mem_of_getElem? (i := 1579) (by decide +kernel)⟩
theorem lw_p76 : lw_okq (⟨"DitchSaintModel", "another", "(II)I"⟩, 39) := ⟨⟨by decide +kernel, by decide +kernel⟩, List.mem_of_getElem? (i := 1284) (by decide +kernel), List.mem_of_getElem? (i := 1582) (by decide +kernel), List.mem_of_getElem? (i := 1583) (by decide +kernel)⟩
theorem lw_p77 : lw_okq (⟨"DitchSaintModel", "kindWord", "()I"⟩, 39) := ⟨⟨by decide +kernel, by decide +kernel⟩, List.mem_of_getElem? (i := 1284) (by decide +kernel), List.mem_of_getElem? (i := 1586) (by decide +kernel), List.mem_of_getElem? (i := 1587) (by decide +kernel)⟩
theorem lw_p78 : lw_okq (⟨"DitchSaintModel", "isWorth", "()Z"⟩, 39) := ⟨⟨by decide +kernel, by decide +kernel⟩, List.mem_of_getElem? (i := 1284) (by decide +kernel), List.mem_of_getElem? (i := 1590) (by decide +kernel), List.mem_of_getElem? (i := 1591) (by decide +kernel)⟩
theorem lw_p79 : lw_okq (⟨"DitchSaintModel", "behindWord", "(ZII)I"⟩, 39) := ⟨⟨by decide +kernel, by decide +kernel⟩, List.mem_of_getElem? (i := 1284) (by decide +kernel), List.mem_of_getElem? (i := 1594) (by decide +kernel), List.mem_of_getElem? (i := 1595) (by decide +kernel)⟩
def lw_privs_5 : List (MethodName × Nat) := [(⟨"DitchSaintModel", "amiss", "()V"⟩, 39), (⟨"DitchSaintModel", "count", "(II)I"⟩, 39), (⟨"DitchSaintModel", "isToll", "()Z"⟩, 39), (⟨"DitchSaintModel", "isWar", "()Z"⟩, 39), (⟨"DitchSaintModel", "isLies", "()Z"⟩, 39), (⟨"DitchSaintModel", "readLies", "()V"⟩, 39), (⟨"DitchSaintModel", "readSide", "()I"⟩, 39), (⟨"DitchSaintModel", "sideWord", "()I"⟩, 39), (⟨"DitchSaintModel", "isChest", "()Z"⟩, 39), (⟨"DitchSaintModel", "readChest", "()V"⟩, 39), (⟨"DitchSaintModel", "isRight", "()Z"⟩, 39), (⟨"DitchSaintModel", "readRight", "()V"⟩, 39), (⟨"DitchSaintModel", "another", "(II)I"⟩, 39), (⟨"DitchSaintModel", "kindWord", "()I"⟩, 39), (⟨"DitchSaintModel", "isWorth", "()Z"⟩, 39), (⟨"DitchSaintModel", "behindWord", "(ZII)I"⟩, 39)]
theorem lw_r5 : ∀ q ∈ lw_privs_5, lw_okq q := List.forall_mem_cons.mpr ⟨lw_p64, List.forall_mem_cons.mpr ⟨lw_p65, List.forall_mem_cons.mpr ⟨lw_p66, List.forall_mem_cons.mpr ⟨lw_p67, List.forall_mem_cons.mpr ⟨lw_p68, List.forall_mem_cons.mpr ⟨lw_p69, List.forall_mem_cons.mpr ⟨lw_p70, List.forall_mem_cons.mpr ⟨lw_p71, List.forall_mem_cons.mpr ⟨lw_p72, List.forall_mem_cons.mpr ⟨lw_p73, List.forall_mem_cons.mpr ⟨lw_p74, List.forall_mem_cons.mpr ⟨lw_p75, List.forall_mem_cons.mpr ⟨lw_p76, List.forall_mem_cons.mpr ⟨lw_p77, List.forall_mem_cons.mpr ⟨lw_p78, List.forall_mem_cons.mpr ⟨lw_p79, fun _ h => absurd h List.not_mem_nil⟩⟩⟩⟩⟩⟩⟩⟩⟩⟩⟩⟩⟩⟩⟩⟩
theorem lw_p80 : lw_okq (⟨"DitchSaintModel", "isInWord", "()Z"⟩, 39) := ⟨⟨by decide +kernel, by decide +kernel⟩, List.mem_of_getElem? (i := 1284) (by decide +kernel), List.mem_of_getElem? (i := 1598) (by decide +kernel), List.mem_of_getElem? (i := 1599) (by decide +kernel)⟩
theorem lw_p81 : lw_okq (⟨"DitchSaintModel", "grants", "(IIIIIII)V"⟩, 39) := ⟨⟨by decide +kernel, by decide +kernel⟩, List.mem_of_getElem? (i := 1284) (by decide +kernel), List.mem_of_getElem? (i := 1603) (by decide +kernel), List.mem_of_getElem? (i := 1604) (by decide +kernel)⟩
theorem lw_p82 : lw_okq (⟨"DitchSaintModel", "isDebt", "()Z"⟩, 39) := ⟨⟨by decide +kernel, by decide +kernel⟩, List.mem_of_getElem? (i := 1284) (by decide +kernel), List.mem_of_getElem? (i := 1607) (by decide +kernel), List.mem_of_getElem? (i := 1608) (by decide +kernel)⟩
theorem lw_p83 : lw_okq (⟨"DitchSaintModel", "readDebt", "()V"⟩, 39) := ⟨⟨by decide +kernel, by decide +kernel⟩, List.mem_of_getElem? (i := 1284) (by decide +kernel), List.mem_of_getElem? (i := 1611) (by decide +kernel), List.mem_of_getElem? (i := 1612) (by decide +kernel)⟩
theorem lw_p84 : lw_okq (⟨"DitchSaintModel", "isSum", "()Z"⟩, 39) := ⟨⟨by decide +kernel, by decide +kernel⟩, List.mem_of_getElem? (i := 1284) (by decide +kernel), List.mem_of_getElem? (i := 1615) (by decide +kernel), List.mem_of_getElem? (i := 1616) (by decide +kernel)⟩
theorem lw_p85 : lw_okq (⟨"DitchSaintModel", "isLeft", "()Z"⟩, 39) := ⟨⟨by decide +kernel, by decide +kernel⟩, List.mem_of_getElem? (i := 1284) (by decide +kernel), List.mem_of_getElem? (i := 1619) (by decide +kernel), List.mem_of_getElem? (i := 1620) (by decide +kernel)⟩
theorem lw_p86 : lw_okq (⟨"DitchSaintModel", "swears", "(IIII)V"⟩, 39) := ⟨⟨by decide +kernel, by decide +kernel⟩, List.mem_of_getElem? (i := 1284) (by decide +kernel), List.mem_of_getElem? (i := 1623) (by decide +kernel), List.mem_of_getElem? (i := 1624) (by decide +kernel)⟩
theorem lw_p87 : lw_okq (⟨"DitchSaintModel", "isAsk", "()Z"⟩, 39) := ⟨⟨by decide +kernel, by decide +kernel⟩, List.mem_of_getElem? (i := 1284) (by decide +kernel), List.mem_of_getElem? (i := 1627) (by decide +kernel), List.mem_of_getElem? (i := 1628) (by decide +kernel)⟩
theorem lw_p88 : lw_okq (⟨"DitchSaintModel", "readAsk", "()V"⟩, 39) := ⟨⟨by decide +kernel, by decide +kernel⟩, List.mem_of_getElem? (i := 1284) (by decide +kernel), List.mem_of_getElem? (i := 1631) (by decide +kernel), List.mem_of_getElem? (i := 1632) (by decide +kernel)⟩
theorem lw_p89 : lw_okq (⟨"DitchSaintModel", "isName", "()Z"⟩, 39) := ⟨⟨by decide +kernel, by decide +kernel⟩, List.mem_of_getElem? (i := 1284) (by decide +kernel), List.mem_of_getElem? (i := 1635) (by decide +kernel), List.mem_of_getElem? (i := 1636) (by decide +kernel)⟩
theorem lw_p90 : lw_okq (⟨"DitchSaintModel", "isKept", "()Z"⟩, 39) := ⟨⟨by decide +kernel, by decide +kernel⟩, List.mem_of_getElem? (i := 1284) (by decide +kernel), List.mem_of_getElem? (i := 1639) (by decide +kernel), List.mem_of_getElem? (i := 1640) (by decide +kernel)⟩
theorem lw_p91 : lw_okq (⟨"DitchSaintModel", "isClause", "()Z"⟩, 39) := ⟨⟨by decide +kernel, by decide +kernel⟩, List.mem_of_getElem? (i := 1284) (by decide +kernel), List.mem_of_getElem? (i := 1643) (by decide +kernel), List.mem_of_getElem? (i := 1644) (by decide +kernel)⟩
theorem lw_p92 : lw_okq (⟨"DitchSaintModel", "isNot", "()Z"⟩, 39) := ⟨⟨by decide +kernel, by decide +kernel⟩, List.mem_of_getElem? (i := 1284) (by decide +kernel), List.mem_of_getElem? (i := 1647) (by decide +kernel), List.mem_of_getElem? (i := 1648) (by decide +kernel)⟩
theorem lw_p93 : lw_okq (⟨"DitchSaintModel", "isWitness", "()Z"⟩, 39) := ⟨⟨by decide +kernel, by decide +kernel⟩, List.mem_of_getElem? (i := 1284) (by decide +kernel), List.mem_of_getElem? (i := 1651) (by decide +kernel), List.mem_of_getElem? (i := 1652) (by decide +kernel)⟩
theorem lw_p94 : lw_okq (⟨"DitchSaintModel", "isEnd", "()Z"⟩, 39) := ⟨⟨by decide +kernel, by decide +kernel⟩, List.mem_of_getElem? (i := 1284) (by decide +kernel), List.mem_of_getElem? (i := 1656) (by decide +kernel), List.mem_of_getElem? (i := 1657) (by decide +kernel)⟩
theorem lw_p95 : lw_okq (⟨"DitchSaintModel", "stepWord", "()I"⟩, 39) := ⟨⟨by decide +kernel, by decide +kernel⟩, List.mem_of_getElem? (i := 1284) (by decide +kernel), List.mem_of_getElem? (i := 1660) (by decide +kernel), List.mem_of_getElem? (i := 1661) (by decide +kernel)⟩
def lw_privs_6 : List (MethodName × Nat) := [(⟨"DitchSaintModel", "isInWord", "()Z"⟩, 39), (⟨"DitchSaintModel", "grants", "(IIIIIII)V"⟩, 39), (⟨"DitchSaintModel", "isDebt", "()Z"⟩, 39), (⟨"DitchSaintModel", "readDebt", "()V"⟩, 39), (⟨"DitchSaintModel", "isSum", "()Z"⟩, 39), (⟨"DitchSaintModel", "isLeft", "()Z"⟩, 39), (⟨"DitchSaintModel", "swears", "(IIII)V"⟩, 39), (⟨"DitchSaintModel", "isAsk", "()Z"⟩, 39), (⟨"DitchSaintModel", "readAsk", "()V"⟩, 39), (⟨"DitchSaintModel", "isName", "()Z"⟩, 39), (⟨"DitchSaintModel", "isKept", "()Z"⟩, 39), (⟨"DitchSaintModel", "isClause", "()Z"⟩, 39), (⟨"DitchSaintModel", "isNot", "()Z"⟩, 39), (⟨"DitchSaintModel", "isWitness", "()Z"⟩, 39), (⟨"DitchSaintModel", "isEnd", "()Z"⟩, 39), (⟨"DitchSaintModel", "stepWord", "()I"⟩, 39)]
theorem lw_r6 : ∀ q ∈ lw_privs_6, lw_okq q := List.forall_mem_cons.mpr ⟨lw_p80, List.forall_mem_cons.mpr ⟨lw_p81, List.forall_mem_cons.mpr ⟨lw_p82, List.forall_mem_cons.mpr ⟨lw_p83, List.forall_mem_cons.mpr ⟨lw_p84, List.forall_mem_cons.mpr ⟨lw_p85, List.forall_mem_cons.mpr ⟨lw_p86, List.forall_mem_cons.mpr ⟨lw_p87, List.forall_mem_cons.mpr ⟨lw_p88, List.forall_mem_cons.mpr ⟨lw_p89, List.forall_mem_cons.mpr ⟨lw_p90, List.forall_mem_cons.mpr ⟨lw_p91, List.forall_mem_cons.mpr ⟨lw_p92, List.forall_mem_cons.mpr ⟨lw_p93, List.forall_mem_cons.mpr ⟨lw_p94, List.forall_mem_cons.mpr ⟨lw_p95, fun _ h => absurd h List.not_mem_nil⟩⟩⟩⟩⟩⟩⟩⟩⟩⟩⟩⟩⟩⟩⟩⟩
theorem lw_p96 : lw_okq (⟨"DitchSaintModel", "testWord", "()I"⟩, 39) := ⟨⟨by decide +kernel, by decide +kernel⟩, List.mem_of_getElem? (i := 1284) (by decide +kernel), List.mem_of_getElem? (i := 1664) (by decide +kernel), List.mem_of_getElem? (i := 1665) (by decide +kernel)⟩
theorem lw_p97 : lw_okq (⟨"DitchSaintModel", "named", "()I"⟩, 39) := ⟨⟨by decide +kernel, by decide +kernel⟩, List.mem_of_getElem? (i := 1284) (by decide +kernel), List.mem_of_getElem? (i := 1668) (by decide +kernel), List.mem_of_getElem? (i := 1669) (by decide +kernel)⟩
theorem lw_p98 : lw_okq (⟨"DitchSaintModel", "readClause", "()V"⟩, 39) := ⟨⟨by decide +kernel, by decide +kernel⟩, List.mem_of_getElem? (i := 1284) (by decide +kernel), List.mem_of_getElem? (i := 1672) (by decide +kernel), List.mem_of_getElem? (i := 1673) (by decide +kernel)⟩
theorem lw_p99 : lw_okq (⟨"DitchSaintModel", "readLiteral", "(Z)I"⟩, 39) := ⟨⟨by decide +kernel, by decide +kernel⟩, List.mem_of_getElem? (i := 1284) (by decide +kernel), List.mem_of_getElem? (i := 1676) (by decide +kernel), List.mem_of_getElem? (i := 1677) (by decide +kernel)⟩
theorem lw_p100 : lw_okq (⟨"DitchSaintModel", "readWitness", "()V"⟩, 39) := ⟨⟨by decide +kernel, by decide +kernel⟩, List.mem_of_getElem? (i := 1284) (by decide +kernel), List.mem_of_getElem? (i := 1680) (by decide +kernel), List.mem_of_getElem? (i := 1681) (by decide +kernel)⟩
theorem lw_p101 : lw_okq (⟨"DitchSaintModel", "isSign", "(I)Z"⟩, 39) := ⟨⟨by decide +kernel, by decide +kernel⟩, List.mem_of_getElem? (i := 1284) (by decide +kernel), List.mem_of_getElem? (i := 1684) (by decide +kernel), List.mem_of_getElem? (i := 1685) (by decide +kernel)⟩
theorem lw_p102 : lw_okq (⟨"DitchSaintModel", "isWell", "()Z"⟩, 39) := ⟨⟨by decide +kernel, by decide +kernel⟩, List.mem_of_getElem? (i := 1284) (by decide +kernel), List.mem_of_getElem? (i := 1688) (by decide +kernel), List.mem_of_getElem? (i := 1689) (by decide +kernel)⟩
theorem lw_p103 : lw_okq (⟨"DitchSaintModel", "copy", "(II)V"⟩, 39) := ⟨⟨by decide +kernel, by decide +kernel⟩, List.mem_of_getElem? (i := 1284) (by decide +kernel), List.mem_of_getElem? (i := 1692) (by decide +kernel), List.mem_of_getElem? (i := 1693) (by decide +kernel)⟩
theorem lw_p104 : lw_okq (⟨"DitchSaintModel", "readStep", "(I)V"⟩, 39) := ⟨⟨by decide +kernel, by decide +kernel⟩, List.mem_of_getElem? (i := 1284) (by decide +kernel), List.mem_of_getElem? (i := 1700) (by decide +kernel), List.mem_of_getElem? (i := 1701) (by decide +kernel)⟩
theorem lw_p105 : lw_okq (⟨"DitchSaintModel", "readRest", "(I)V"⟩, 39) := ⟨⟨by decide +kernel, by decide +kernel⟩, List.mem_of_getElem? (i := 1284) (by decide +kernel), List.mem_of_getElem? (i := 1704) (by decide +kernel), List.mem_of_getElem? (i := 1705) (by decide +kernel)⟩
theorem lw_p106 : lw_okq (⟨"DitchSaintModel", "readTest", "(I)V"⟩, 39) := ⟨⟨by decide +kernel, by decide +kernel⟩, List.mem_of_getElem? (i := 1284) (by decide +kernel), List.mem_of_getElem? (i := 1708) (by decide +kernel), List.mem_of_getElem? (i := 1709) (by decide +kernel)⟩
theorem lw_p107 : lw_okq (⟨"DitchSaintModel", "refuse", "(I)I"⟩, 39) := ⟨⟨by decide +kernel, by decide +kernel⟩, List.mem_of_getElem? (i := 1284) (by decide +kernel), List.mem_of_getElem? (i := 1716) (by decide +kernel), List.mem_of_getElem? (i := 1717) (by decide +kernel)⟩
theorem lw_p108 : lw_okq (⟨"DitchSaintModel", "isRightAt", "(I)Z"⟩, 39) := ⟨⟨by decide +kernel, by decide +kernel⟩, List.mem_of_getElem? (i := 1284) (by decide +kernel), List.mem_of_getElem? (i := 1731) (by decide +kernel), List.mem_of_getElem? (i := 1732) (by decide +kernel)⟩
theorem lw_p109 : lw_okq (⟨"DitchSaintModel", "isDebtAt", "(I)Z"⟩, 39) := ⟨⟨by decide +kernel, by decide +kernel⟩, List.mem_of_getElem? (i := 1284) (by decide +kernel), List.mem_of_getElem? (i := 1740) (by decide +kernel), List.mem_of_getElem? (i := 1741) (by decide +kernel)⟩
theorem lw_p110 : lw_okq (⟨"DitchSaintModel", "owed", "(I)I"⟩, 39) := ⟨⟨by decide +kernel, by decide +kernel⟩, List.mem_of_getElem? (i := 1284) (by decide +kernel), List.mem_of_getElem? (i := 1749) (by decide +kernel), List.mem_of_getElem? (i := 1750) (by decide +kernel)⟩
theorem lw_p111 : lw_okq (⟨"DitchSaintModel", "layOf", "(I)I"⟩, 39) := ⟨⟨by decide +kernel, by decide +kernel⟩, List.mem_of_getElem? (i := 1284) (by decide +kernel), List.mem_of_getElem? (i := 1758) (by decide +kernel), List.mem_of_getElem? (i := 1759) (by decide +kernel)⟩
def lw_privs_7 : List (MethodName × Nat) := [(⟨"DitchSaintModel", "testWord", "()I"⟩, 39), (⟨"DitchSaintModel", "named", "()I"⟩, 39), (⟨"DitchSaintModel", "readClause", "()V"⟩, 39), (⟨"DitchSaintModel", "readLiteral", "(Z)I"⟩, 39), (⟨"DitchSaintModel", "readWitness", "()V"⟩, 39), (⟨"DitchSaintModel", "isSign", "(I)Z"⟩, 39), (⟨"DitchSaintModel", "isWell", "()Z"⟩, 39), (⟨"DitchSaintModel", "copy", "(II)V"⟩, 39), (⟨"DitchSaintModel", "readStep", "(I)V"⟩, 39), (⟨"DitchSaintModel", "readRest", "(I)V"⟩, 39), (⟨"DitchSaintModel", "readTest", "(I)V"⟩, 39), (⟨"DitchSaintModel", "refuse", "(I)I"⟩, 39), (⟨"DitchSaintModel", "isRightAt", "(I)Z"⟩, 39), (⟨"DitchSaintModel", "isDebtAt", "(I)Z"⟩, 39), (⟨"DitchSaintModel", "owed", "(I)I"⟩, 39), (⟨"DitchSaintModel", "layOf", "(I)I"⟩, 39)]
theorem lw_r7 : ∀ q ∈ lw_privs_7, lw_okq q := List.forall_mem_cons.mpr ⟨lw_p96, List.forall_mem_cons.mpr ⟨lw_p97, List.forall_mem_cons.mpr ⟨lw_p98, List.forall_mem_cons.mpr ⟨lw_p99, List.forall_mem_cons.mpr ⟨lw_p100, List.forall_mem_cons.mpr ⟨lw_p101, List.forall_mem_cons.mpr ⟨lw_p102, List.forall_mem_cons.mpr ⟨lw_p103, List.forall_mem_cons.mpr ⟨lw_p104, List.forall_mem_cons.mpr ⟨lw_p105, List.forall_mem_cons.mpr ⟨lw_p106, List.forall_mem_cons.mpr ⟨lw_p107, List.forall_mem_cons.mpr ⟨lw_p108, List.forall_mem_cons.mpr ⟨lw_p109, List.forall_mem_cons.mpr ⟨lw_p110, List.forall_mem_cons.mpr ⟨lw_p111, fun _ h => absurd h List.not_mem_nil⟩⟩⟩⟩⟩⟩⟩⟩⟩⟩⟩⟩⟩⟩⟩⟩
theorem lw_p112 : lw_okq (⟨"DitchSaintModel", "isTray", "(I)Z"⟩, 39) := ⟨⟨by decide +kernel, by decide +kernel⟩, List.mem_of_getElem? (i := 1284) (by decide +kernel), List.mem_of_getElem? (i := 1774) (by decide +kernel), List.mem_of_getElem? (i := 1775) (by decide +kernel)⟩
theorem lw_p113 : lw_okq (⟨"DitchSaintModel", "passes", "()V"⟩, 39) := ⟨⟨by decide +kernel, by decide +kernel⟩, List.mem_of_getElem? (i := 1284) (by decide +kernel), List.mem_of_getElem? (i := 1785) (by decide +kernel), List.mem_of_getElem? (i := 1786) (by decide +kernel)⟩
theorem lw_p114 : lw_okq (⟨"DitchSaintModel", "borne", "()I"⟩, 39) := ⟨⟨by decide +kernel, by decide +kernel⟩, List.mem_of_getElem? (i := 1284) (by decide +kernel), List.mem_of_getElem? (i := 1789) (by decide +kernel), List.mem_of_getElem? (i := 1790) (by decide +kernel)⟩
theorem lw_p115 : lw_okq (⟨"DitchSaintModel", "isBorne", "(I)Z"⟩, 39) := ⟨⟨by decide +kernel, by decide +kernel⟩, List.mem_of_getElem? (i := 1284) (by decide +kernel), List.mem_of_getElem? (i := 1793) (by decide +kernel), List.mem_of_getElem? (i := 1794) (by decide +kernel)⟩
theorem lw_p116 : lw_okq (⟨"DitchSaintModel", "brings", "(II)V"⟩, 39) := ⟨⟨by decide +kernel, by decide +kernel⟩, List.mem_of_getElem? (i := 1284) (by decide +kernel), List.mem_of_getElem? (i := 1797) (by decide +kernel), List.mem_of_getElem? (i := 1798) (by decide +kernel)⟩
theorem lw_p117 : lw_okq (⟨"DitchSaintModel", "dropDebt", "(I)V"⟩, 39) := ⟨⟨by decide +kernel, by decide +kernel⟩, List.mem_of_getElem? (i := 1284) (by decide +kernel), List.mem_of_getElem? (i := 1802) (by decide +kernel), List.mem_of_getElem? (i := 1803) (by decide +kernel)⟩
theorem lw_p118 : lw_okq (⟨"DitchSaintModel", "bothChests", "()I"⟩, 39) := ⟨⟨by decide +kernel, by decide +kernel⟩, List.mem_of_getElem? (i := 1284) (by decide +kernel), List.mem_of_getElem? (i := 1806) (by decide +kernel), List.mem_of_getElem? (i := 1807) (by decide +kernel)⟩
theorem lw_p119 : lw_okq (⟨"DitchSaintModel", "carries", "(II)Z"⟩, 39) := ⟨⟨by decide +kernel, by decide +kernel⟩, List.mem_of_getElem? (i := 1284) (by decide +kernel), List.mem_of_getElem? (i := 1815) (by decide +kernel), List.mem_of_getElem? (i := 1816) (by decide +kernel)⟩
theorem lw_p120 : lw_okq (⟨"DitchSaintModel", "hasToll", "()Z"⟩, 39) := ⟨⟨by decide +kernel, by decide +kernel⟩, List.mem_of_getElem? (i := 1284) (by decide +kernel), List.mem_of_getElem? (i := 1819) (by decide +kernel), List.mem_of_getElem? (i := 1820) (by decide +kernel)⟩
theorem lw_p121 : lw_okq (⟨"DitchSaintModel", "pays", "(I)Z"⟩, 39) := ⟨⟨by decide +kernel, by decide +kernel⟩, List.mem_of_getElem? (i := 1284) (by decide +kernel), List.mem_of_getElem? (i := 1832) (by decide +kernel), List.mem_of_getElem? (i := 1833) (by decide +kernel)⟩
theorem lw_p122 : lw_okq (⟨"DitchSaintModel", "keeps", "()V"⟩, 39) := ⟨⟨by decide +kernel, by decide +kernel⟩, List.mem_of_getElem? (i := 1284) (by decide +kernel), List.mem_of_getElem? (i := 1865) (by decide +kernel), List.mem_of_getElem? (i := 1866) (by decide +kernel)⟩
theorem lw_p123 : lw_okq (⟨"DitchSaintModel", "restores", "()V"⟩, 39) := ⟨⟨by decide +kernel, by decide +kernel⟩, List.mem_of_getElem? (i := 1284) (by decide +kernel), List.mem_of_getElem? (i := 1869) (by decide +kernel), List.mem_of_getElem? (i := 1870) (by decide +kernel)⟩
theorem lw_p124 : lw_okq (⟨"DitchSaintModel", "gainOf", "(III)I"⟩, 39) := ⟨⟨by decide +kernel, by decide +kernel⟩, List.mem_of_getElem? (i := 1284) (by decide +kernel), List.mem_of_getElem? (i := 1885) (by decide +kernel), List.mem_of_getElem? (i := 1886) (by decide +kernel)⟩
theorem lw_p125 : lw_okq (⟨"DitchSaintModel", "laysPlans", "(I)V"⟩, 39) := ⟨⟨by decide +kernel, by decide +kernel⟩, List.mem_of_getElem? (i := 1284) (by decide +kernel), List.mem_of_getElem? (i := 1908) (by decide +kernel), List.mem_of_getElem? (i := 1909) (by decide +kernel)⟩
theorem lw_p126 : lw_okq (⟨"DitchSaintModel", "isSuch", "(II)Z"⟩, 39) := ⟨⟨by decide +kernel, by decide +kernel⟩, List.mem_of_getElem? (i := 1284) (by decide +kernel), List.mem_of_getElem? (i := 1916) (by decide +kernel), List.mem_of_getElem? (i := 1917) (by decide +kernel)⟩
theorem lw_p127 : lw_okq (⟨"DitchSaintModel", "isFair", "(I)Z"⟩, 39) := ⟨⟨by decide +kernel, by decide +kernel⟩, List.mem_of_getElem? (i := 1284) (by decide +kernel), List.mem_of_getElem? (i := 1920) (by decide +kernel), List.mem_of_getElem? (i := 1921) (by decide +kernel)⟩
def lw_privs_8 : List (MethodName × Nat) := [(⟨"DitchSaintModel", "isTray", "(I)Z"⟩, 39), (⟨"DitchSaintModel", "passes", "()V"⟩, 39), (⟨"DitchSaintModel", "borne", "()I"⟩, 39), (⟨"DitchSaintModel", "isBorne", "(I)Z"⟩, 39), (⟨"DitchSaintModel", "brings", "(II)V"⟩, 39), (⟨"DitchSaintModel", "dropDebt", "(I)V"⟩, 39), (⟨"DitchSaintModel", "bothChests", "()I"⟩, 39), (⟨"DitchSaintModel", "carries", "(II)Z"⟩, 39), (⟨"DitchSaintModel", "hasToll", "()Z"⟩, 39), (⟨"DitchSaintModel", "pays", "(I)Z"⟩, 39), (⟨"DitchSaintModel", "keeps", "()V"⟩, 39), (⟨"DitchSaintModel", "restores", "()V"⟩, 39), (⟨"DitchSaintModel", "gainOf", "(III)I"⟩, 39), (⟨"DitchSaintModel", "laysPlans", "(I)V"⟩, 39), (⟨"DitchSaintModel", "isSuch", "(II)Z"⟩, 39), (⟨"DitchSaintModel", "isFair", "(I)Z"⟩, 39)]
theorem lw_r8 : ∀ q ∈ lw_privs_8, lw_okq q := List.forall_mem_cons.mpr ⟨lw_p112, List.forall_mem_cons.mpr ⟨lw_p113, List.forall_mem_cons.mpr ⟨lw_p114, List.forall_mem_cons.mpr ⟨lw_p115, List.forall_mem_cons.mpr ⟨lw_p116, List.forall_mem_cons.mpr ⟨lw_p117, List.forall_mem_cons.mpr ⟨lw_p118, List.forall_mem_cons.mpr ⟨lw_p119, List.forall_mem_cons.mpr ⟨lw_p120, List.forall_mem_cons.mpr ⟨lw_p121, List.forall_mem_cons.mpr ⟨lw_p122, List.forall_mem_cons.mpr ⟨lw_p123, List.forall_mem_cons.mpr ⟨lw_p124, List.forall_mem_cons.mpr ⟨lw_p125, List.forall_mem_cons.mpr ⟨lw_p126, List.forall_mem_cons.mpr ⟨lw_p127, fun _ h => absurd h List.not_mem_nil⟩⟩⟩⟩⟩⟩⟩⟩⟩⟩⟩⟩⟩⟩⟩⟩
theorem lw_p128 : lw_okq (⟨"DitchSaintModel", "isTreaty", "(I)Z"⟩, 39) := ⟨⟨by decide +kernel, by decide +kernel⟩, List.mem_of_getElem? (i := 1284) (by decide +kernel), List.mem_of_getElem? (i := 1924) (by decide +kernel), List.mem_of_getElem? (i := 1925) (by decide +kernel)⟩
theorem lw_p129 : lw_okq (⟨"DitchSaintModel", "lesser", "(I)I"⟩, 39) := ⟨⟨by decide +kernel, by decide +kernel⟩, List.mem_of_getElem? (i := 1284) (by decide +kernel), List.mem_of_getElem? (i := 1940) (by decide +kernel), List.mem_of_getElem? (i := 1941) (by decide +kernel)⟩
theorem lw_p130 : lw_okq (⟨"DitchSaintModel", "greatestNet", "(I)I"⟩, 39) := ⟨⟨by decide +kernel, by decide +kernel⟩, List.mem_of_getElem? (i := 1284) (by decide +kernel), List.mem_of_getElem? (i := 1948) (by decide +kernel), List.mem_of_getElem? (i := 1949) (by decide +kernel)⟩
theorem lw_p131 : lw_okq (⟨"DitchSaintModel", "allQuestions", "()I"⟩, 39) := ⟨⟨by decide +kernel, by decide +kernel⟩, List.mem_of_getElem? (i := 1284) (by decide +kernel), List.mem_of_getElem? (i := 1956) (by decide +kernel), List.mem_of_getElem? (i := 1957) (by decide +kernel)⟩
theorem lw_p132 : lw_okq (⟨"DitchSaintModel", "brokenBy", "(I)I"⟩, 39) := ⟨⟨by decide +kernel, by decide +kernel⟩, List.mem_of_getElem? (i := 1284) (by decide +kernel), List.mem_of_getElem? (i := 1960) (by decide +kernel), List.mem_of_getElem? (i := 1961) (by decide +kernel)⟩
theorem lw_p133 : lw_okq (⟨"DitchSaintModel", "striking", "()I"⟩, 39) := ⟨⟨by decide +kernel, by decide +kernel⟩, List.mem_of_getElem? (i := 1284) (by decide +kernel), List.mem_of_getElem? (i := 1972) (by decide +kernel), List.mem_of_getElem? (i := 1973) (by decide +kernel)⟩
theorem lw_p134 : lw_okq (⟨"DitchSaintModel", "plays", "(IIII)I"⟩, 39) := ⟨⟨by decide +kernel, by decide +kernel⟩, List.mem_of_getElem? (i := 1284) (by decide +kernel), List.mem_of_getElem? (i := 1991) (by decide +kernel), List.mem_of_getElem? (i := 1992) (by decide +kernel)⟩
theorem lw_p135 : lw_okq (⟨"DitchSaintModel", "fraction", "(JJ)Z"⟩, 39) := ⟨⟨by decide +kernel, by decide +kernel⟩, List.mem_of_getElem? (i := 1284) (by decide +kernel), List.mem_of_getElem? (i := 2003) (by decide +kernel), List.mem_of_getElem? (i := 2004) (by decide +kernel)⟩
theorem lw_p136 : lw_okq (⟨"DitchSaintModel", "runsYears", "(I)V"⟩, 39) := ⟨⟨by decide +kernel, by decide +kernel⟩, List.mem_of_getElem? (i := 1284) (by decide +kernel), List.mem_of_getElem? (i := 2019) (by decide +kernel), List.mem_of_getElem? (i := 2020) (by decide +kernel)⟩
theorem lw_p137 : lw_okq (⟨"DitchSaintModel", "doAll", "(II)V"⟩, 39) := ⟨⟨by decide +kernel, by decide +kernel⟩, List.mem_of_getElem? (i := 1284) (by decide +kernel), List.mem_of_getElem? (i := 2023) (by decide +kernel), List.mem_of_getElem? (i := 2024) (by decide +kernel)⟩
theorem lw_p138 : lw_okq (⟨"DitchSaintModel", "doOne", "(I)V"⟩, 39) := ⟨⟨by decide +kernel, by decide +kernel⟩, List.mem_of_getElem? (i := 1284) (by decide +kernel), List.mem_of_getElem? (i := 2027) (by decide +kernel), List.mem_of_getElem? (i := 2028) (by decide +kernel)⟩
theorem lw_p139 : lw_okq (⟨"DitchSaintModel", "does", "(I)Z"⟩, 39) := ⟨⟨by decide +kernel, by decide +kernel⟩, List.mem_of_getElem? (i := 1284) (by decide +kernel), List.mem_of_getElem? (i := 2031) (by decide +kernel), List.mem_of_getElem? (i := 2032) (by decide +kernel)⟩
theorem lw_p140 : lw_okq (⟨"DitchSaintModel", "pass", "(I)Z"⟩, 39) := ⟨⟨by decide +kernel, by decide +kernel⟩, List.mem_of_getElem? (i := 1284) (by decide +kernel), List.mem_of_getElem? (i := 2035) (by decide +kernel), List.mem_of_getElem? (i := 2036) (by decide +kernel)⟩
theorem lw_p141 : lw_okq (⟨"DitchSaintModel", "isSworn", "(III)Z"⟩, 39) := ⟨⟨by decide +kernel, by decide +kernel⟩, List.mem_of_getElem? (i := 1284) (by decide +kernel), List.mem_of_getElem? (i := 2039) (by decide +kernel), List.mem_of_getElem? (i := 2040) (by decide +kernel)⟩
theorem lw_p142 : lw_okq (⟨"DitchSaintModel", "isAny", "()Z"⟩, 39) := ⟨⟨by decide +kernel, by decide +kernel⟩, List.mem_of_getElem? (i := 1284) (by decide +kernel), List.mem_of_getElem? (i := 2043) (by decide +kernel), List.mem_of_getElem? (i := 2044) (by decide +kernel)⟩
theorem lw_p143 : lw_okq (⟨"DitchSaintModel", "draw", "(I)I"⟩, 39) := ⟨⟨by decide +kernel, by decide +kernel⟩, List.mem_of_getElem? (i := 1284) (by decide +kernel), List.mem_of_getElem? (i := 2047) (by decide +kernel), List.mem_of_getElem? (i := 2048) (by decide +kernel)⟩
def lw_privs_9 : List (MethodName × Nat) := [(⟨"DitchSaintModel", "isTreaty", "(I)Z"⟩, 39), (⟨"DitchSaintModel", "lesser", "(I)I"⟩, 39), (⟨"DitchSaintModel", "greatestNet", "(I)I"⟩, 39), (⟨"DitchSaintModel", "allQuestions", "()I"⟩, 39), (⟨"DitchSaintModel", "brokenBy", "(I)I"⟩, 39), (⟨"DitchSaintModel", "striking", "()I"⟩, 39), (⟨"DitchSaintModel", "plays", "(IIII)I"⟩, 39), (⟨"DitchSaintModel", "fraction", "(JJ)Z"⟩, 39), (⟨"DitchSaintModel", "runsYears", "(I)V"⟩, 39), (⟨"DitchSaintModel", "doAll", "(II)V"⟩, 39), (⟨"DitchSaintModel", "doOne", "(I)V"⟩, 39), (⟨"DitchSaintModel", "does", "(I)Z"⟩, 39), (⟨"DitchSaintModel", "pass", "(I)Z"⟩, 39), (⟨"DitchSaintModel", "isSworn", "(III)Z"⟩, 39), (⟨"DitchSaintModel", "isAny", "()Z"⟩, 39), (⟨"DitchSaintModel", "draw", "(I)I"⟩, 39)]
theorem lw_r9 : ∀ q ∈ lw_privs_9, lw_okq q := List.forall_mem_cons.mpr ⟨lw_p128, List.forall_mem_cons.mpr ⟨lw_p129, List.forall_mem_cons.mpr ⟨lw_p130, List.forall_mem_cons.mpr ⟨lw_p131, List.forall_mem_cons.mpr ⟨lw_p132, List.forall_mem_cons.mpr ⟨lw_p133, List.forall_mem_cons.mpr ⟨lw_p134, List.forall_mem_cons.mpr ⟨lw_p135, List.forall_mem_cons.mpr ⟨lw_p136, List.forall_mem_cons.mpr ⟨lw_p137, List.forall_mem_cons.mpr ⟨lw_p138, List.forall_mem_cons.mpr ⟨lw_p139, List.forall_mem_cons.mpr ⟨lw_p140, List.forall_mem_cons.mpr ⟨lw_p141, List.forall_mem_cons.mpr ⟨lw_p142, List.forall_mem_cons.mpr ⟨lw_p143, fun _ h => absurd h List.not_mem_nil⟩⟩⟩⟩⟩⟩⟩⟩⟩⟩⟩⟩⟩⟩⟩⟩
theorem lw_p144 : lw_okq (⟨"DitchSaintModel", "holds", "(I)Z"⟩, 39) := ⟨⟨by decide +kernel, by decide +kernel⟩, List.mem_of_getElem? (i := 1284) (by decide +kernel), List.mem_of_getElem? (i := 2052) (by decide +kernel), List.mem_of_getElem? (i := 2053) (by decide +kernel)⟩
def lw_privs_10 : List (MethodName × Nat) := [(⟨"DitchSaintModel", "holds", "(I)Z"⟩, 39)]
theorem lw_r10 : ∀ q ∈ lw_privs_10, lw_okq q := List.forall_mem_cons.mpr ⟨lw_p144, fun _ h => absurd h List.not_mem_nil⟩
def lw_privs : List (MethodName × Nat) := lw_privs_1 ++ (lw_privs_2 ++ (lw_privs_3 ++ (lw_privs_4 ++ (lw_privs_5 ++ (lw_privs_6 ++ (lw_privs_7 ++ (lw_privs_8 ++ (lw_privs_9 ++ (lw_privs_10)))))))))
def lw_tbl : List Cond := k2_sels lw_privs ++ tables_1
theorem lw_privs_ok : ∀ q ∈ lw_privs, lw_okq q := by
  show ∀ q ∈ lw_privs_1 ++ (lw_privs_2 ++ (lw_privs_3 ++ (lw_privs_4 ++ (lw_privs_5 ++ (lw_privs_6 ++ (lw_privs_7 ++ (lw_privs_8 ++ (lw_privs_9 ++ (lw_privs_10))))))))), lw_okq q
  exact List.forall_mem_append.mpr ⟨lw_r1, List.forall_mem_append.mpr ⟨lw_r2, List.forall_mem_append.mpr ⟨lw_r3, List.forall_mem_append.mpr ⟨lw_r4, List.forall_mem_append.mpr ⟨lw_r5, List.forall_mem_append.mpr ⟨lw_r6, List.forall_mem_append.mpr ⟨lw_r7, List.forall_mem_append.mpr ⟨lw_r8, List.forall_mem_append.mpr ⟨lw_r9, lw_r10⟩⟩⟩⟩⟩⟩⟩⟩⟩

def RX0 : String := "DitchSaint$Court"
def TX0 : u_T := fun k => match k with
  | 0 => ("DitchSaint$Court", "so", "[I", true)
  | 1 => ("DitchSaint$Court", "notSo", "[I", true)
  | 2 => ("DitchSaint$Court", "ifEast", "[I", true)
  | 3 => ("DitchSaint$Court", "ifWest", "[I", true)
  | 4 => ("DitchSaint$Court", "questions", "I", false)
  | 5 => ("DitchSaint$Court", "clauses", "I", false)
  | _ => ("DitchSaint$Court", "witnesses", "I", false)
def tyX0 : Nat → FieldType := fun k => match k with
  | 0 => .array .int
  | 1 => .array .int
  | 2 => .array .int
  | 3 => .array .int
  | 4 => .int
  | 5 => .int
  | _ => .int
abbrev wsX00 : List Cond := u_ws RX0 TX0 7
theorem nmX0 : ∀ a, a < 7 → ∀ b, b < 7 → a ≠ b → (TX0 a).2.1 ≠ (TX0 b).2.1 := by decide +kernel
theorem tyX0_ok : ∀ k, k < 7 → parseFieldDescriptor (TX0 k).2.2.1 = some (tyX0 k) := by decide +kernel
abbrev cX0_init : ByteArray := prog_2_method_1_code
def yX0_init : MethodName := ⟨RX0, "<init>", "()V"⟩
abbrev cX0_beginAnew : ByteArray := prog_2_method_2_code
def yX0_beginAnew : MethodName := ⟨RX0, "beginAnew", "()V"⟩
abbrev cX0_addClause : ByteArray := prog_2_method_3_code
def yX0_addClause : MethodName := ⟨RX0, "addClause", "(II)Z"⟩
abbrev cX0_addWitness : ByteArray := prog_2_method_4_code
def yX0_addWitness : MethodName := ⟨RX0, "addWitness", "(II)Z"⟩
abbrev cX0_brokenBy : ByteArray := prog_2_method_5_code
def yX0_brokenBy : MethodName := ⟨RX0, "brokenBy", "(I)I"⟩
abbrev cX0_countRulings : ByteArray := prog_2_method_6_code
def yX0_countRulings : MethodName := ⟨RX0, "countRulings", "()I"⟩
abbrev cX0_findRuling : ByteArray := prog_2_method_7_code
def yX0_findRuling : MethodName := ⟨RX0, "findRuling", "(I)I"⟩
abbrev cX0_leastStrike : ByteArray := prog_2_method_8_code
def yX0_leastStrike : MethodName := ⟨RX0, "leastStrike", "()I"⟩
abbrev cX0_sureTruth : ByteArray := prog_2_method_9_code
def yX0_sureTruth : MethodName := ⟨RX0, "sureTruth", "(I)I"⟩
abbrev cX0_copyFrom : ByteArray := prog_2_method_10_code
def yX0_copyFrom : MethodName := ⟨RX0, "copyFrom", "(LDitchSaint$Court;)V"⟩
def RX1 : String := "DitchSaint$Debts"
def TX1 : u_T := fun k => match k with
  | 0 => ("DitchSaint$Debts", "side", "[I", true)
  | 1 => ("DitchSaint$Debts", "sum", "[I", true)
  | 2 => ("DitchSaint$Debts", "left", "[I", true)
  | 3 => ("DitchSaint$Debts", "count", "I", false)
  | _ => ("DitchSaint$Debts", "lapsed", "I", false)
def tyX1 : Nat → FieldType := fun k => match k with
  | 0 => .array .int
  | 1 => .array .int
  | 2 => .array .int
  | 3 => .int
  | _ => .int
abbrev wsX10 : List Cond := u_ws RX1 TX1 5
theorem nmX1 : ∀ a, a < 5 → ∀ b, b < 5 → a ≠ b → (TX1 a).2.1 ≠ (TX1 b).2.1 := by decide +kernel
theorem tyX1_ok : ∀ k, k < 5 → parseFieldDescriptor (TX1 k).2.2.1 = some (tyX1 k) := by decide +kernel
abbrev cX1_init : ByteArray := prog_3_method_1_code
def yX1_init : MethodName := ⟨RX1, "<init>", "()V"⟩
abbrev cX1_isThere : ByteArray := prog_3_method_2_code
def yX1_isThere : MethodName := ⟨RX1, "isThere", "(I)Z"⟩
abbrev cX1_add : ByteArray := prog_3_method_3_code
def yX1_add : MethodName := ⟨RX1, "add", "(III)Z"⟩
abbrev cX1_drop : ByteArray := prog_3_method_4_code
def yX1_drop : MethodName := ⟨RX1, "drop", "(I)V"⟩
abbrev cX1_age : ByteArray := prog_3_method_5_code
def yX1_age : MethodName := ⟨RX1, "age", "()V"⟩
abbrev cX1_lapseAll : ByteArray := prog_3_method_6_code
def yX1_lapseAll : MethodName := ⟨RX1, "lapseAll", "()V"⟩
abbrev cX1_owedBy : ByteArray := prog_3_method_7_code
def yX1_owedBy : MethodName := ⟨RX1, "owedBy", "(I)I"⟩
abbrev cX1_copyFrom : ByteArray := prog_3_method_8_code
def yX1_copyFrom : MethodName := ⟨RX1, "copyFrom", "(LDitchSaint$Debts;)V"⟩
abbrev cX1_copyOne : ByteArray := prog_3_method_9_code
def yX1_copyOne : MethodName := ⟨RX1, "copyOne", "(LDitchSaint$Debts;II)V"⟩
def RX2 : String := "DitchSaint$Life"
def TX2 : u_T := fun k => match k with
  | 0 => ("DitchSaint$Life", "rest", "[I", true)
  | 1 => ("DitchSaint$Life", "drawn", "I", false)
  | 2 => ("DitchSaint$Life", "steps", "I", false)
  | 3 => ("DitchSaint$Life", "missed", "I", false)
  | 4 => ("DitchSaint$Life", "months", "I", false)
  | 5 => ("DitchSaint$Life", "carried", "I", false)
  | 6 => ("DitchSaint$Life", "lapsed", "I", false)
  | 7 => ("DitchSaint$Life", "stepLeft", "I", false)
  | _ => ("DitchSaint$Life", "wasRun", "Z", false)
def tyX2 : Nat → FieldType := fun k => match k with
  | 0 => .array .int
  | 1 => .int
  | 2 => .int
  | 3 => .int
  | 4 => .int
  | 5 => .int
  | 6 => .int
  | 7 => .int
  | _ => .boolean
abbrev wsX20 : List Cond := u_ws RX2 TX2 9
theorem nmX2 : ∀ a, a < 9 → ∀ b, b < 9 → a ≠ b → (TX2 a).2.1 ≠ (TX2 b).2.1 := by decide +kernel
theorem tyX2_ok : ∀ k, k < 9 → parseFieldDescriptor (TX2 k).2.2.1 = some (tyX2 k) := by decide +kernel
abbrev cX2_init : ByteArray := prog_4_method_1_code
def yX2_init : MethodName := ⟨RX2, "<init>", "()V"⟩
abbrev cX2_run : ByteArray := prog_4_method_2_code
def yX2_run : MethodName := ⟨RX2, "run", "(LDitchSaint$Parish;I)V"⟩
abbrev cX2_begin : ByteArray := prog_4_method_3_code
def yX2_begin : MethodName := ⟨RX2, "begin", "(LDitchSaint$Parish;I)V"⟩
abbrev cX2_finish : ByteArray := prog_4_method_4_code
def yX2_finish : MethodName := ⟨RX2, "finish", "(LDitchSaint$Parish;)V"⟩
abbrev cX2_behindEnd : ByteArray := prog_4_method_5_code
def yX2_behindEnd : MethodName := ⟨RX2, "behindEnd", "(LDitchSaint$Years;I)I"⟩
abbrev cX2_behindStep : ByteArray := prog_4_method_6_code
def yX2_behindStep : MethodName := ⟨RX2, "behindStep", "(LDitchSaint$Parish;I)I"⟩
abbrev cX2_isDone : ByteArray := prog_4_method_7_code
def yX2_isDone : MethodName := ⟨RX2, "isDone", "(LDitchSaint$Parish;I)Z"⟩
abbrev cX2_isAnyDone : ByteArray := prog_4_method_8_code
def yX2_isAnyDone : MethodName := ⟨RX2, "isAnyDone", "(LDitchSaint$Parish;)Z"⟩
abbrev cX2_drawBy : ByteArray := prog_4_method_9_code
def yX2_drawBy : MethodName := ⟨RX2, "drawBy", "(I)I"⟩
abbrev cX2_holds : ByteArray := prog_4_method_10_code
def yX2_holds : MethodName := ⟨RX2, "holds", "(LDitchSaint$Parish;I)Z"⟩
def RX3 : String := "DitchSaint$Parish"
def TX3 : u_T := fun k => match k with
  | 0 => ("DitchSaint$Parish", "chests", "[I", true)
  | 1 => ("DitchSaint$Parish", "rights", "LDitchSaint$Rights;", true)
  | 2 => ("DitchSaint$Parish", "debts", "LDitchSaint$Debts;", true)
  | 3 => ("DitchSaint$Parish", "court", "LDitchSaint$Court;", true)
  | 4 => ("DitchSaint$Parish", "years", "LDitchSaint$Years;", true)
  | 5 => ("DitchSaint$Parish", "odds", "I", false)
  | 6 => ("DitchSaint$Parish", "toll", "I", false)
  | 7 => ("DitchSaint$Parish", "war", "I", false)
  | 8 => ("DitchSaint$Parish", "lies", "I", false)
  | 9 => ("DitchSaint$Parish", "lay", "I", false)
  | 10 => ("DitchSaint$Parish", "month", "I", false)
  | _ => ("DitchSaint$Parish", "carried", "I", false)
def tyX3 : Nat → FieldType := fun k => match k with
  | 0 => .array .int
  | 1 => .object "DitchSaint$Rights"
  | 2 => .object "DitchSaint$Debts"
  | 3 => .object "DitchSaint$Court"
  | 4 => .object "DitchSaint$Years"
  | 5 => .int
  | 6 => .int
  | 7 => .int
  | 8 => .int
  | 9 => .int
  | 10 => .int
  | _ => .int
abbrev wsX30 : List Cond := u_ws RX3 TX3 12
theorem nmX3 : ∀ a, a < 12 → ∀ b, b < 12 → a ≠ b → (TX3 a).2.1 ≠ (TX3 b).2.1 := by decide +kernel
theorem tyX3_ok : ∀ k, k < 12 → parseFieldDescriptor (TX3 k).2.2.1 = some (tyX3 k) := by decide +kernel
abbrev cX3_init : ByteArray := prog_5_method_1_code
def yX3_init : MethodName := ⟨RX3, "<init>", "()V"⟩
abbrev cX3_beginAnew : ByteArray := prog_5_method_2_code
def yX3_beginAnew : MethodName := ⟨RX3, "beginAnew", "()V"⟩
abbrev cX3_lieEver : ByteArray := prog_5_method_3_code
def yX3_lieEver : MethodName := ⟨RX3, "lieEver", "(I)V"⟩
abbrev cX3_setRule : ByteArray := prog_5_method_4_code
def yX3_setRule : MethodName := ⟨RX3, "setRule", "(II)V"⟩
abbrev cX3_bothChests : ByteArray := prog_5_method_5_code
def yX3_bothChests : MethodName := ⟨RX3, "bothChests", "()I"⟩
abbrev cX3_sideAgo : ByteArray := prog_5_method_6_code
def yX3_sideAgo : MethodName := ⟨RX3, "sideAgo", "(I)I"⟩
abbrev cX3_isBearing : ByteArray := prog_5_method_7_code
def yX3_isBearing : MethodName := ⟨RX3, "isBearing", "(I)Z"⟩
abbrev cX3_passMonth : ByteArray := prog_5_method_8_code
def yX3_passMonth : MethodName := ⟨RX3, "passMonth", "()V"⟩
abbrev cX3_passMonths : ByteArray := prog_5_method_9_code
def yX3_passMonths : MethodName := ⟨RX3, "passMonths", "(I)Z"⟩
abbrev cX3_carryBy : ByteArray := prog_5_method_10_code
def yX3_carryBy : MethodName := ⟨RX3, "carryBy", "(II)Z"⟩
abbrev cX3_payDebt : ByteArray := prog_5_method_11_code
def yX3_payDebt : MethodName := ⟨RX3, "payDebt", "(I)Z"⟩
abbrev cX3_bring : ByteArray := prog_5_method_12_code
def yX3_bring : MethodName := ⟨RX3, "bring", "(II)V"⟩
abbrev cX3_copyFrom : ByteArray := prog_5_method_13_code
def yX3_copyFrom : MethodName := ⟨RX3, "copyFrom", "(LDitchSaint$Parish;)V"⟩
def RX4 : String := "DitchSaint$ParishReader"
def TX4 : u_T := fun k => match k with
  | 0 => ("DitchSaint$ParishReader", "tokens", "LDitchSaint$Tokens;", true)
  | 1 => ("DitchSaint$ParishReader", "parish", "LDitchSaint$Parish;", true)
  | 2 => ("DitchSaint$ParishReader", "namePlace", "[I", true)
  | 3 => ("DitchSaint$ParishReader", "nameSize", "[I", true)
  | _ => ("DitchSaint$ParishReader", "told", "I", false)
def tyX4 : Nat → FieldType := fun k => match k with
  | 0 => .object "DitchSaint$Tokens"
  | 1 => .object "DitchSaint$Parish"
  | 2 => .array .int
  | 3 => .array .int
  | _ => .int
abbrev wsX40 : List Cond := u_ws RX4 TX4 5
theorem nmX4 : ∀ a, a < 5 → ∀ b, b < 5 → a ≠ b → (TX4 a).2.1 ≠ (TX4 b).2.1 := by decide +kernel
theorem tyX4_ok : ∀ k, k < 5 → parseFieldDescriptor (TX4 k).2.2.1 = some (tyX4 k) := by decide +kernel
abbrev cX4_init : ByteArray := prog_6_method_1_code
def yX4_init : MethodName := ⟨RX4, "<init>", "(LDitchSaint$Tokens;LDitchSaint$Parish;)V"⟩
abbrev cX4_readText : ByteArray := prog_6_method_2_code
def yX4_readText : MethodName := ⟨RX4, "readText", "(I)Z"⟩
abbrev cX4_isFirst : ByteArray := prog_6_method_3_code
def yX4_isFirst : MethodName := ⟨RX4, "isFirst", "(I)Z"⟩
abbrev cX4_hasRoom : ByteArray := prog_6_method_4_code
def yX4_hasRoom : MethodName := ⟨RX4, "hasRoom", "(II)Z"⟩
abbrev cX4_readRule : ByteArray := prog_6_method_5_code
def yX4_readRule : MethodName := ⟨RX4, "readRule", "(I)Z"⟩
abbrev cX4_readLies : ByteArray := prog_6_method_6_code
def yX4_readLies : MethodName := ⟨RX4, "readLies", "()Z"⟩
abbrev cX4_readChest : ByteArray := prog_6_method_7_code
def yX4_readChest : MethodName := ⟨RX4, "readChest", "()Z"⟩
abbrev cX4_readRight : ByteArray := prog_6_method_8_code
def yX4_readRight : MethodName := ⟨RX4, "readRight", "()Z"⟩
abbrev cX4_kindHere : ByteArray := prog_6_method_9_code
def yX4_kindHere : MethodName := ⟨RX4, "kindHere", "()I"⟩
abbrev cX4_takeMonths : ByteArray := prog_6_method_10_code
def yX4_takeMonths : MethodName := ⟨RX4, "takeMonths", "()I"⟩
abbrev cX4_readDebt : ByteArray := prog_6_method_11_code
def yX4_readDebt : MethodName := ⟨RX4, "readDebt", "()Z"⟩
abbrev cX4_readAsk : ByteArray := prog_6_method_12_code
def yX4_readAsk : MethodName := ⟨RX4, "readAsk", "()Z"⟩
abbrev cX4_questionHere : ByteArray := prog_6_method_13_code
def yX4_questionHere : MethodName := ⟨RX4, "questionHere", "()I"⟩
abbrev cX4_isNameHere : ByteArray := prog_6_method_14_code
def yX4_isNameHere : MethodName := ⟨RX4, "isNameHere", "(I)Z"⟩
abbrev cX4_readClause : ByteArray := prog_6_method_15_code
def yX4_readClause : MethodName := ⟨RX4, "readClause", "()Z"⟩
abbrev cX4_takeLiteral : ByteArray := prog_6_method_16_code
def yX4_takeLiteral : MethodName := ⟨RX4, "takeLiteral", "(Z)I"⟩
abbrev cX4_readWitness : ByteArray := prog_6_method_17_code
def yX4_readWitness : MethodName := ⟨RX4, "readWitness", "()Z"⟩
def RX5 : String := "DitchSaint$Plans"
def TX5 : u_T := fun k => match k with
  | 0 => ("DitchSaint$Plans", "bearing", "[I", true)
  | 1 => ("DitchSaint$Plans", "lowGain", "[I", true)
  | 2 => ("DitchSaint$Plans", "highGain", "[I", true)
  | 3 => ("DitchSaint$Plans", "fought", "[I", true)
  | 4 => ("DitchSaint$Plans", "toll", "I", false)
  | _ => ("DitchSaint$Plans", "lies", "I", false)
def tyX5 : Nat → FieldType := fun k => match k with
  | 0 => .array .int
  | 1 => .array .int
  | 2 => .array .int
  | 3 => .array .int
  | 4 => .int
  | _ => .int
abbrev wsX50 : List Cond := u_ws RX5 TX5 6
theorem nmX5 : ∀ a, a < 6 → ∀ b, b < 6 → a ≠ b → (TX5 a).2.1 ≠ (TX5 b).2.1 := by decide +kernel
theorem tyX5_ok : ∀ k, k < 6 → parseFieldDescriptor (TX5 k).2.2.1 = some (tyX5 k) := by decide +kernel
abbrev cX5_init : ByteArray := prog_7_method_1_code
def yX5_init : MethodName := ⟨RX5, "<init>", "()V"⟩
abbrev cX5_weigh : ByteArray := prog_7_method_2_code
def yX5_weigh : MethodName := ⟨RX5, "weigh", "(LDitchSaint$Parish;)V"⟩
abbrev cX5_foughtBy : ByteArray := prog_7_method_3_code
def yX5_foughtBy : MethodName := ⟨RX5, "foughtBy", "(II)I"⟩
abbrev cX5_weighRight : ByteArray := prog_7_method_4_code
def yX5_weighRight : MethodName := ⟨RX5, "weighRight", "(LDitchSaint$Rights;I)V"⟩
abbrev cX5_bearingAt : ByteArray := prog_7_method_5_code
def yX5_bearingAt : MethodName := ⟨RX5, "bearingAt", "(III)I"⟩
abbrev cX5_sumHalf : ByteArray := prog_7_method_6_code
def yX5_sumHalf : MethodName := ⟨RX5, "sumHalf", "([III)V"⟩
abbrev cX5_gainOf : ByteArray := prog_7_method_7_code
def yX5_gainOf : MethodName := ⟨RX5, "gainOf", "(II)I"⟩
abbrev cX5_changesOf : ByteArray := prog_7_method_8_code
def yX5_changesOf : MethodName := ⟨RX5, "changesOf", "(I)I"⟩
abbrev cX5_netOf : ByteArray := prog_7_method_9_code
def yX5_netOf : MethodName := ⟨RX5, "netOf", "(I)I"⟩
abbrev cX5_bestWithin : ByteArray := prog_7_method_10_code
def yX5_bestWithin : MethodName := ⟨RX5, "bestWithin", "(I)I"⟩
abbrev cX5_isOf : ByteArray := prog_7_method_11_code
def yX5_isOf : MethodName := ⟨RX5, "isOf", "(II)Z"⟩
abbrev cX5_isFair : ByteArray := prog_7_method_12_code
def yX5_isFair : MethodName := ⟨RX5, "isFair", "(I)Z"⟩
abbrev cX5_isTreaty : ByteArray := prog_7_method_13_code
def yX5_isTreaty : MethodName := ⟨RX5, "isTreaty", "(I)Z"⟩
abbrev cX5_countOf : ByteArray := prog_7_method_14_code
def yX5_countOf : MethodName := ⟨RX5, "countOf", "(I)I"⟩
abbrev cX5_bestAmong : ByteArray := prog_7_method_15_code
def yX5_bestAmong : MethodName := ⟨RX5, "bestAmong", "(I)I"⟩
abbrev cX5_evenPlan : ByteArray := prog_7_method_16_code
def yX5_evenPlan : MethodName := ⟨RX5, "evenPlan", "()I"⟩
abbrev cX5_greatestWithout : ByteArray := prog_7_method_17_code
def yX5_greatestWithout : MethodName := ⟨RX5, "greatestWithout", "(II)I"⟩
abbrev cX5_playedOut : ByteArray := prog_7_method_18_code
def yX5_playedOut : MethodName := ⟨RX5, "playedOut", "(I)I"⟩
abbrev cX5_firstMove : ByteArray := prog_7_method_19_code
def yX5_firstMove : MethodName := ⟨RX5, "firstMove", "(I)I"⟩
abbrev cX5_bestPlay : ByteArray := prog_7_method_20_code
def yX5_bestPlay : MethodName := ⟨RX5, "bestPlay", "(LDitchSaint$Plans;IIIZII)I"⟩
abbrev cX5_leadOf : ByteArray := prog_7_method_21_code
def yX5_leadOf : MethodName := ⟨RX5, "leadOf", "(II)I"⟩
def RX6 : String := "DitchSaint$Rights"
def TX6 : u_T := fun k => match k with
  | 0 => ("DitchSaint$Rights", "side", "[I", true)
  | 1 => ("DitchSaint$Rights", "kind", "[I", true)
  | 2 => ("DitchSaint$Rights", "lag", "[I", true)
  | 3 => ("DitchSaint$Rights", "worth", "[I", true)
  | 4 => ("DitchSaint$Rights", "months", "[I", true)
  | _ => ("DitchSaint$Rights", "count", "I", false)
def tyX6 : Nat → FieldType := fun k => match k with
  | 0 => .array .int
  | 1 => .array .int
  | 2 => .array .int
  | 3 => .array .int
  | 4 => .array .int
  | _ => .int
abbrev wsX60 : List Cond := u_ws RX6 TX6 6
theorem nmX6 : ∀ a, a < 6 → ∀ b, b < 6 → a ≠ b → (TX6 a).2.1 ≠ (TX6 b).2.1 := by decide +kernel
theorem tyX6_ok : ∀ k, k < 6 → parseFieldDescriptor (TX6 k).2.2.1 = some (tyX6 k) := by decide +kernel
abbrev cX6_init : ByteArray := prog_8_method_1_code
def yX6_init : MethodName := ⟨RX6, "<init>", "()V"⟩
abbrev cX6_isThere : ByteArray := prog_8_method_2_code
def yX6_isThere : MethodName := ⟨RX6, "isThere", "(I)Z"⟩
abbrev cX6_isIn : ByteArray := prog_8_method_3_code
def yX6_isIn : MethodName := ⟨RX6, "isIn", "(II)Z"⟩
abbrev cX6_add : ByteArray := prog_8_method_4_code
def yX6_add : MethodName := ⟨RX6, "add", "(IIIII)Z"⟩
abbrev cX6_awayIn : ByteArray := prog_8_method_5_code
def yX6_awayIn : MethodName := ⟨RX6, "awayIn", "(I)I"⟩
abbrev cX6_copyFrom : ByteArray := prog_8_method_6_code
def yX6_copyFrom : MethodName := ⟨RX6, "copyFrom", "(LDitchSaint$Rights;)V"⟩
def RX7 : String := "DitchSaint$Tokens"
def TX7 : u_T := fun k => match k with
  | 0 => ("DitchSaint$Tokens", "tape", "[B", true)
  | 1 => ("DitchSaint$Tokens", "fed", "I", false)
  | 2 => ("DitchSaint$Tokens", "length", "I", false)
  | 3 => ("DitchSaint$Tokens", "token", "I", false)
  | 4 => ("DitchSaint$Tokens", "place", "I", false)
  | 5 => ("DitchSaint$Tokens", "behind", "I", false)
  | 6 => ("DitchSaint$Tokens", "number", "I", false)
  | 7 => ("DitchSaint$Tokens", "fault", "I", false)
  | _ => ("DitchSaint$Tokens", "faultPlace", "I", false)
def tyX7 : Nat → FieldType := fun k => match k with
  | 0 => .array .byte
  | 1 => .int
  | 2 => .int
  | 3 => .int
  | 4 => .int
  | 5 => .int
  | 6 => .int
  | 7 => .int
  | _ => .int
abbrev wsX70 : List Cond := u_ws RX7 TX7 9
theorem nmX7 : ∀ a, a < 9 → ∀ b, b < 9 → a ≠ b → (TX7 a).2.1 ≠ (TX7 b).2.1 := by decide +kernel
theorem tyX7_ok : ∀ k, k < 9 → parseFieldDescriptor (TX7 k).2.2.1 = some (tyX7 k) := by decide +kernel
abbrev cX7_init : ByteArray := prog_9_method_1_code
def yX7_init : MethodName := ⟨RX7, "<init>", "()V"⟩
abbrev cX7_hasRoom : ByteArray := prog_9_method_2_code
def yX7_hasRoom : MethodName := ⟨RX7, "hasRoom", "()Z"⟩
abbrev cX7_put : ByteArray := prog_9_method_3_code
def yX7_put : MethodName := ⟨RX7, "put", "(I)V"⟩
abbrev cX7_open : ByteArray := prog_9_method_4_code
def yX7_open : MethodName := ⟨RX7, "open", "(I)V"⟩
abbrev cX7_advance : ByteArray := prog_9_method_5_code
def yX7_advance : MethodName := ⟨RX7, "advance", "()V"⟩
abbrev cX7_isBetween : ByteArray := prog_9_method_6_code
def yX7_isBetween : MethodName := ⟨RX7, "isBetween", "(ICC)Z"⟩
abbrev cX7_goBehind : ByteArray := prog_9_method_7_code
def yX7_goBehind : MethodName := ⟨RX7, "goBehind", "(CC)V"⟩
abbrev cX7_digitsRead : ByteArray := prog_9_method_8_code
def yX7_digitsRead : MethodName := ⟨RX7, "digitsRead", "()I"⟩
abbrev cX7_signAt : ByteArray := prog_9_method_9_code
def yX7_signAt : MethodName := ⟨RX7, "signAt", "(I)I"⟩
abbrev cX7_wordNumber : ByteArray := prog_9_method_10_code
def yX7_wordNumber : MethodName := ⟨RX7, "wordNumber", "()I"⟩
abbrev cX7_fail : ByteArray := prog_9_method_11_code
def yX7_fail : MethodName := ⟨RX7, "fail", "(I)Z"⟩
abbrev cX7_take : ByteArray := prog_9_method_12_code
def yX7_take : MethodName := ⟨RX7, "take", "(I)Z"⟩
abbrev cX7_takeNumber : ByteArray := prog_9_method_13_code
def yX7_takeNumber : MethodName := ⟨RX7, "takeNumber", "(II)I"⟩
abbrev cX7_sideHere : ByteArray := prog_9_method_14_code
def yX7_sideHere : MethodName := ⟨RX7, "sideHere", "()I"⟩
abbrev cX7_takeSide : ByteArray := prog_9_method_15_code
def yX7_takeSide : MethodName := ⟨RX7, "takeSide", "()I"⟩
def RX8 : String := "DitchSaint$Trays"
def TX8 : u_T := fun k => match k with
  | 0 => ("DitchSaint$Trays", "numbers", "[J", true)
  | 1 => ("DitchSaint$Trays", "lengths", "[I", true)
  | _ => ("DitchSaint$Trays", "sorts", "[I", true)
def tyX8 : Nat → FieldType := fun k => match k with
  | 0 => .array .long
  | 1 => .array .int
  | _ => .array .int
abbrev wsX80 : List Cond := u_ws RX8 TX8 3
theorem nmX8 : ∀ a, a < 3 → ∀ b, b < 3 → a ≠ b → (TX8 a).2.1 ≠ (TX8 b).2.1 := by decide +kernel
theorem tyX8_ok : ∀ k, k < 3 → parseFieldDescriptor (TX8 k).2.2.1 = some (tyX8 k) := by decide +kernel
abbrev cX8_init : ByteArray := prog_10_method_1_code
def yX8_init : MethodName := ⟨RX8, "<init>", "()V"⟩
abbrev cX8_isTray : ByteArray := prog_10_method_2_code
def yX8_isTray : MethodName := ⟨RX8, "isTray", "(I)Z"⟩
abbrev cX8_isMissing : ByteArray := prog_10_method_3_code
def yX8_isMissing : MethodName := ⟨RX8, "isMissing", "(I)Z"⟩
abbrev cX8_has : ByteArray := prog_10_method_4_code
def yX8_has : MethodName := ⟨RX8, "has", "(III)Z"⟩
abbrev cX8_whyNot : ByteArray := prog_10_method_5_code
def yX8_whyNot : MethodName := ⟨RX8, "whyNot", "(II)I"⟩
abbrev cX8_lay : ByteArray := prog_10_method_6_code
def yX8_lay : MethodName := ⟨RX8, "lay", "(III)V"⟩
abbrev cX8_put : ByteArray := prog_10_method_7_code
def yX8_put : MethodName := ⟨RX8, "put", "(IIJ)V"⟩
abbrev cX8_look : ByteArray := prog_10_method_8_code
def yX8_look : MethodName := ⟨RX8, "look", "(II)J"⟩
abbrev cX8_move : ByteArray := prog_10_method_9_code
def yX8_move : MethodName := ⟨RX8, "move", "(IIIII)V"⟩
abbrev cX8_cut : ByteArray := prog_10_method_10_code
def yX8_cut : MethodName := ⟨RX8, "cut", "(JI)J"⟩
def RX9 : String := "DitchSaint$Years"
def TX9 : u_T := fun k => match k with
  | 0 => ("DitchSaint$Years", "word", "[I", true)
  | 1 => ("DitchSaint$Years", "first", "[I", true)
  | 2 => ("DitchSaint$Years", "second", "[I", true)
  | 3 => ("DitchSaint$Years", "third", "[I", true)
  | 4 => ("DitchSaint$Years", "partner", "[I", true)
  | 5 => ("DitchSaint$Years", "rows", "I", false)
  | 6 => ("DitchSaint$Years", "steps", "I", false)
  | _ => ("DitchSaint$Years", "isThere", "Z", false)
def tyX9 : Nat → FieldType := fun k => match k with
  | 0 => .array .int
  | 1 => .array .int
  | 2 => .array .int
  | 3 => .array .int
  | 4 => .array .int
  | 5 => .int
  | 6 => .int
  | _ => .boolean
abbrev wsX90 : List Cond := u_ws RX9 TX9 8
theorem nmX9 : ∀ a, a < 8 → ∀ b, b < 8 → a ≠ b → (TX9 a).2.1 ≠ (TX9 b).2.1 := by decide +kernel
theorem tyX9_ok : ∀ k, k < 8 → parseFieldDescriptor (TX9 k).2.2.1 = some (tyX9 k) := by decide +kernel
abbrev cX9_init : ByteArray := prog_11_method_1_code
def yX9_init : MethodName := ⟨RX9, "<init>", "()V"⟩
abbrev cX9_beginAnew : ByteArray := prog_11_method_2_code
def yX9_beginAnew : MethodName := ⟨RX9, "beginAnew", "()V"⟩
abbrev cX9_add : ByteArray := prog_11_method_3_code
def yX9_add : MethodName := ⟨RX9, "add", "(IIII)Z"⟩
abbrev cX9_join : ByteArray := prog_11_method_4_code
def yX9_join : MethodName := ⟨RX9, "join", "(II)V"⟩
abbrev cX9_copyFrom : ByteArray := prog_11_method_5_code
def yX9_copyFrom : MethodName := ⟨RX9, "copyFrom", "(LDitchSaint$Years;)V"⟩
def RX10 : String := "DitchSaint$YearsReader"
def TX10 : u_T := fun k => match k with
  | 0 => ("DitchSaint$YearsReader", "tokens", "LDitchSaint$Tokens;", true)
  | 1 => ("DitchSaint$YearsReader", "years", "LDitchSaint$Years;", true)
  | 2 => ("DitchSaint$YearsReader", "open", "[I", true)
  | 3 => ("DitchSaint$YearsReader", "depth", "I", false)
  | 4 => ("DitchSaint$YearsReader", "first", "I", false)
  | 5 => ("DitchSaint$YearsReader", "second", "I", false)
  | _ => ("DitchSaint$YearsReader", "third", "I", false)
def tyX10 : Nat → FieldType := fun k => match k with
  | 0 => .object "DitchSaint$Tokens"
  | 1 => .object "DitchSaint$Years"
  | 2 => .array .int
  | 3 => .int
  | 4 => .int
  | 5 => .int
  | _ => .int
abbrev wsX100 : List Cond := u_ws RX10 TX10 7
theorem nmX10 : ∀ a, a < 7 → ∀ b, b < 7 → a ≠ b → (TX10 a).2.1 ≠ (TX10 b).2.1 := by decide +kernel
theorem tyX10_ok : ∀ k, k < 7 → parseFieldDescriptor (TX10 k).2.2.1 = some (tyX10 k) := by decide +kernel
abbrev cX10_init : ByteArray := prog_12_method_1_code
def yX10_init : MethodName := ⟨RX10, "<init>", "(LDitchSaint$Tokens;LDitchSaint$Years;)V"⟩
abbrev cX10_readText : ByteArray := prog_12_method_2_code
def yX10_readText : MethodName := ⟨RX10, "readText", "(I)Z"⟩
abbrev cX10_readEnd : ByteArray := prog_12_method_3_code
def yX10_readEnd : MethodName := ⟨RX10, "readEnd", "()Z"⟩
abbrev cX10_readStep : ByteArray := prog_12_method_4_code
def yX10_readStep : MethodName := ⟨RX10, "readStep", "()Z"⟩
abbrev cX10_takeNumbers : ByteArray := prog_12_method_5_code
def yX10_takeNumbers : MethodName := ⟨RX10, "takeNumbers", "(I)Z"⟩
abbrev cX10_takeSworn : ByteArray := prog_12_method_6_code
def yX10_takeSworn : MethodName := ⟨RX10, "takeSworn", "()Z"⟩
abbrev cX10_takeTest : ByteArray := prog_12_method_7_code
def yX10_takeTest : MethodName := ⟨RX10, "takeTest", "()Z"⟩
def RX11 : String := "DitchSaint"
def TX11 : u_T := fun k => match k with
  | 0 => ("DitchSaint", "trays", "LDitchSaint$Trays;", true)
  | 1 => ("DitchSaint", "tokens", "LDitchSaint$Tokens;", true)
  | 2 => ("DitchSaint", "now", "LDitchSaint$Parish;", true)
  | 3 => ("DitchSaint", "spare", "LDitchSaint$Parish;", true)
  | 4 => ("DitchSaint", "parishReader", "LDitchSaint$ParishReader;", true)
  | 5 => ("DitchSaint", "yearsReader", "LDitchSaint$YearsReader;", true)
  | 6 => ("DitchSaint", "marks", "[LDitchSaint$Parish;", true)
  | 7 => ("DitchSaint", "plans", "LDitchSaint$Plans;", true)
  | 8 => ("DitchSaint", "life", "LDitchSaint$Life;", true)
  | 9 => ("DitchSaint", "trial", "LDitchSaint$Life;", true)
  | 10 => ("DitchSaint", "markCount", "I", false)
  | 11 => ("DitchSaint", "status", "I", false)
  | 12 => ("DitchSaint", "fractionTop", "J", false)
  | 13 => ("DitchSaint", "fractionBottom", "J", false)
  | 14 => ("DitchSaint", "toldFault", "I", false)
  | 15 => ("DitchSaint", "toldPlace", "I", false)
  | _ => ("DitchSaint", "hasRead", "Z", false)
def tyX11 : Nat → FieldType := fun k => match k with
  | 0 => .object "DitchSaint$Trays"
  | 1 => .object "DitchSaint$Tokens"
  | 2 => .object "DitchSaint$Parish"
  | 3 => .object "DitchSaint$Parish"
  | 4 => .object "DitchSaint$ParishReader"
  | 5 => .object "DitchSaint$YearsReader"
  | 6 => .array (.object "DitchSaint$Parish")
  | 7 => .object "DitchSaint$Plans"
  | 8 => .object "DitchSaint$Life"
  | 9 => .object "DitchSaint$Life"
  | 10 => .int
  | 11 => .int
  | 12 => .long
  | 13 => .long
  | 14 => .int
  | 15 => .int
  | _ => .boolean
abbrev wsX110 : List Cond := u_ws RX11 TX11 17
theorem nmX11 : ∀ a, a < 17 → ∀ b, b < 17 → a ≠ b → (TX11 a).2.1 ≠ (TX11 b).2.1 := by decide +kernel
theorem tyX11_ok : ∀ k, k < 17 → parseFieldDescriptor (TX11 k).2.2.1 = some (tyX11 k) := by decide +kernel
abbrev cX11_init : ByteArray := prog_1_method_1_code
def yX11_init : MethodName := ⟨RX11, "<init>", "()V"⟩
abbrev cX11_status : ByteArray := prog_1_method_2_code
def yX11_status : MethodName := ⟨RX11, "status", "()I"⟩
abbrev cX11_top : ByteArray := prog_1_method_3_code
def yX11_top : MethodName := ⟨RX11, "top", "()J"⟩
abbrev cX11_bottom : ByteArray := prog_1_method_4_code
def yX11_bottom : MethodName := ⟨RX11, "bottom", "()J"⟩
abbrev cX11_tray : ByteArray := prog_1_method_5_code
def yX11_tray : MethodName := ⟨RX11, "tray", "(III)Z"⟩
abbrev cX11_write : ByteArray := prog_1_method_6_code
def yX11_write : MethodName := ⟨RX11, "write", "(IIJ)Z"⟩
abbrev cX11_read : ByteArray := prog_1_method_7_code
def yX11_read : MethodName := ⟨RX11, "read", "(II)J"⟩
abbrev cX11_pour : ByteArray := prog_1_method_8_code
def yX11_pour : MethodName := ⟨RX11, "pour", "(IIIII)Z"⟩
abbrev cX11_feed : ByteArray := prog_1_method_9_code
def yX11_feed : MethodName := ⟨RX11, "feed", "(IIIII)I"⟩
abbrev cX11_parish : ByteArray := prog_1_method_10_code
def yX11_parish : MethodName := ⟨RX11, "parish", "(I)I"⟩
abbrev cX11_years : ByteArray := prog_1_method_11_code
def yX11_years : MethodName := ⟨RX11, "years", "(I)I"⟩
abbrev cX11_fault : ByteArray := prog_1_method_12_code
def yX11_fault : MethodName := ⟨RX11, "fault", "(I)I"⟩
abbrev cX11_many : ByteArray := prog_1_method_13_code
def yX11_many : MethodName := ⟨RX11, "many", "(I)I"⟩
abbrev cX11_chest : ByteArray := prog_1_method_14_code
def yX11_chest : MethodName := ⟨RX11, "chest", "(I)I"⟩
abbrev cX11_right : ByteArray := prog_1_method_15_code
def yX11_right : MethodName := ⟨RX11, "right", "(II)I"⟩
abbrev cX11_debt : ByteArray := prog_1_method_16_code
def yX11_debt : MethodName := ⟨RX11, "debt", "(II)I"⟩
abbrev cX11_owes : ByteArray := prog_1_method_17_code
def yX11_owes : MethodName := ⟨RX11, "owes", "(I)I"⟩
abbrev cX11_layAgo : ByteArray := prog_1_method_18_code
def yX11_layAgo : MethodName := ⟨RX11, "layAgo", "(I)I"⟩
abbrev cX11_clause : ByteArray := prog_1_method_19_code
def yX11_clause : MethodName := ⟨RX11, "clause", "(II)I"⟩
abbrev cX11_witness : ByteArray := prog_1_method_20_code
def yX11_witness : MethodName := ⟨RX11, "witness", "(II)I"⟩
abbrev cX11_copyWorth : ByteArray := prog_1_method_21_code
def yX11_copyWorth : MethodName := ⟨RX11, "copyWorth", "(I)I"⟩
abbrev cX11_month : ByteArray := prog_1_method_22_code
def yX11_month : MethodName := ⟨RX11, "month", "(I)I"⟩
abbrev cX11_carry : ByteArray := prog_1_method_23_code
def yX11_carry : MethodName := ⟨RX11, "carry", "(II)I"⟩
abbrev cX11_swear : ByteArray := prog_1_method_24_code
def yX11_swear : MethodName := ⟨RX11, "swear", "(III)I"⟩
abbrev cX11_pay : ByteArray := prog_1_method_25_code
def yX11_pay : MethodName := ⟨RX11, "pay", "(I)I"⟩
abbrev cX11_price : ByteArray := prog_1_method_26_code
def yX11_price : MethodName := ⟨RX11, "price", "(II)I"⟩
abbrev cX11_grant : ByteArray := prog_1_method_27_code
def yX11_grant : MethodName := ⟨RX11, "grant", "(IIZ)Z"⟩
abbrev cX11_claim : ByteArray := prog_1_method_28_code
def yX11_claim : MethodName := ⟨RX11, "claim", "(IIIII)I"⟩
abbrev cX11_rule : ByteArray := prog_1_method_29_code
def yX11_rule : MethodName := ⟨RX11, "rule", "(II)Z"⟩
abbrev cX11_chestIn : ByteArray := prog_1_method_30_code
def yX11_chestIn : MethodName := ⟨RX11, "chestIn", "(II)I"⟩
abbrev cX11_tollIn : ByteArray := prog_1_method_31_code
def yX11_tollIn : MethodName := ⟨RX11, "tollIn", "()I"⟩
abbrev cX11_bears : ByteArray := prog_1_method_32_code
def yX11_bears : MethodName := ⟨RX11, "bears", "()I"⟩
abbrev cX11_gain : ByteArray := prog_1_method_33_code
def yX11_gain : MethodName := ⟨RX11, "gain", "(II)I"⟩
abbrev cX11_changes : ByteArray := prog_1_method_34_code
def yX11_changes : MethodName := ⟨RX11, "changes", "(I)I"⟩
abbrev cX11_net : ByteArray := prog_1_method_35_code
def yX11_net : MethodName := ⟨RX11, "net", "(I)I"⟩
abbrev cX11_best : ByteArray := prog_1_method_36_code
def yX11_best : MethodName := ⟨RX11, "best", "(I)I"⟩
abbrev cX11_isSo : ByteArray := prog_1_method_37_code
def yX11_isSo : MethodName := ⟨RX11, "isSo", "(II)I"⟩
abbrev cX11_howMany : ByteArray := prog_1_method_38_code
def yX11_howMany : MethodName := ⟨RX11, "howMany", "(I)I"⟩
abbrev cX11_bestOf : ByteArray := prog_1_method_39_code
def yX11_bestOf : MethodName := ⟨RX11, "bestOf", "(I)I"⟩
abbrev cX11_even : ByteArray := prog_1_method_40_code
def yX11_even : MethodName := ⟨RX11, "even", "()I"⟩
abbrev cX11_rent : ByteArray := prog_1_method_41_code
def yX11_rent : MethodName := ⟨RX11, "rent", "(I)I"⟩
abbrev cX11_rulings : ByteArray := prog_1_method_42_code
def yX11_rulings : MethodName := ⟨RX11, "rulings", "()I"⟩
abbrev cX11_rulingAt : ByteArray := prog_1_method_43_code
def yX11_rulingAt : MethodName := ⟨RX11, "rulingAt", "(I)I"⟩
abbrev cX11_strike : ByteArray := prog_1_method_44_code
def yX11_strike : MethodName := ⟨RX11, "strike", "()I"⟩
abbrev cX11_strikeSet : ByteArray := prog_1_method_45_code
def yX11_strikeSet : MethodName := ⟨RX11, "strikeSet", "()I"⟩
abbrev cX11_sure : ByteArray := prog_1_method_46_code
def yX11_sure : MethodName := ⟨RX11, "sure", "(I)I"⟩
abbrev cX11_game : ByteArray := prog_1_method_47_code
def yX11_game : MethodName := ⟨RX11, "game", "(I)I"⟩
abbrev cX11_moveOf : ByteArray := prog_1_method_48_code
def yX11_moveOf : MethodName := ⟨RX11, "moveOf", "(I)I"⟩
abbrev cX11_whose : ByteArray := prog_1_method_49_code
def yX11_whose : MethodName := ⟨RX11, "whose", "(I)Z"⟩
abbrev cX11_share : ByteArray := prog_1_method_50_code
def yX11_share : MethodName := ⟨RX11, "share", "(I)Z"⟩
abbrev cX11_live : ByteArray := prog_1_method_51_code
def yX11_live : MethodName := ⟨RX11, "live", "(I)I"⟩
abbrev cX11_lived : ByteArray := prog_1_method_52_code
def yX11_lived : MethodName := ⟨RX11, "lived", "(I)I"⟩
abbrev cX11_mean : ByteArray := prog_1_method_53_code
def yX11_mean : MethodName := ⟨RX11, "mean", "(II)Z"⟩
abbrev cX11_mark : ByteArray := prog_1_method_54_code
def yX11_mark : MethodName := ⟨RX11, "mark", "()I"⟩
abbrev cX11_back : ByteArray := prog_1_method_55_code
def yX11_back : MethodName := ⟨RX11, "back", "()I"⟩
abbrev cX11_answer : ByteArray := prog_1_method_56_code
def yX11_answer : MethodName := ⟨RX11, "answer", "(I)I"⟩
abbrev cX11_refuse : ByteArray := prog_1_method_57_code
def yX11_refuse : MethodName := ⟨RX11, "refuse", "(I)I"⟩
abbrev cX11_allow : ByteArray := prog_1_method_58_code
def yX11_allow : MethodName := ⟨RX11, "allow", "()Z"⟩
abbrev cX11_deny : ByteArray := prog_1_method_59_code
def yX11_deny : MethodName := ⟨RX11, "deny", "(I)Z"⟩
abbrev cX11_isSide : ByteArray := prog_1_method_60_code
def yX11_isSide : MethodName := ⟨RX11, "isSide", "(I)Z"⟩
abbrev cX11_isPlan : ByteArray := prog_1_method_61_code
def yX11_isPlan : MethodName := ⟨RX11, "isPlan", "(I)Z"⟩
abbrev cX11_isWithin : ByteArray := prog_1_method_62_code
def yX11_isWithin : MethodName := ⟨RX11, "isWithin", "(III)Z"⟩
abbrev cX11_keepFault : ByteArray := prog_1_method_63_code
def yX11_keepFault : MethodName := ⟨RX11, "keepFault", "()V"⟩
abbrev cX11_tellFraction : ByteArray := prog_1_method_64_code
def yX11_tellFraction : MethodName := ⟨RX11, "tellFraction", "(JJ)Z"⟩
def RX12 : String := "DitchSaintModel"
def TX12 : u_T := fun k => match k with
  | 0 => ("DitchSaintModel", "status", "I", false)
  | 1 => ("DitchSaintModel", "thrown", "I", false)
  | 2 => ("DitchSaintModel", "above", "J", false)
  | 3 => ("DitchSaintModel", "under", "J", false)
  | 4 => ("DitchSaintModel", "traySort", "[I", true)
  | 5 => ("DitchSaintModel", "trayMany", "[I", true)
  | 6 => ("DitchSaintModel", "numbers", "[J", true)
  | 7 => ("DitchSaintModel", "tape", "[B", true)
  | 8 => ("DitchSaintModel", "taped", "I", false)
  | 9 => ("DitchSaintModel", "textEnd", "I", false)
  | 10 => ("DitchSaintModel", "faultKind", "I", false)
  | 11 => ("DitchSaintModel", "faultAt", "I", false)
  | 12 => ("DitchSaintModel", "bad", "I", false)
  | 13 => ("DitchSaintModel", "badAt", "I", false)
  | 14 => ("DitchSaintModel", "token", "I", false)
  | 15 => ("DitchSaintModel", "at", "I", false)
  | 16 => ("DitchSaintModel", "behind", "I", false)
  | 17 => ("DitchSaintModel", "number", "I", false)
  | 18 => ("DitchSaintModel", "letters", "I", false)
  | 19 => ("DitchSaintModel", "word", "J", false)
  | 20 => ("DitchSaintModel", "c", "[I", true)
  | 21 => ("DitchSaintModel", "before", "[I", true)
  | 22 => ("DitchSaintModel", "words", "[J", true)
  | 23 => ("DitchSaintModel", "markMany", "I", false)
  | 24 => ("DitchSaintModel", "toldOnce", "I", false)
  | 25 => ("DitchSaintModel", "newSteps", "I", false)
  | 26 => ("DitchSaintModel", "gains", "[I", true)
  | 27 => ("DitchSaintModel", "nets", "[I", true)
  | 28 => ("DitchSaintModel", "firstMove", "I", false)
  | 29 => ("DitchSaintModel", "livedLast", "[I", true)
  | 30 => ("DitchSaintModel", "hasLived", "Z", false)
  | 31 => ("DitchSaintModel", "isOver", "Z", false)
  | 32 => ("DitchSaintModel", "random", "I", false)
  | 33 => ("DitchSaintModel", "done", "I", false)
  | 34 => ("DitchSaintModel", "missed", "I", false)
  | 35 => ("DitchSaintModel", "monthAhead", "I", false)
  | 36 => ("DitchSaintModel", "carriedAhead", "I", false)
  | 37 => ("DitchSaintModel", "lapsedAhead", "I", false)
  | _ => ("DitchSaintModel", "leftOver", "I", false)
def tyX12 : Nat → FieldType := fun k => match k with
  | 0 => .int
  | 1 => .int
  | 2 => .long
  | 3 => .long
  | 4 => .array .int
  | 5 => .array .int
  | 6 => .array .long
  | 7 => .array .byte
  | 8 => .int
  | 9 => .int
  | 10 => .int
  | 11 => .int
  | 12 => .int
  | 13 => .int
  | 14 => .int
  | 15 => .int
  | 16 => .int
  | 17 => .int
  | 18 => .int
  | 19 => .long
  | 20 => .array .int
  | 21 => .array .int
  | 22 => .array .long
  | 23 => .int
  | 24 => .int
  | 25 => .int
  | 26 => .array .int
  | 27 => .array .int
  | 28 => .int
  | 29 => .array .int
  | 30 => .boolean
  | 31 => .boolean
  | 32 => .int
  | 33 => .int
  | 34 => .int
  | 35 => .int
  | 36 => .int
  | 37 => .int
  | _ => .int
abbrev wsX120 : List Cond := u_ws RX12 TX12 39
theorem nmX12 : ∀ a, a < 39 → ∀ b, b < 39 → a ≠ b → (TX12 a).2.1 ≠ (TX12 b).2.1 := by decide +kernel
theorem tyX12_ok : ∀ k, k < 39 → parseFieldDescriptor (TX12 k).2.2.1 = some (tyX12 k) := by decide +kernel
abbrev cX12_init : ByteArray := prog_14_method_1_code
def yX12_init : MethodName := ⟨RX12, "<init>", "()V"⟩
abbrev cX12_status : ByteArray := prog_14_method_3_code
def yX12_status : MethodName := ⟨RX12, "status", "()I"⟩
abbrev cX12_top : ByteArray := prog_14_method_4_code
def yX12_top : MethodName := ⟨RX12, "top", "()J"⟩
abbrev cX12_bottom : ByteArray := prog_14_method_5_code
def yX12_bottom : MethodName := ⟨RX12, "bottom", "()J"⟩
abbrev cX12_refuse : ByteArray := prog_14_method_6_code
def yX12_refuse : MethodName := ⟨RX12, "refuse", "(I)I"⟩
abbrev cX12_no : ByteArray := prog_14_method_7_code
def yX12_no : MethodName := ⟨RX12, "no", "(I)Z"⟩
abbrev cX12_isIn : ByteArray := prog_14_method_8_code
def yX12_isIn : MethodName := ⟨RX12, "isIn", "(JJJ)Z"⟩
abbrev cX12_fraction : ByteArray := prog_14_method_9_code
def yX12_fraction : MethodName := ⟨RX12, "fraction", "(JJ)Z"⟩
abbrev cX12_cut : ByteArray := prog_14_method_10_code
def yX12_cut : MethodName := ⟨RX12, "cut", "(IJ)J"⟩
abbrev cX12_tray : ByteArray := prog_14_method_11_code
def yX12_tray : MethodName := ⟨RX12, "tray", "(III)Z"⟩
abbrev cX12_trayed : ByteArray := prog_14_method_12_code
def yX12_trayed : MethodName := ⟨RX12, "trayed", "(I)I"⟩
abbrev cX12_placed : ByteArray := prog_14_method_13_code
def yX12_placed : MethodName := ⟨RX12, "placed", "(II)I"⟩
abbrev cX12_write : ByteArray := prog_14_method_14_code
def yX12_write : MethodName := ⟨RX12, "write", "(IIJ)Z"⟩
abbrev cX12_read : ByteArray := prog_14_method_15_code
def yX12_read : MethodName := ⟨RX12, "read", "(II)J"⟩
abbrev cX12_pour : ByteArray := prog_14_method_16_code
def yX12_pour : MethodName := ⟨RX12, "pour", "(IIIII)Z"⟩
abbrev cX12_isTray : ByteArray := prog_14_method_17_code
def yX12_isTray : MethodName := ⟨RX12, "isTray", "(I)Z"⟩
abbrev cX12_has : ByteArray := prog_14_method_18_code
def yX12_has : MethodName := ⟨RX12, "has", "(II)Z"⟩
abbrev cX12_sizeOf : ByteArray := prog_14_method_19_code
def yX12_sizeOf : MethodName := ⟨RX12, "sizeOf", "(I)I"⟩
abbrev cX12_look2 : ByteArray := prog_14_method_20_code
def yX12_look2 : MethodName := ⟨RX12, "look2", "(I)I"⟩
abbrev cX12_isLetter : ByteArray := prog_14_method_21_code
def yX12_isLetter : MethodName := ⟨RX12, "isLetter", "(I)Z"⟩
abbrev cX12_isDigit : ByteArray := prog_14_method_22_code
def yX12_isDigit : MethodName := ⟨RX12, "isDigit", "(I)Z"⟩
abbrev cX12_isSignByte : ByteArray := prog_14_method_23_code
def yX12_isSignByte : MethodName := ⟨RX12, "isSignByte", "(I)Z"⟩
abbrev cX12_advance : ByteArray := prog_14_method_24_code
def yX12_advance : MethodName := ⟨RX12, "advance", "()V"⟩
abbrev cX12_isSign : ByteArray := prog_14_method_25_code
def yX12_isSign : MethodName := ⟨RX12, "isSign", "(I)Z"⟩
abbrev cX12_spelled : ByteArray := prog_14_method_26_code
def yX12_spelled : MethodName := ⟨RX12, "spelled", "(IIIIII)J"⟩
abbrev cX12_isWord : ByteArray := prog_14_method_27_code
def yX12_isWord : MethodName := ⟨RX12, "isWord", "(J)Z"⟩
abbrev cX12_isOdds : ByteArray := prog_14_method_28_code
def yX12_isOdds : MethodName := ⟨RX12, "isOdds", "()Z"⟩
abbrev cX12_isToll : ByteArray := prog_14_method_29_code
def yX12_isToll : MethodName := ⟨RX12, "isToll", "()Z"⟩
abbrev cX12_isWar : ByteArray := prog_14_method_30_code
def yX12_isWar : MethodName := ⟨RX12, "isWar", "()Z"⟩
abbrev cX12_isLies : ByteArray := prog_14_method_31_code
def yX12_isLies : MethodName := ⟨RX12, "isLies", "()Z"⟩
abbrev cX12_isChest : ByteArray := prog_14_method_32_code
def yX12_isChest : MethodName := ⟨RX12, "isChest", "()Z"⟩
abbrev cX12_isRight : ByteArray := prog_14_method_33_code
def yX12_isRight : MethodName := ⟨RX12, "isRight", "()Z"⟩
abbrev cX12_isWorth : ByteArray := prog_14_method_34_code
def yX12_isWorth : MethodName := ⟨RX12, "isWorth", "()Z"⟩
abbrev cX12_isInWord : ByteArray := prog_14_method_35_code
def yX12_isInWord : MethodName := ⟨RX12, "isInWord", "()Z"⟩
abbrev cX12_isDebt : ByteArray := prog_14_method_36_code
def yX12_isDebt : MethodName := ⟨RX12, "isDebt", "()Z"⟩
abbrev cX12_isSum : ByteArray := prog_14_method_37_code
def yX12_isSum : MethodName := ⟨RX12, "isSum", "()Z"⟩
abbrev cX12_isLeft : ByteArray := prog_14_method_38_code
def yX12_isLeft : MethodName := ⟨RX12, "isLeft", "()Z"⟩
abbrev cX12_isAsk : ByteArray := prog_14_method_39_code
def yX12_isAsk : MethodName := ⟨RX12, "isAsk", "()Z"⟩
abbrev cX12_isClause : ByteArray := prog_14_method_40_code
def yX12_isClause : MethodName := ⟨RX12, "isClause", "()Z"⟩
abbrev cX12_isNot : ByteArray := prog_14_method_41_code
def yX12_isNot : MethodName := ⟨RX12, "isNot", "()Z"⟩
abbrev cX12_isWitness : ByteArray := prog_14_method_42_code
def yX12_isWitness : MethodName := ⟨RX12, "isWitness", "()Z"⟩
abbrev cX12_sideWord : ByteArray := prog_14_method_43_code
def yX12_sideWord : MethodName := ⟨RX12, "sideWord", "()I"⟩
abbrev cX12_kindWord : ByteArray := prog_14_method_44_code
def yX12_kindWord : MethodName := ⟨RX12, "kindWord", "()I"⟩
abbrev cX12_stepWord : ByteArray := prog_14_method_45_code
def yX12_stepWord : MethodName := ⟨RX12, "stepWord", "()I"⟩
abbrev cX12_testWord : ByteArray := prog_14_method_46_code
def yX12_testWord : MethodName := ⟨RX12, "testWord", "()I"⟩
abbrev cX12_isEnd : ByteArray := prog_14_method_47_code
def yX12_isEnd : MethodName := ⟨RX12, "isEnd", "()Z"⟩
abbrev cX12_isKept : ByteArray := prog_14_method_48_code
def yX12_isKept : MethodName := ⟨RX12, "isKept", "()Z"⟩
abbrev cX12_isName : ByteArray := prog_14_method_49_code
def yX12_isName : MethodName := ⟨RX12, "isName", "()Z"⟩
abbrev cX12_fail : ByteArray := prog_14_method_50_code
def yX12_fail : MethodName := ⟨RX12, "fail", "(II)V"⟩
abbrev cX12_amiss : ByteArray := prog_14_method_51_code
def yX12_amiss : MethodName := ⟨RX12, "amiss", "()V"⟩
abbrev cX12_must : ByteArray := prog_14_method_52_code
def yX12_must : MethodName := ⟨RX12, "must", "(Z)V"⟩
abbrev cX12_count : ByteArray := prog_14_method_53_code
def yX12_count : MethodName := ⟨RX12, "count", "(II)I"⟩
abbrev cX12_behindWord : ByteArray := prog_14_method_54_code
def yX12_behindWord : MethodName := ⟨RX12, "behindWord", "(ZII)I"⟩
abbrev cX12_readSide : ByteArray := prog_14_method_55_code
def yX12_readSide : MethodName := ⟨RX12, "readSide", "()I"⟩
abbrev cX12_feed : ByteArray := prog_14_method_56_code
def yX12_feed : MethodName := ⟨RX12, "feed", "(IIIII)I"⟩
abbrev cX12_lay : ByteArray := prog_14_method_57_code
def yX12_lay : MethodName := ⟨RX12, "lay", "(I)V"⟩
abbrev cX12_starts : ByteArray := prog_14_method_58_code
def yX12_starts : MethodName := ⟨RX12, "starts", "(II)Z"⟩
abbrev cX12_isWell : ByteArray := prog_14_method_59_code
def yX12_isWell : MethodName := ⟨RX12, "isWell", "()Z"⟩
abbrev cX12_fault : ByteArray := prog_14_method_60_code
def yX12_fault : MethodName := ⟨RX12, "fault", "(I)I"⟩
abbrev cX12_empties : ByteArray := prog_14_method_61_code
def yX12_empties : MethodName := ⟨RX12, "empties", "(I)V"⟩
abbrev cX12_named : ByteArray := prog_14_method_62_code
def yX12_named : MethodName := ⟨RX12, "named", "()I"⟩
abbrev cX12_once : ByteArray := prog_14_method_63_code
def yX12_once : MethodName := ⟨RX12, "once", "(I)V"⟩
abbrev cX12_readOnce : ByteArray := prog_14_method_64_code
def yX12_readOnce : MethodName := ⟨RX12, "readOnce", "(II)V"⟩
abbrev cX12_readLies : ByteArray := prog_14_method_65_code
def yX12_readLies : MethodName := ⟨RX12, "readLies", "()V"⟩
abbrev cX12_readChest : ByteArray := prog_14_method_66_code
def yX12_readChest : MethodName := ⟨RX12, "readChest", "()V"⟩
abbrev cX12_another : ByteArray := prog_14_method_67_code
def yX12_another : MethodName := ⟨RX12, "another", "(II)I"⟩
abbrev cX12_readRight : ByteArray := prog_14_method_68_code
def yX12_readRight : MethodName := ⟨RX12, "readRight", "()V"⟩
abbrev cX12_grants : ByteArray := prog_14_method_69_code
def yX12_grants : MethodName := ⟨RX12, "grants", "(IIIIIII)V"⟩
abbrev cX12_swears : ByteArray := prog_14_method_70_code
def yX12_swears : MethodName := ⟨RX12, "swears", "(IIII)V"⟩
abbrev cX12_readDebt : ByteArray := prog_14_method_71_code
def yX12_readDebt : MethodName := ⟨RX12, "readDebt", "()V"⟩
abbrev cX12_readAsk : ByteArray := prog_14_method_72_code
def yX12_readAsk : MethodName := ⟨RX12, "readAsk", "()V"⟩
abbrev cX12_readLiteral : ByteArray := prog_14_method_73_code
def yX12_readLiteral : MethodName := ⟨RX12, "readLiteral", "(Z)I"⟩
abbrev cX12_readClause : ByteArray := prog_14_method_74_code
def yX12_readClause : MethodName := ⟨RX12, "readClause", "()V"⟩
abbrev cX12_readWitness : ByteArray := prog_14_method_75_code
def yX12_readWitness : MethodName := ⟨RX12, "readWitness", "()V"⟩
abbrev cX12_readPart : ByteArray := prog_14_method_76_code
def yX12_readPart : MethodName := ⟨RX12, "readPart", "()V"⟩
abbrev cX12_parish : ByteArray := prog_14_method_77_code
def yX12_parish : MethodName := ⟨RX12, "parish", "(I)I"⟩
abbrev cX12_readTest : ByteArray := prog_14_method_78_code
def yX12_readTest : MethodName := ⟨RX12, "readTest", "(I)V"⟩
abbrev cX12_readRest : ByteArray := prog_14_method_79_code
def yX12_readRest : MethodName := ⟨RX12, "readRest", "(I)V"⟩
abbrev cX12_readStep : ByteArray := prog_14_method_80_code
def yX12_readStep : MethodName := ⟨RX12, "readStep", "(I)V"⟩
abbrev cX12_years : ByteArray := prog_14_method_81_code
def yX12_years : MethodName := ⟨RX12, "years", "(I)I"⟩
abbrev cX12_isSideAt : ByteArray := prog_14_method_82_code
def yX12_isSideAt : MethodName := ⟨RX12, "isSideAt", "(I)Z"⟩
abbrev cX12_isRightAt : ByteArray := prog_14_method_83_code
def yX12_isRightAt : MethodName := ⟨RX12, "isRightAt", "(I)Z"⟩
abbrev cX12_isDebtAt : ByteArray := prog_14_method_84_code
def yX12_isDebtAt : MethodName := ⟨RX12, "isDebtAt", "(I)Z"⟩
abbrev cX12_isPlan : ByteArray := prog_14_method_85_code
def yX12_isPlan : MethodName := ⟨RX12, "isPlan", "(I)Z"⟩
abbrev cX12_bothChests : ByteArray := prog_14_method_86_code
def yX12_bothChests : MethodName := ⟨RX12, "bothChests", "()I"⟩
abbrev cX12_many : ByteArray := prog_14_method_87_code
def yX12_many : MethodName := ⟨RX12, "many", "(I)I"⟩
abbrev cX12_chest : ByteArray := prog_14_method_88_code
def yX12_chest : MethodName := ⟨RX12, "chest", "(I)I"⟩
abbrev cX12_right : ByteArray := prog_14_method_89_code
def yX12_right : MethodName := ⟨RX12, "right", "(II)I"⟩
abbrev cX12_debt : ByteArray := prog_14_method_90_code
def yX12_debt : MethodName := ⟨RX12, "debt", "(II)I"⟩
abbrev cX12_owed : ByteArray := prog_14_method_91_code
def yX12_owed : MethodName := ⟨RX12, "owed", "(I)I"⟩
abbrev cX12_owes : ByteArray := prog_14_method_92_code
def yX12_owes : MethodName := ⟨RX12, "owes", "(I)I"⟩
abbrev cX12_layOf : ByteArray := prog_14_method_93_code
def yX12_layOf : MethodName := ⟨RX12, "layOf", "(I)I"⟩
abbrev cX12_layAgo : ByteArray := prog_14_method_94_code
def yX12_layAgo : MethodName := ⟨RX12, "layAgo", "(I)I"⟩
abbrev cX12_clause : ByteArray := prog_14_method_95_code
def yX12_clause : MethodName := ⟨RX12, "clause", "(II)I"⟩
abbrev cX12_witness : ByteArray := prog_14_method_96_code
def yX12_witness : MethodName := ⟨RX12, "witness", "(II)I"⟩
abbrev cX12_copyWorth : ByteArray := prog_14_method_97_code
def yX12_copyWorth : MethodName := ⟨RX12, "copyWorth", "(I)I"⟩
abbrev cX12_isBorne : ByteArray := prog_14_method_98_code
def yX12_isBorne : MethodName := ⟨RX12, "isBorne", "(I)Z"⟩
abbrev cX12_borne : ByteArray := prog_14_method_99_code
def yX12_borne : MethodName := ⟨RX12, "borne", "()I"⟩
abbrev cX12_dropDebt : ByteArray := prog_14_method_100_code
def yX12_dropDebt : MethodName := ⟨RX12, "dropDebt", "(I)V"⟩
abbrev cX12_brings : ByteArray := prog_14_method_101_code
def yX12_brings : MethodName := ⟨RX12, "brings", "(II)V"⟩
abbrev cX12_passes : ByteArray := prog_14_method_102_code
def yX12_passes : MethodName := ⟨RX12, "passes", "()V"⟩
abbrev cX12_month : ByteArray := prog_14_method_103_code
def yX12_month : MethodName := ⟨RX12, "month", "(I)I"⟩
abbrev cX12_hasToll : ByteArray := prog_14_method_104_code
def yX12_hasToll : MethodName := ⟨RX12, "hasToll", "()Z"⟩
abbrev cX12_carries : ByteArray := prog_14_method_105_code
def yX12_carries : MethodName := ⟨RX12, "carries", "(II)Z"⟩
abbrev cX12_carry : ByteArray := prog_14_method_106_code
def yX12_carry : MethodName := ⟨RX12, "carry", "(II)I"⟩
abbrev cX12_swear : ByteArray := prog_14_method_107_code
def yX12_swear : MethodName := ⟨RX12, "swear", "(III)I"⟩
abbrev cX12_pays : ByteArray := prog_14_method_108_code
def yX12_pays : MethodName := ⟨RX12, "pays", "(I)Z"⟩
abbrev cX12_pay : ByteArray := prog_14_method_109_code
def yX12_pay : MethodName := ⟨RX12, "pay", "(I)I"⟩
abbrev cX12_price : ByteArray := prog_14_method_110_code
def yX12_price : MethodName := ⟨RX12, "price", "(II)I"⟩
abbrev cX12_grant : ByteArray := prog_14_method_111_code
def yX12_grant : MethodName := ⟨RX12, "grant", "(IIZ)Z"⟩
abbrev cX12_claim : ByteArray := prog_14_method_112_code
def yX12_claim : MethodName := ⟨RX12, "claim", "(IIIII)I"⟩
abbrev cX12_rule : ByteArray := prog_14_method_113_code
def yX12_rule : MethodName := ⟨RX12, "rule", "(II)Z"⟩
abbrev cX12_keeps : ByteArray := prog_14_method_114_code
def yX12_keeps : MethodName := ⟨RX12, "keeps", "()V"⟩
abbrev cX12_restores : ByteArray := prog_14_method_115_code
def yX12_restores : MethodName := ⟨RX12, "restores", "()V"⟩
abbrev cX12_chestIn : ByteArray := prog_14_method_116_code
def yX12_chestIn : MethodName := ⟨RX12, "chestIn", "(II)I"⟩
abbrev cX12_tollIn : ByteArray := prog_14_method_117_code
def yX12_tollIn : MethodName := ⟨RX12, "tollIn", "()I"⟩
abbrev cX12_bears : ByteArray := prog_14_method_118_code
def yX12_bears : MethodName := ⟨RX12, "bears", "()I"⟩
abbrev cX12_lyingBy : ByteArray := prog_14_method_119_code
def yX12_lyingBy : MethodName := ⟨RX12, "lyingBy", "(III)I"⟩
abbrev cX12_gainOf : ByteArray := prog_14_method_120_code
def yX12_gainOf : MethodName := ⟨RX12, "gainOf", "(III)I"⟩
abbrev cX12_changesOf : ByteArray := prog_14_method_121_code
def yX12_changesOf : MethodName := ⟨RX12, "changesOf", "(II)I"⟩
abbrev cX12_laysPlans : ByteArray := prog_14_method_122_code
def yX12_laysPlans : MethodName := ⟨RX12, "laysPlans", "(I)V"⟩
abbrev cX12_gain : ByteArray := prog_14_method_123_code
def yX12_gain : MethodName := ⟨RX12, "gain", "(II)I"⟩
abbrev cX12_changes : ByteArray := prog_14_method_124_code
def yX12_changes : MethodName := ⟨RX12, "changes", "(I)I"⟩
abbrev cX12_net : ByteArray := prog_14_method_125_code
def yX12_net : MethodName := ⟨RX12, "net", "(I)I"⟩
abbrev cX12_best : ByteArray := prog_14_method_126_code
def yX12_best : MethodName := ⟨RX12, "best", "(I)I"⟩
abbrev cX12_isFair : ByteArray := prog_14_method_127_code
def yX12_isFair : MethodName := ⟨RX12, "isFair", "(I)Z"⟩
abbrev cX12_isTreaty : ByteArray := prog_14_method_128_code
def yX12_isTreaty : MethodName := ⟨RX12, "isTreaty", "(I)Z"⟩
abbrev cX12_isSuch : ByteArray := prog_14_method_129_code
def yX12_isSuch : MethodName := ⟨RX12, "isSuch", "(II)Z"⟩
abbrev cX12_isSo : ByteArray := prog_14_method_130_code
def yX12_isSo : MethodName := ⟨RX12, "isSo", "(II)I"⟩
abbrev cX12_howMany : ByteArray := prog_14_method_131_code
def yX12_howMany : MethodName := ⟨RX12, "howMany", "(I)I"⟩
abbrev cX12_bestOf : ByteArray := prog_14_method_132_code
def yX12_bestOf : MethodName := ⟨RX12, "bestOf", "(I)I"⟩
abbrev cX12_lesser : ByteArray := prog_14_method_133_code
def yX12_lesser : MethodName := ⟨RX12, "lesser", "(I)I"⟩
abbrev cX12_even : ByteArray := prog_14_method_134_code
def yX12_even : MethodName := ⟨RX12, "even", "()I"⟩
abbrev cX12_greatestNet : ByteArray := prog_14_method_135_code
def yX12_greatestNet : MethodName := ⟨RX12, "greatestNet", "(I)I"⟩
abbrev cX12_rent : ByteArray := prog_14_method_136_code
def yX12_rent : MethodName := ⟨RX12, "rent", "(I)I"⟩
abbrev cX12_allQuestions : ByteArray := prog_14_method_137_code
def yX12_allQuestions : MethodName := ⟨RX12, "allQuestions", "()I"⟩
abbrev cX12_brokenBy : ByteArray := prog_14_method_138_code
def yX12_brokenBy : MethodName := ⟨RX12, "brokenBy", "(I)I"⟩
abbrev cX12_rulings : ByteArray := prog_14_method_139_code
def yX12_rulings : MethodName := ⟨RX12, "rulings", "()I"⟩
abbrev cX12_rulingAt : ByteArray := prog_14_method_140_code
def yX12_rulingAt : MethodName := ⟨RX12, "rulingAt", "(I)I"⟩
abbrev cX12_striking : ByteArray := prog_14_method_141_code
def yX12_striking : MethodName := ⟨RX12, "striking", "()I"⟩
abbrev cX12_strike : ByteArray := prog_14_method_142_code
def yX12_strike : MethodName := ⟨RX12, "strike", "()I"⟩
abbrev cX12_strikeSet : ByteArray := prog_14_method_143_code
def yX12_strikeSet : MethodName := ⟨RX12, "strikeSet", "()I"⟩
abbrev cX12_sure : ByteArray := prog_14_method_144_code
def yX12_sure : MethodName := ⟨RX12, "sure", "(I)I"⟩
abbrev cX12_plays : ByteArray := prog_14_method_145_code
def yX12_plays : MethodName := ⟨RX12, "plays", "(IIII)I"⟩
abbrev cX12_game : ByteArray := prog_14_method_146_code
def yX12_game : MethodName := ⟨RX12, "game", "(I)I"⟩
abbrev cX12_moveOf : ByteArray := prog_14_method_147_code
def yX12_moveOf : MethodName := ⟨RX12, "moveOf", "(I)I"⟩
abbrev cX12_whose : ByteArray := prog_14_method_148_code
def yX12_whose : MethodName := ⟨RX12, "whose", "(I)Z"⟩
abbrev cX12_share : ByteArray := prog_14_method_149_code
def yX12_share : MethodName := ⟨RX12, "share", "(I)Z"⟩
abbrev cX12_draw : ByteArray := prog_14_method_150_code
def yX12_draw : MethodName := ⟨RX12, "draw", "(I)I"⟩
abbrev cX12_pass : ByteArray := prog_14_method_151_code
def yX12_pass : MethodName := ⟨RX12, "pass", "(I)Z"⟩
abbrev cX12_isAny : ByteArray := prog_14_method_152_code
def yX12_isAny : MethodName := ⟨RX12, "isAny", "()Z"⟩
abbrev cX12_isSworn : ByteArray := prog_14_method_153_code
def yX12_isSworn : MethodName := ⟨RX12, "isSworn", "(III)Z"⟩
abbrev cX12_does : ByteArray := prog_14_method_154_code
def yX12_does : MethodName := ⟨RX12, "does", "(I)Z"⟩
abbrev cX12_holds : ByteArray := prog_14_method_155_code
def yX12_holds : MethodName := ⟨RX12, "holds", "(I)Z"⟩
abbrev cX12_doOne : ByteArray := prog_14_method_156_code
def yX12_doOne : MethodName := ⟨RX12, "doOne", "(I)V"⟩
abbrev cX12_doAll : ByteArray := prog_14_method_157_code
def yX12_doAll : MethodName := ⟨RX12, "doAll", "(II)V"⟩
abbrev cX12_runsYears : ByteArray := prog_14_method_158_code
def yX12_runsYears : MethodName := ⟨RX12, "runsYears", "(I)V"⟩
abbrev cX12_live : ByteArray := prog_14_method_159_code
def yX12_live : MethodName := ⟨RX12, "live", "(I)I"⟩
abbrev cX12_lived : ByteArray := prog_14_method_160_code
def yX12_lived : MethodName := ⟨RX12, "lived", "(I)I"⟩
abbrev cX12_mean : ByteArray := prog_14_method_161_code
def yX12_mean : MethodName := ⟨RX12, "mean", "(II)Z"⟩
abbrev cX12_copy : ByteArray := prog_14_method_162_code
def yX12_copy : MethodName := ⟨RX12, "copy", "(II)V"⟩
abbrev cX12_mark : ByteArray := prog_14_method_163_code
def yX12_mark : MethodName := ⟨RX12, "mark", "()I"⟩
abbrev cX12_back : ByteArray := prog_14_method_164_code
def yX12_back : MethodName := ⟨RX12, "back", "()I"⟩
def RJ6 : String := "java/lang/Integer"
def TJ6 : u_T := fun k => match k with
  | _ => ("", "", "", false)
def tyJ6 : Nat → FieldType := fun k => match k with
  | _ => .int
abbrev wsJ60 : List Cond := u_ws RJ6 TJ6 0
theorem nmJ6 : ∀ a, a < 0 → ∀ b, b < 0 → a ≠ b → (TJ6 a).2.1 ≠ (TJ6 b).2.1 := by decide +kernel
theorem tyJ6_ok : ∀ k, k < 0 → parseFieldDescriptor (TJ6 k).2.2.1 = some (tyJ6 k) := by decide +kernel
abbrev cJ6_bitCount_0f7a4 : ByteArray := prog_15_method_49_code
def yJ6_bitCount_0f7a4 : MethodName := ⟨RJ6, "bitCount", "(I)I"⟩
def RJ9 : String := "java/lang/Math"
def TJ9 : u_T := fun k => match k with
  | _ => ("", "", "", false)
def tyJ9 : Nat → FieldType := fun k => match k with
  | _ => .int
abbrev wsJ90 : List Cond := u_ws RJ9 TJ9 0
theorem nmJ9 : ∀ a, a < 0 → ∀ b, b < 0 → a ≠ b → (TJ9 a).2.1 ≠ (TJ9 b).2.1 := by decide +kernel
theorem tyJ9_ok : ∀ k, k < 0 → parseFieldDescriptor (TJ9 k).2.2.1 = some (tyJ9 k) := by decide +kernel
abbrev cJ9_abs_067f4 : ByteArray := prog_16_method_61_code
def yJ9_abs_067f4 : MethodName := ⟨RJ9, "abs", "(J)J"⟩
abbrev cJ9_max_7cf53 : ByteArray := prog_16_method_65_code
def yJ9_max_7cf53 : MethodName := ⟨RJ9, "max", "(II)I"⟩
abbrev cJ9_min_7cf53 : ByteArray := prog_16_method_69_code
def yJ9_min_7cf53 : MethodName := ⟨RJ9, "min", "(II)I"⟩
def RJ0 : String := "java/lang/String"
def TJ0 : u_T := fun k => match k with
  | _ => ("", "", "", false)
def tyJ0 : Nat → FieldType := fun k => match k with
  | _ => .int
abbrev wsJ00 : List Cond := u_ws RJ0 TJ0 0
theorem nmJ0 : ∀ a, a < 0 → ∀ b, b < 0 → a ≠ b → (TJ0 a).2.1 ≠ (TJ0 b).2.1 := by decide +kernel
theorem tyJ0_ok : ∀ k, k < 0 → parseFieldDescriptor (TJ0 k).2.2.1 = some (tyJ0 k) := by decide +kernel
abbrev cJ0_length_8abf5 : ByteArray := prog_17_method_54_code
def yJ0_length_8abf5 : MethodName := ⟨RJ0, "length", "()I"⟩
abbrev cJ0_charAt_5068e : ByteArray := prog_17_method_56_code
def yJ0_charAt_5068e : MethodName := ⟨RJ0, "charAt", "(I)C"⟩
abbrev cJ0_coder_7d493 : ByteArray := prog_17_method_152_code
def yJ0_coder_7d493 : MethodName := ⟨RJ0, "coder", "()B"⟩
abbrev cJ0_isLatin1_aae02 : ByteArray := prog_17_method_154_code
def yJ0_isLatin1_aae02 : MethodName := ⟨RJ0, "isLatin1", "()Z"⟩
abbrev cJ0_checkIndex_df160 : ByteArray := prog_17_method_155_code
def yJ0_checkIndex_df160 : MethodName := ⟨RJ0, "checkIndex", "(II)V"⟩
def RJ1 : String := "java/lang/StringLatin1"
def TJ1 : u_T := fun k => match k with
  | _ => ("", "", "", false)
def tyJ1 : Nat → FieldType := fun k => match k with
  | _ => .int
abbrev wsJ10 : List Cond := u_ws RJ1 TJ1 0
theorem nmJ1 : ∀ a, a < 0 → ∀ b, b < 0 → a ≠ b → (TJ1 a).2.1 ≠ (TJ1 b).2.1 := by decide +kernel
theorem tyJ1_ok : ∀ k, k < 0 → parseFieldDescriptor (TJ1 k).2.2.1 = some (tyJ1 k) := by decide +kernel
abbrev cJ1_charAt_3b067 : ByteArray := prog_18_method_2_code
def yJ1_charAt_3b067 : MethodName := ⟨RJ1, "charAt", "([BI)C"⟩
def RJ2 : String := "java/lang/StringUTF16"
def TJ2 : u_T := fun k => match k with
  | _ => ("", "", "", false)
def tyJ2 : Nat → FieldType := fun k => match k with
  | _ => .int
abbrev wsJ20 : List Cond := u_ws RJ2 TJ2 0
theorem nmJ2 : ∀ a, a < 0 → ∀ b, b < 0 → a ≠ b → (TJ2 a).2.1 ≠ (TJ2 b).2.1 := by decide +kernel
theorem tyJ2_ok : ∀ k, k < 0 → parseFieldDescriptor (TJ2 k).2.2.1 = some (tyJ2 k) := by decide +kernel
abbrev cJ2_getChar_3b067 : ByteArray := prog_19_method_5_code
def yJ2_getChar_3b067 : MethodName := ⟨RJ2, "getChar", "([BI)C"⟩
abbrev cJ2_length_9d52b : ByteArray := prog_19_method_6_code
def yJ2_length_9d52b : MethodName := ⟨RJ2, "length", "([B)I"⟩
abbrev cJ2_charAt_3b067 : ByteArray := prog_19_method_83_code
def yJ2_charAt_3b067 : MethodName := ⟨RJ2, "charAt", "([BI)C"⟩
abbrev cJ2_checkIndex_2214a : ByteArray := prog_19_method_91_code
def yJ2_checkIndex_2214a : MethodName := ⟨RJ2, "checkIndex", "(I[B)V"⟩
def RJ10 : String := "java/lang/System"
def TJ10 : u_T := fun k => match k with
  | _ => ("", "", "", false)
def tyJ10 : Nat → FieldType := fun k => match k with
  | _ => .int
abbrev wsJ100 : List Cond := u_ws RJ10 TJ10 0
theorem nmJ10 : ∀ a, a < 0 → ∀ b, b < 0 → a ≠ b → (TJ10 a).2.1 ≠ (TJ10 b).2.1 := by decide +kernel
theorem tyJ10_ok : ∀ k, k < 0 → parseFieldDescriptor (TJ10 k).2.2.1 = some (tyJ10 k) := by decide +kernel
def RJ3 : String := "jdk/internal/util/Preconditions"
def TJ3 : u_T := fun k => match k with
  | _ => ("", "", "", false)
def tyJ3 : Nat → FieldType := fun k => match k with
  | _ => .int
abbrev wsJ30 : List Cond := u_ws RJ3 TJ3 0
theorem nmJ3 : ∀ a, a < 0 → ∀ b, b < 0 → a ≠ b → (TJ3 a).2.1 ≠ (TJ3 b).2.1 := by decide +kernel
theorem tyJ3_ok : ∀ k, k < 0 → parseFieldDescriptor (TJ3 k).2.2.1 = some (tyJ3 k) := by decide +kernel
abbrev cJ3_checkIndex_8e157 : ByteArray := prog_21_method_11_code
def yJ3_checkIndex_8e157 : MethodName := ⟨RJ3, "checkIndex", "(IILjava/util/function/BiFunction;)I"⟩
def RL : String := "DitchSaintLaw"
abbrev cL_law : ByteArray := code
def yL_law : MethodName := ⟨RL, "law", "([I)Z"⟩
