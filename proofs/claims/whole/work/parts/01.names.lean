-- ===== PART A: goes FIRST, ahead of the names: the tables' words, and 'selects' of the private methods out of them =====
/-- a private method of a class that the tables say can be made, by its rows of tables_1 -/
def lw_okq (q : MethodName × Nat) : Prop := (q.1.cls ≠ "java/lang/invoke/MethodHandle" ∧ q.1.cls ≠ "java/lang/invoke/VarHandle") ∧ Cond.instantiable q.1.cls q.2 ∈ tables_1 ∧ Cond.privateMethod q.1 ∈ tables_1 ∧ Cond.instanceMethod q.1 ∈ tables_1
theorem lw_p0 : lw_okq (⟨"WinterShed", "shelfAt", "(I)LWinterShed$Shelf;"⟩, 16) := ⟨⟨by decide +kernel, by decide +kernel⟩, List.mem_of_getElem? (i := 21) (by decide +kernel), List.mem_of_getElem? (i := 415) (by decide +kernel), List.mem_of_getElem? (i := 416) (by decide +kernel)⟩
theorem lw_p1 : lw_okq (⟨"WinterShed", "wantsFromRow", "(LWinterShed$Shelf;II)I"⟩, 16) := ⟨⟨by decide +kernel, by decide +kernel⟩, List.mem_of_getElem? (i := 21) (by decide +kernel), List.mem_of_getElem? (i := 423) (by decide +kernel), List.mem_of_getElem? (i := 424) (by decide +kernel)⟩
theorem lw_p2 : lw_okq (⟨"WinterShed", "isNumber", "(II)Z"⟩, 16) := ⟨⟨by decide +kernel, by decide +kernel⟩, List.mem_of_getElem? (i := 21) (by decide +kernel), List.mem_of_getElem? (i := 435) (by decide +kernel), List.mem_of_getElem? (i := 436) (by decide +kernel)⟩
theorem lw_p3 : lw_okq (⟨"WinterShed", "valueOf", "(II)I"⟩, 16) := ⟨⟨by decide +kernel, by decide +kernel⟩, List.mem_of_getElem? (i := 21) (by decide +kernel), List.mem_of_getElem? (i := 444) (by decide +kernel), List.mem_of_getElem? (i := 445) (by decide +kernel)⟩
theorem lw_p4 : lw_okq (⟨"WinterShed", "setValue", "(III)V"⟩, 16) := ⟨⟨by decide +kernel, by decide +kernel⟩, List.mem_of_getElem? (i := 21) (by decide +kernel), List.mem_of_getElem? (i := 448) (by decide +kernel), List.mem_of_getElem? (i := 449) (by decide +kernel)⟩
theorem lw_p5 : lw_okq (⟨"WinterShed$Changes", "forgetOldest", "()V"⟩, 6) := ⟨⟨by decide +kernel, by decide +kernel⟩, List.mem_of_getElem? (i := 241) (by decide +kernel), List.mem_of_getElem? (i := 456) (by decide +kernel), List.mem_of_getElem? (i := 457) (by decide +kernel)⟩
theorem lw_p6 : lw_okq (⟨"WinterShed$Law", "readText", "()Z"⟩, 9) := ⟨⟨by decide +kernel, by decide +kernel⟩, List.mem_of_getElem? (i := 180) (by decide +kernel), List.mem_of_getElem? (i := 485) (by decide +kernel), List.mem_of_getElem? (i := 486) (by decide +kernel)⟩
theorem lw_p7 : lw_okq (⟨"WinterShed$Law", "readLine", "()Z"⟩, 9) := ⟨⟨by decide +kernel, by decide +kernel⟩, List.mem_of_getElem? (i := 180) (by decide +kernel), List.mem_of_getElem? (i := 489) (by decide +kernel), List.mem_of_getElem? (i := 490) (by decide +kernel)⟩
theorem lw_p8 : lw_okq (⟨"WinterShed$Law", "readLevel", "(II)Z"⟩, 9) := ⟨⟨by decide +kernel, by decide +kernel⟩, List.mem_of_getElem? (i := 180) (by decide +kernel), List.mem_of_getElem? (i := 493) (by decide +kernel), List.mem_of_getElem? (i := 494) (by decide +kernel)⟩
theorem lw_p9 : lw_okq (⟨"WinterShed$Law", "readOperand", "(I)Z"⟩, 9) := ⟨⟨by decide +kernel, by decide +kernel⟩, List.mem_of_getElem? (i := 180) (by decide +kernel), List.mem_of_getElem? (i := 497) (by decide +kernel), List.mem_of_getElem? (i := 498) (by decide +kernel)⟩
theorem lw_p10 : lw_okq (⟨"WinterShed$Law", "letter", "()I"⟩, 9) := ⟨⟨by decide +kernel, by decide +kernel⟩, List.mem_of_getElem? (i := 180) (by decide +kernel), List.mem_of_getElem? (i := 501) (by decide +kernel), List.mem_of_getElem? (i := 502) (by decide +kernel)⟩
theorem lw_p11 : lw_okq (⟨"WinterShed$Law", "readNumber", "()V"⟩, 9) := ⟨⟨by decide +kernel, by decide +kernel⟩, List.mem_of_getElem? (i := 180) (by decide +kernel), List.mem_of_getElem? (i := 508) (by decide +kernel), List.mem_of_getElem? (i := 509) (by decide +kernel)⟩
theorem lw_p12 : lw_okq (⟨"WinterShed$Law", "addStep", "(II)V"⟩, 9) := ⟨⟨by decide +kernel, by decide +kernel⟩, List.mem_of_getElem? (i := 180) (by decide +kernel), List.mem_of_getElem? (i := 512) (by decide +kernel), List.mem_of_getElem? (i := 513) (by decide +kernel)⟩
theorem lw_p13 : lw_okq (⟨"WinterShed$Law", "skip", "(C)Z"⟩, 9) := ⟨⟨by decide +kernel, by decide +kernel⟩, List.mem_of_getElem? (i := 180) (by decide +kernel), List.mem_of_getElem? (i := 599) (by decide +kernel), List.mem_of_getElem? (i := 600) (by decide +kernel)⟩
theorem lw_p14 : lw_okq (⟨"WinterShed", "thinkPlan", "(I)I"⟩, 16) := ⟨⟨by decide +kernel, by decide +kernel⟩, List.mem_of_getElem? (i := 21) (by decide +kernel), List.mem_of_getElem? (i := 611) (by decide +kernel), List.mem_of_getElem? (i := 612) (by decide +kernel)⟩
theorem lw_p15 : lw_okq (⟨"WinterShed", "refuseRow", "(II)I"⟩, 16) := ⟨⟨by decide +kernel, by decide +kernel⟩, List.mem_of_getElem? (i := 21) (by decide +kernel), List.mem_of_getElem? (i := 615) (by decide +kernel), List.mem_of_getElem? (i := 616) (by decide +kernel)⟩
def lw_privs_1 : List (MethodName × Nat) := [(⟨"WinterShed", "shelfAt", "(I)LWinterShed$Shelf;"⟩, 16), (⟨"WinterShed", "wantsFromRow", "(LWinterShed$Shelf;II)I"⟩, 16), (⟨"WinterShed", "isNumber", "(II)Z"⟩, 16), (⟨"WinterShed", "valueOf", "(II)I"⟩, 16), (⟨"WinterShed", "setValue", "(III)V"⟩, 16), (⟨"WinterShed$Changes", "forgetOldest", "()V"⟩, 6), (⟨"WinterShed$Law", "readText", "()Z"⟩, 9), (⟨"WinterShed$Law", "readLine", "()Z"⟩, 9), (⟨"WinterShed$Law", "readLevel", "(II)Z"⟩, 9), (⟨"WinterShed$Law", "readOperand", "(I)Z"⟩, 9), (⟨"WinterShed$Law", "letter", "()I"⟩, 9), (⟨"WinterShed$Law", "readNumber", "()V"⟩, 9), (⟨"WinterShed$Law", "addStep", "(II)V"⟩, 9), (⟨"WinterShed$Law", "skip", "(C)Z"⟩, 9), (⟨"WinterShed", "thinkPlan", "(I)I"⟩, 16), (⟨"WinterShed", "refuseRow", "(II)I"⟩, 16)]
theorem lw_r1 : ∀ q ∈ lw_privs_1, lw_okq q := List.forall_mem_cons.mpr ⟨lw_p0, List.forall_mem_cons.mpr ⟨lw_p1, List.forall_mem_cons.mpr ⟨lw_p2, List.forall_mem_cons.mpr ⟨lw_p3, List.forall_mem_cons.mpr ⟨lw_p4, List.forall_mem_cons.mpr ⟨lw_p5, List.forall_mem_cons.mpr ⟨lw_p6, List.forall_mem_cons.mpr ⟨lw_p7, List.forall_mem_cons.mpr ⟨lw_p8, List.forall_mem_cons.mpr ⟨lw_p9, List.forall_mem_cons.mpr ⟨lw_p10, List.forall_mem_cons.mpr ⟨lw_p11, List.forall_mem_cons.mpr ⟨lw_p12, List.forall_mem_cons.mpr ⟨lw_p13, List.forall_mem_cons.mpr ⟨lw_p14, List.forall_mem_cons.mpr ⟨lw_p15, fun _ h => absurd h List.not_mem_nil⟩⟩⟩⟩⟩⟩⟩⟩⟩⟩⟩⟩⟩⟩⟩⟩
theorem lw_p16 : lw_okq (⟨"WinterShed$Law", "tellNames", "(LWinterShed$Shed;III)V"⟩, 9) := ⟨⟨by decide +kernel, by decide +kernel⟩, List.mem_of_getElem? (i := 180) (by decide +kernel), List.mem_of_getElem? (i := 649) (by decide +kernel), List.mem_of_getElem? (i := 650) (by decide +kernel)⟩
theorem lw_p17 : lw_okq (⟨"WinterShed$Law", "workOut", "()I"⟩, 9) := ⟨⟨by decide +kernel, by decide +kernel⟩, List.mem_of_getElem? (i := 180) (by decide +kernel), List.mem_of_getElem? (i := 653) (by decide +kernel), List.mem_of_getElem? (i := 654) (by decide +kernel)⟩
theorem lw_p18 : lw_okq (⟨"WinterShed$Law", "pop", "()I"⟩, 9) := ⟨⟨by decide +kernel, by decide +kernel⟩, List.mem_of_getElem? (i := 180) (by decide +kernel), List.mem_of_getElem? (i := 657) (by decide +kernel), List.mem_of_getElem? (i := 658) (by decide +kernel)⟩
theorem lw_p19 : lw_okq (⟨"WinterShed$Law", "workStep", "(II)V"⟩, 9) := ⟨⟨by decide +kernel, by decide +kernel⟩, List.mem_of_getElem? (i := 180) (by decide +kernel), List.mem_of_getElem? (i := 661) (by decide +kernel), List.mem_of_getElem? (i := 662) (by decide +kernel)⟩
theorem lw_p20 : lw_okq (⟨"WinterShed$Law", "push", "(I)V"⟩, 9) := ⟨⟨by decide +kernel, by decide +kernel⟩, List.mem_of_getElem? (i := 180) (by decide +kernel), List.mem_of_getElem? (i := 665) (by decide +kernel), List.mem_of_getElem? (i := 666) (by decide +kernel)⟩
theorem lw_p21 : lw_okq (⟨"WinterShed", "metTo", "(I)I"⟩, 16) := ⟨⟨by decide +kernel, by decide +kernel⟩, List.mem_of_getElem? (i := 21) (by decide +kernel), List.mem_of_getElem? (i := 676) (by decide +kernel), List.mem_of_getElem? (i := 677) (by decide +kernel)⟩
theorem lw_p22 : lw_okq (⟨"WinterShed$Village", "isMet", "(III)Z"⟩, 8) := ⟨⟨by decide +kernel, by decide +kernel⟩, List.mem_of_getElem? (i := 29) (by decide +kernel), List.mem_of_getElem? (i := 684) (by decide +kernel), List.mem_of_getElem? (i := 685) (by decide +kernel)⟩
theorem lw_p23 : lw_okq (⟨"WinterShed", "sumTo", "(II)I"⟩, 16) := ⟨⟨by decide +kernel, by decide +kernel⟩, List.mem_of_getElem? (i := 21) (by decide +kernel), List.mem_of_getElem? (i := 688) (by decide +kernel), List.mem_of_getElem? (i := 689) (by decide +kernel)⟩
theorem lw_p24 : lw_okq (⟨"WinterShed", "firstWithoutCold", "()I"⟩, 16) := ⟨⟨by decide +kernel, by decide +kernel⟩, List.mem_of_getElem? (i := 21) (by decide +kernel), List.mem_of_getElem? (i := 709) (by decide +kernel), List.mem_of_getElem? (i := 710) (by decide +kernel)⟩
theorem lw_p25 : lw_okq (⟨"WinterShed", "tryDay", "(III)V"⟩, 16) := ⟨⟨by decide +kernel, by decide +kernel⟩, List.mem_of_getElem? (i := 21) (by decide +kernel), List.mem_of_getElem? (i := 727) (by decide +kernel), List.mem_of_getElem? (i := 728) (by decide +kernel)⟩
theorem lw_p26 : lw_okq (⟨"WinterShed", "firstUnmet", "()I"⟩, 16) := ⟨⟨by decide +kernel, by decide +kernel⟩, List.mem_of_getElem? (i := 21) (by decide +kernel), List.mem_of_getElem? (i := 756) (by decide +kernel), List.mem_of_getElem? (i := 757) (by decide +kernel)⟩
theorem lw_p27 : lw_okq (⟨"WinterShed", "leastCold", "()I"⟩, 16) := ⟨⟨by decide +kernel, by decide +kernel⟩, List.mem_of_getElem? (i := 21) (by decide +kernel), List.mem_of_getElem? (i := 760) (by decide +kernel), List.mem_of_getElem? (i := 761) (by decide +kernel)⟩
theorem lw_p28 : lw_okq (⟨"WinterShed", "meetsAllFrom", "(I)Z"⟩, 16) := ⟨⟨by decide +kernel, by decide +kernel⟩, List.mem_of_getElem? (i := 21) (by decide +kernel), List.mem_of_getElem? (i := 764) (by decide +kernel), List.mem_of_getElem? (i := 765) (by decide +kernel)⟩
theorem lw_p29 : lw_okq (⟨"WinterShed$Village", "voicesOf", "(I)I"⟩, 8) := ⟨⟨by decide +kernel, by decide +kernel⟩, List.mem_of_getElem? (i := 29) (by decide +kernel), List.mem_of_getElem? (i := 789) (by decide +kernel), List.mem_of_getElem? (i := 790) (by decide +kernel)⟩
theorem lw_p30 : lw_okq (⟨"WinterShed", "bestPrice", "(I)I"⟩, 16) := ⟨⟨by decide +kernel, by decide +kernel⟩, List.mem_of_getElem? (i := 21) (by decide +kernel), List.mem_of_getElem? (i := 823) (by decide +kernel), List.mem_of_getElem? (i := 824) (by decide +kernel)⟩
theorem lw_p31 : lw_okq (⟨"WinterShed", "sold", "(II)I"⟩, 16) := ⟨⟨by decide +kernel, by decide +kernel⟩, List.mem_of_getElem? (i := 21) (by decide +kernel), List.mem_of_getElem? (i := 827) (by decide +kernel), List.mem_of_getElem? (i := 828) (by decide +kernel)⟩
def lw_privs_2 : List (MethodName × Nat) := [(⟨"WinterShed$Law", "tellNames", "(LWinterShed$Shed;III)V"⟩, 9), (⟨"WinterShed$Law", "workOut", "()I"⟩, 9), (⟨"WinterShed$Law", "pop", "()I"⟩, 9), (⟨"WinterShed$Law", "workStep", "(II)V"⟩, 9), (⟨"WinterShed$Law", "push", "(I)V"⟩, 9), (⟨"WinterShed", "metTo", "(I)I"⟩, 16), (⟨"WinterShed$Village", "isMet", "(III)Z"⟩, 8), (⟨"WinterShed", "sumTo", "(II)I"⟩, 16), (⟨"WinterShed", "firstWithoutCold", "()I"⟩, 16), (⟨"WinterShed", "tryDay", "(III)V"⟩, 16), (⟨"WinterShed", "firstUnmet", "()I"⟩, 16), (⟨"WinterShed", "leastCold", "()I"⟩, 16), (⟨"WinterShed", "meetsAllFrom", "(I)Z"⟩, 16), (⟨"WinterShed$Village", "voicesOf", "(I)I"⟩, 8), (⟨"WinterShed", "bestPrice", "(I)I"⟩, 16), (⟨"WinterShed", "sold", "(II)I"⟩, 16)]
theorem lw_r2 : ∀ q ∈ lw_privs_2, lw_okq q := List.forall_mem_cons.mpr ⟨lw_p16, List.forall_mem_cons.mpr ⟨lw_p17, List.forall_mem_cons.mpr ⟨lw_p18, List.forall_mem_cons.mpr ⟨lw_p19, List.forall_mem_cons.mpr ⟨lw_p20, List.forall_mem_cons.mpr ⟨lw_p21, List.forall_mem_cons.mpr ⟨lw_p22, List.forall_mem_cons.mpr ⟨lw_p23, List.forall_mem_cons.mpr ⟨lw_p24, List.forall_mem_cons.mpr ⟨lw_p25, List.forall_mem_cons.mpr ⟨lw_p26, List.forall_mem_cons.mpr ⟨lw_p27, List.forall_mem_cons.mpr ⟨lw_p28, List.forall_mem_cons.mpr ⟨lw_p29, List.forall_mem_cons.mpr ⟨lw_p30, List.forall_mem_cons.mpr ⟨lw_p31, fun _ h => absurd h List.not_mem_nil⟩⟩⟩⟩⟩⟩⟩⟩⟩⟩⟩⟩⟩⟩⟩⟩
theorem lw_p32 : lw_okq (⟨"WinterShed", "firstUnlike", "(LWinterShed$Shelf;LWinterShed$Shed;)I"⟩, 16) := ⟨⟨by decide +kernel, by decide +kernel⟩, List.mem_of_getElem? (i := 21) (by decide +kernel), List.mem_of_getElem? (i := 840) (by decide +kernel), List.mem_of_getElem? (i := 841) (by decide +kernel)⟩
theorem lw_p33 : lw_okq (⟨"WinterShed", "howMuch", "(LWinterShed$Shelf;Z)I"⟩, 16) := ⟨⟨by decide +kernel, by decide +kernel⟩, List.mem_of_getElem? (i := 21) (by decide +kernel), List.mem_of_getElem? (i := 848) (by decide +kernel), List.mem_of_getElem? (i := 849) (by decide +kernel)⟩
theorem lw_p34 : lw_okq (⟨"WinterShed", "howFast", "(LWinterShed$Shelf;Z)I"⟩, 16) := ⟨⟨by decide +kernel, by decide +kernel⟩, List.mem_of_getElem? (i := 21) (by decide +kernel), List.mem_of_getElem? (i := 856) (by decide +kernel), List.mem_of_getElem? (i := 857) (by decide +kernel)⟩
theorem lw_p35 : lw_okq (⟨"WinterShed", "givesFirstOn", "(I)Z"⟩, 16) := ⟨⟨by decide +kernel, by decide +kernel⟩, List.mem_of_getElem? (i := 21) (by decide +kernel), List.mem_of_getElem? (i := 864) (by decide +kernel), List.mem_of_getElem? (i := 865) (by decide +kernel)⟩
theorem lw_p36 : lw_okq (⟨"WinterShed", "afterTurn", "(III)I"⟩, 16) := ⟨⟨by decide +kernel, by decide +kernel⟩, List.mem_of_getElem? (i := 21) (by decide +kernel), List.mem_of_getElem? (i := 876) (by decide +kernel), List.mem_of_getElem? (i := 877) (by decide +kernel)⟩
theorem lw_p37 : lw_okq (⟨"WinterShed", "drawSummer", "(I)V"⟩, 16) := ⟨⟨by decide +kernel, by decide +kernel⟩, List.mem_of_getElem? (i := 21) (by decide +kernel), List.mem_of_getElem? (i := 889) (by decide +kernel), List.mem_of_getElem? (i := 890) (by decide +kernel)⟩
theorem lw_p38 : lw_okq (⟨"WinterShed$Frosts", "own", "(III)I"⟩, 5) := ⟨⟨by decide +kernel, by decide +kernel⟩, List.mem_of_getElem? (i := 272) (by decide +kernel), List.mem_of_getElem? (i := 962) (by decide +kernel), List.mem_of_getElem? (i := 963) (by decide +kernel)⟩
theorem lw_p39 : lw_okq (⟨"WinterShed$Frosts", "from", "(IIII)I"⟩, 5) := ⟨⟨by decide +kernel, by decide +kernel⟩, List.mem_of_getElem? (i := 272) (by decide +kernel), List.mem_of_getElem? (i := 970) (by decide +kernel), List.mem_of_getElem? (i := 971) (by decide +kernel)⟩
theorem lw_p40 : lw_okq (⟨"WinterShed$Frosts", "perform", "(IIII)I"⟩, 5) := ⟨⟨by decide +kernel, by decide +kernel⟩, List.mem_of_getElem? (i := 272) (by decide +kernel), List.mem_of_getElem? (i := 976) (by decide +kernel), List.mem_of_getElem? (i := 977) (by decide +kernel)⟩
theorem lw_p41 : lw_okq (⟨"WinterShed$Frosts", "leaveTrace", "(I)V"⟩, 5) := ⟨⟨by decide +kernel, by decide +kernel⟩, List.mem_of_getElem? (i := 272) (by decide +kernel), List.mem_of_getElem? (i := 980) (by decide +kernel), List.mem_of_getElem? (i := 981) (by decide +kernel)⟩
theorem lw_p42 : lw_okq (⟨"WinterShed$Frosts", "above", "(IIII)I"⟩, 5) := ⟨⟨by decide +kernel, by decide +kernel⟩, List.mem_of_getElem? (i := 272) (by decide +kernel), List.mem_of_getElem? (i := 984) (by decide +kernel), List.mem_of_getElem? (i := 985) (by decide +kernel)⟩
theorem lw_p43 : lw_okq (⟨"WinterShed", "refusePlace", "(II)I"⟩, 16) := ⟨⟨by decide +kernel, by decide +kernel⟩, List.mem_of_getElem? (i := 21) (by decide +kernel), List.mem_of_getElem? (i := 1019) (by decide +kernel), List.mem_of_getElem? (i := 1020) (by decide +kernel)⟩
theorem lw_p44 : lw_okq (⟨"WinterShedModel", "isSuch", "(IIII)Z"⟩, 48) := ⟨⟨by decide +kernel, by decide +kernel⟩, List.mem_of_getElem? (i := 1048) (by decide +kernel), List.mem_of_getElem? (i := 1210) (by decide +kernel), List.mem_of_getElem? (i := 1211) (by decide +kernel)⟩
theorem lw_p45 : lw_okq (⟨"WinterShedModel", "isFarm", "(I)Z"⟩, 48) := ⟨⟨by decide +kernel, by decide +kernel⟩, List.mem_of_getElem? (i := 1048) (by decide +kernel), List.mem_of_getElem? (i := 1214) (by decide +kernel), List.mem_of_getElem? (i := 1215) (by decide +kernel)⟩
theorem lw_p46 : lw_okq (⟨"WinterShedModel", "newWant", "(IIII)I"⟩, 48) := ⟨⟨by decide +kernel, by decide +kernel⟩, List.mem_of_getElem? (i := 1048) (by decide +kernel), List.mem_of_getElem? (i := 1221) (by decide +kernel), List.mem_of_getElem? (i := 1222) (by decide +kernel)⟩
theorem lw_p47 : lw_okq (⟨"WinterShedModel", "toldAt", "(II)I"⟩, 48) := ⟨⟨by decide +kernel, by decide +kernel⟩, List.mem_of_getElem? (i := 1048) (by decide +kernel), List.mem_of_getElem? (i := 1233) (by decide +kernel), List.mem_of_getElem? (i := 1234) (by decide +kernel)⟩
def lw_privs_3 : List (MethodName × Nat) := [(⟨"WinterShed", "firstUnlike", "(LWinterShed$Shelf;LWinterShed$Shed;)I"⟩, 16), (⟨"WinterShed", "howMuch", "(LWinterShed$Shelf;Z)I"⟩, 16), (⟨"WinterShed", "howFast", "(LWinterShed$Shelf;Z)I"⟩, 16), (⟨"WinterShed", "givesFirstOn", "(I)Z"⟩, 16), (⟨"WinterShed", "afterTurn", "(III)I"⟩, 16), (⟨"WinterShed", "drawSummer", "(I)V"⟩, 16), (⟨"WinterShed$Frosts", "own", "(III)I"⟩, 5), (⟨"WinterShed$Frosts", "from", "(IIII)I"⟩, 5), (⟨"WinterShed$Frosts", "perform", "(IIII)I"⟩, 5), (⟨"WinterShed$Frosts", "leaveTrace", "(I)V"⟩, 5), (⟨"WinterShed$Frosts", "above", "(IIII)I"⟩, 5), (⟨"WinterShed", "refusePlace", "(II)I"⟩, 16), (⟨"WinterShedModel", "isSuch", "(IIII)Z"⟩, 48), (⟨"WinterShedModel", "isFarm", "(I)Z"⟩, 48), (⟨"WinterShedModel", "newWant", "(IIII)I"⟩, 48), (⟨"WinterShedModel", "toldAt", "(II)I"⟩, 48)]
theorem lw_r3 : ∀ q ∈ lw_privs_3, lw_okq q := List.forall_mem_cons.mpr ⟨lw_p32, List.forall_mem_cons.mpr ⟨lw_p33, List.forall_mem_cons.mpr ⟨lw_p34, List.forall_mem_cons.mpr ⟨lw_p35, List.forall_mem_cons.mpr ⟨lw_p36, List.forall_mem_cons.mpr ⟨lw_p37, List.forall_mem_cons.mpr ⟨lw_p38, List.forall_mem_cons.mpr ⟨lw_p39, List.forall_mem_cons.mpr ⟨lw_p40, List.forall_mem_cons.mpr ⟨lw_p41, List.forall_mem_cons.mpr ⟨lw_p42, List.forall_mem_cons.mpr ⟨lw_p43, List.forall_mem_cons.mpr ⟨lw_p44, List.forall_mem_cons.mpr ⟨lw_p45, List.forall_mem_cons.mpr ⟨lw_p46, List.forall_mem_cons.mpr ⟨lw_p47, fun _ h => absurd h List.not_mem_nil⟩⟩⟩⟩⟩⟩⟩⟩⟩⟩⟩⟩⟩⟩⟩⟩
theorem lw_p48 : lw_okq (⟨"WinterShedModel", "isOf", "(II)Z"⟩, 48) := ⟨⟨by decide +kernel, by decide +kernel⟩, List.mem_of_getElem? (i := 1048) (by decide +kernel), List.mem_of_getElem? (i := 1241) (by decide +kernel), List.mem_of_getElem? (i := 1242) (by decide +kernel)⟩
theorem lw_p49 : lw_okq (⟨"WinterShedModel", "isWant", "(I)Z"⟩, 48) := ⟨⟨by decide +kernel, by decide +kernel⟩, List.mem_of_getElem? (i := 1048) (by decide +kernel), List.mem_of_getElem? (i := 1245) (by decide +kernel), List.mem_of_getElem? (i := 1246) (by decide +kernel)⟩
theorem lw_p50 : lw_okq (⟨"WinterShedModel", "get", "(II)I"⟩, 48) := ⟨⟨by decide +kernel, by decide +kernel⟩, List.mem_of_getElem? (i := 1048) (by decide +kernel), List.mem_of_getElem? (i := 1252) (by decide +kernel), List.mem_of_getElem? (i := 1253) (by decide +kernel)⟩
theorem lw_p51 : lw_okq (⟨"WinterShedModel", "becomes", "(III)V"⟩, 48) := ⟨⟨by decide +kernel, by decide +kernel⟩, List.mem_of_getElem? (i := 1048) (by decide +kernel), List.mem_of_getElem? (i := 1256) (by decide +kernel), List.mem_of_getElem? (i := 1257) (by decide +kernel)⟩
theorem lw_p52 : lw_okq (⟨"WinterShedModel", "isLine", "()Z"⟩, 48) := ⟨⟨by decide +kernel, by decide +kernel⟩, List.mem_of_getElem? (i := 1048) (by decide +kernel), List.mem_of_getElem? (i := 1280) (by decide +kernel), List.mem_of_getElem? (i := 1281) (by decide +kernel)⟩
theorem lw_p53 : lw_okq (⟨"WinterShedModel", "isE", "()Z"⟩, 48) := ⟨⟨by decide +kernel, by decide +kernel⟩, List.mem_of_getElem? (i := 1048) (by decide +kernel), List.mem_of_getElem? (i := 1284) (by decide +kernel), List.mem_of_getElem? (i := 1285) (by decide +kernel)⟩
theorem lw_p54 : lw_okq (⟨"WinterShedModel", "isA", "()Z"⟩, 48) := ⟨⟨by decide +kernel, by decide +kernel⟩, List.mem_of_getElem? (i := 1048) (by decide +kernel), List.mem_of_getElem? (i := 1288) (by decide +kernel), List.mem_of_getElem? (i := 1289) (by decide +kernel)⟩
theorem lw_p55 : lw_okq (⟨"WinterShedModel", "isB", "()Z"⟩, 48) := ⟨⟨by decide +kernel, by decide +kernel⟩, List.mem_of_getElem? (i := 1048) (by decide +kernel), List.mem_of_getElem? (i := 1292) (by decide +kernel), List.mem_of_getElem? (i := 1293) (by decide +kernel)⟩
theorem lw_p56 : lw_okq (⟨"WinterShedModel", "isS", "()Z"⟩, 48) := ⟨⟨by decide +kernel, by decide +kernel⟩, List.mem_of_getElem? (i := 1048) (by decide +kernel), List.mem_of_getElem? (i := 1296) (by decide +kernel), List.mem_of_getElem? (i := 1297) (by decide +kernel)⟩
theorem lw_p57 : lw_okq (⟨"WinterShedModel", "isP", "()Z"⟩, 48) := ⟨⟨by decide +kernel, by decide +kernel⟩, List.mem_of_getElem? (i := 1048) (by decide +kernel), List.mem_of_getElem? (i := 1300) (by decide +kernel), List.mem_of_getElem? (i := 1301) (by decide +kernel)⟩
theorem lw_p58 : lw_okq (⟨"WinterShedModel", "isO", "()Z"⟩, 48) := ⟨⟨by decide +kernel, by decide +kernel⟩, List.mem_of_getElem? (i := 1048) (by decide +kernel), List.mem_of_getElem? (i := 1304) (by decide +kernel), List.mem_of_getElem? (i := 1305) (by decide +kernel)⟩
theorem lw_p59 : lw_okq (⟨"WinterShedModel", "isDigit", "()Z"⟩, 48) := ⟨⟨by decide +kernel, by decide +kernel⟩, List.mem_of_getElem? (i := 1048) (by decide +kernel), List.mem_of_getElem? (i := 1308) (by decide +kernel), List.mem_of_getElem? (i := 1309) (by decide +kernel)⟩
theorem lw_p60 : lw_okq (⟨"WinterShedModel", "sign", "()I"⟩, 48) := ⟨⟨by decide +kernel, by decide +kernel⟩, List.mem_of_getElem? (i := 1048) (by decide +kernel), List.mem_of_getElem? (i := 1312) (by decide +kernel), List.mem_of_getElem? (i := 1313) (by decide +kernel)⟩
theorem lw_p61 : lw_okq (⟨"WinterShedModel", "codes", "(I)Z"⟩, 48) := ⟨⟨by decide +kernel, by decide +kernel⟩, List.mem_of_getElem? (i := 1048) (by decide +kernel), List.mem_of_getElem? (i := 1316) (by decide +kernel), List.mem_of_getElem? (i := 1317) (by decide +kernel)⟩
theorem lw_p62 : lw_okq (⟨"WinterShedModel", "is", "(I)Z"⟩, 48) := ⟨⟨by decide +kernel, by decide +kernel⟩, List.mem_of_getElem? (i := 1048) (by decide +kernel), List.mem_of_getElem? (i := 1323) (by decide +kernel), List.mem_of_getElem? (i := 1324) (by decide +kernel)⟩
theorem lw_p63 : lw_okq (⟨"WinterShedModel", "now", "()I"⟩, 48) := ⟨⟨by decide +kernel, by decide +kernel⟩, List.mem_of_getElem? (i := 1048) (by decide +kernel), List.mem_of_getElem? (i := 1331) (by decide +kernel), List.mem_of_getElem? (i := 1332) (by decide +kernel)⟩
def lw_privs_4 : List (MethodName × Nat) := [(⟨"WinterShedModel", "isOf", "(II)Z"⟩, 48), (⟨"WinterShedModel", "isWant", "(I)Z"⟩, 48), (⟨"WinterShedModel", "get", "(II)I"⟩, 48), (⟨"WinterShedModel", "becomes", "(III)V"⟩, 48), (⟨"WinterShedModel", "isLine", "()Z"⟩, 48), (⟨"WinterShedModel", "isE", "()Z"⟩, 48), (⟨"WinterShedModel", "isA", "()Z"⟩, 48), (⟨"WinterShedModel", "isB", "()Z"⟩, 48), (⟨"WinterShedModel", "isS", "()Z"⟩, 48), (⟨"WinterShedModel", "isP", "()Z"⟩, 48), (⟨"WinterShedModel", "isO", "()Z"⟩, 48), (⟨"WinterShedModel", "isDigit", "()Z"⟩, 48), (⟨"WinterShedModel", "sign", "()I"⟩, 48), (⟨"WinterShedModel", "codes", "(I)Z"⟩, 48), (⟨"WinterShedModel", "is", "(I)Z"⟩, 48), (⟨"WinterShedModel", "now", "()I"⟩, 48)]
theorem lw_r4 : ∀ q ∈ lw_privs_4, lw_okq q := List.forall_mem_cons.mpr ⟨lw_p48, List.forall_mem_cons.mpr ⟨lw_p49, List.forall_mem_cons.mpr ⟨lw_p50, List.forall_mem_cons.mpr ⟨lw_p51, List.forall_mem_cons.mpr ⟨lw_p52, List.forall_mem_cons.mpr ⟨lw_p53, List.forall_mem_cons.mpr ⟨lw_p54, List.forall_mem_cons.mpr ⟨lw_p55, List.forall_mem_cons.mpr ⟨lw_p56, List.forall_mem_cons.mpr ⟨lw_p57, List.forall_mem_cons.mpr ⟨lw_p58, List.forall_mem_cons.mpr ⟨lw_p59, List.forall_mem_cons.mpr ⟨lw_p60, List.forall_mem_cons.mpr ⟨lw_p61, List.forall_mem_cons.mpr ⟨lw_p62, List.forall_mem_cons.mpr ⟨lw_p63, fun _ h => absurd h List.not_mem_nil⟩⟩⟩⟩⟩⟩⟩⟩⟩⟩⟩⟩⟩⟩⟩⟩
theorem lw_p64 : lw_okq (⟨"WinterShedModel", "noRow", "(II)I"⟩, 48) := ⟨⟨by decide +kernel, by decide +kernel⟩, List.mem_of_getElem? (i := 1048) (by decide +kernel), List.mem_of_getElem? (i := 1335) (by decide +kernel), List.mem_of_getElem? (i := 1336) (by decide +kernel)⟩
theorem lw_p65 : lw_okq (⟨"WinterShedModel", "reads", "(I)V"⟩, 48) := ⟨⟨by decide +kernel, by decide +kernel⟩, List.mem_of_getElem? (i := 1048) (by decide +kernel), List.mem_of_getElem? (i := 1339) (by decide +kernel), List.mem_of_getElem? (i := 1340) (by decide +kernel)⟩
theorem lw_p66 : lw_okq (⟨"WinterShedModel", "idles", "()V"⟩, 48) := ⟨⟨by decide +kernel, by decide +kernel⟩, List.mem_of_getElem? (i := 1048) (by decide +kernel), List.mem_of_getElem? (i := 1343) (by decide +kernel), List.mem_of_getElem? (i := 1344) (by decide +kernel)⟩
theorem lw_p67 : lw_okq (⟨"WinterShedModel", "walks", "(I)V"⟩, 48) := ⟨⟨by decide +kernel, by decide +kernel⟩, List.mem_of_getElem? (i := 1048) (by decide +kernel), List.mem_of_getElem? (i := 1349) (by decide +kernel), List.mem_of_getElem? (i := 1350) (by decide +kernel)⟩
theorem lw_p68 : lw_okq (⟨"WinterShedModel", "nextCold", "(III)I"⟩, 48) := ⟨⟨by decide +kernel, by decide +kernel⟩, List.mem_of_getElem? (i := 1048) (by decide +kernel), List.mem_of_getElem? (i := 1353) (by decide +kernel), List.mem_of_getElem? (i := 1354) (by decide +kernel)⟩
theorem lw_p69 : lw_okq (⟨"WinterShedModel", "change", "(III)I"⟩, 48) := ⟨⟨by decide +kernel, by decide +kernel⟩, List.mem_of_getElem? (i := 1048) (by decide +kernel), List.mem_of_getElem? (i := 1357) (by decide +kernel), List.mem_of_getElem? (i := 1358) (by decide +kernel)⟩
theorem lw_p70 : lw_okq (⟨"WinterShedModel", "worked", "(II)I"⟩, 48) := ⟨⟨by decide +kernel, by decide +kernel⟩, List.mem_of_getElem? (i := 1048) (by decide +kernel), List.mem_of_getElem? (i := 1361) (by decide +kernel), List.mem_of_getElem? (i := 1362) (by decide +kernel)⟩
theorem lw_p71 : lw_okq (⟨"WinterShedModel", "metOn", "(II)I"⟩, 48) := ⟨⟨by decide +kernel, by decide +kernel⟩, List.mem_of_getElem? (i := 1048) (by decide +kernel), List.mem_of_getElem? (i := 1372) (by decide +kernel), List.mem_of_getElem? (i := 1373) (by decide +kernel)⟩
theorem lw_p72 : lw_okq (⟨"WinterShedModel", "harmOn", "(III)I"⟩, 48) := ⟨⟨by decide +kernel, by decide +kernel⟩, List.mem_of_getElem? (i := 1048) (by decide +kernel), List.mem_of_getElem? (i := 1376) (by decide +kernel), List.mem_of_getElem? (i := 1377) (by decide +kernel)⟩
theorem lw_p73 : lw_okq (⟨"WinterShedModel", "ownOf", "(II)I"⟩, 48) := ⟨⟨by decide +kernel, by decide +kernel⟩, List.mem_of_getElem? (i := 1048) (by decide +kernel), List.mem_of_getElem? (i := 1380) (by decide +kernel), List.mem_of_getElem? (i := 1381) (by decide +kernel)⟩
theorem lw_p74 : lw_okq (⟨"WinterShedModel", "allHarm", "(II)I"⟩, 48) := ⟨⟨by decide +kernel, by decide +kernel⟩, List.mem_of_getElem? (i := 1048) (by decide +kernel), List.mem_of_getElem? (i := 1384) (by decide +kernel), List.mem_of_getElem? (i := 1385) (by decide +kernel)⟩
theorem lw_p75 : lw_okq (⟨"WinterShedModel", "gainOf", "(I)I"⟩, 48) := ⟨⟨by decide +kernel, by decide +kernel⟩, List.mem_of_getElem? (i := 1048) (by decide +kernel), List.mem_of_getElem? (i := 1388) (by decide +kernel), List.mem_of_getElem? (i := 1389) (by decide +kernel)⟩
theorem lw_p76 : lw_okq (⟨"WinterShedModel", "tries", "(IIII)V"⟩, 48) := ⟨⟨by decide +kernel, by decide +kernel⟩, List.mem_of_getElem? (i := 1048) (by decide +kernel), List.mem_of_getElem? (i := 1405) (by decide +kernel), List.mem_of_getElem? (i := 1406) (by decide +kernel)⟩
theorem lw_p77 : lw_okq (⟨"WinterShedModel", "isWanted", "(II)Z"⟩, 48) := ⟨⟨by decide +kernel, by decide +kernel⟩, List.mem_of_getElem? (i := 1048) (by decide +kernel), List.mem_of_getElem? (i := 1409) (by decide +kernel), List.mem_of_getElem? (i := 1410) (by decide +kernel)⟩
theorem lw_p78 : lw_okq (⟨"WinterShedModel", "plansAll", "()V"⟩, 48) := ⟨⟨by decide +kernel, by decide +kernel⟩, List.mem_of_getElem? (i := 1048) (by decide +kernel), List.mem_of_getElem? (i := 1417) (by decide +kernel), List.mem_of_getElem? (i := 1418) (by decide +kernel)⟩
theorem lw_p79 : lw_okq (⟨"WinterShedModel", "firstUnmet", "()I"⟩, 48) := ⟨⟨by decide +kernel, by decide +kernel⟩, List.mem_of_getElem? (i := 1048) (by decide +kernel), List.mem_of_getElem? (i := 1421) (by decide +kernel), List.mem_of_getElem? (i := 1422) (by decide +kernel)⟩
def lw_privs_5 : List (MethodName × Nat) := [(⟨"WinterShedModel", "noRow", "(II)I"⟩, 48), (⟨"WinterShedModel", "reads", "(I)V"⟩, 48), (⟨"WinterShedModel", "idles", "()V"⟩, 48), (⟨"WinterShedModel", "walks", "(I)V"⟩, 48), (⟨"WinterShedModel", "nextCold", "(III)I"⟩, 48), (⟨"WinterShedModel", "change", "(III)I"⟩, 48), (⟨"WinterShedModel", "worked", "(II)I"⟩, 48), (⟨"WinterShedModel", "metOn", "(II)I"⟩, 48), (⟨"WinterShedModel", "harmOn", "(III)I"⟩, 48), (⟨"WinterShedModel", "ownOf", "(II)I"⟩, 48), (⟨"WinterShedModel", "allHarm", "(II)I"⟩, 48), (⟨"WinterShedModel", "gainOf", "(I)I"⟩, 48), (⟨"WinterShedModel", "tries", "(IIII)V"⟩, 48), (⟨"WinterShedModel", "isWanted", "(II)Z"⟩, 48), (⟨"WinterShedModel", "plansAll", "()V"⟩, 48), (⟨"WinterShedModel", "firstUnmet", "()I"⟩, 48)]
theorem lw_r5 : ∀ q ∈ lw_privs_5, lw_okq q := List.forall_mem_cons.mpr ⟨lw_p64, List.forall_mem_cons.mpr ⟨lw_p65, List.forall_mem_cons.mpr ⟨lw_p66, List.forall_mem_cons.mpr ⟨lw_p67, List.forall_mem_cons.mpr ⟨lw_p68, List.forall_mem_cons.mpr ⟨lw_p69, List.forall_mem_cons.mpr ⟨lw_p70, List.forall_mem_cons.mpr ⟨lw_p71, List.forall_mem_cons.mpr ⟨lw_p72, List.forall_mem_cons.mpr ⟨lw_p73, List.forall_mem_cons.mpr ⟨lw_p74, List.forall_mem_cons.mpr ⟨lw_p75, List.forall_mem_cons.mpr ⟨lw_p76, List.forall_mem_cons.mpr ⟨lw_p77, List.forall_mem_cons.mpr ⟨lw_p78, List.forall_mem_cons.mpr ⟨lw_p79, fun _ h => absurd h List.not_mem_nil⟩⟩⟩⟩⟩⟩⟩⟩⟩⟩⟩⟩⟩⟩⟩⟩
theorem lw_p80 : lw_okq (⟨"WinterShedModel", "yesOf", "(II)I"⟩, 48) := ⟨⟨by decide +kernel, by decide +kernel⟩, List.mem_of_getElem? (i := 1048) (by decide +kernel), List.mem_of_getElem? (i := 1432) (by decide +kernel), List.mem_of_getElem? (i := 1433) (by decide +kernel)⟩
theorem lw_p81 : lw_okq (⟨"WinterShedModel", "has", "(III)I"⟩, 48) := ⟨⟨by decide +kernel, by decide +kernel⟩, List.mem_of_getElem? (i := 1048) (by decide +kernel), List.mem_of_getElem? (i := 1436) (by decide +kernel), List.mem_of_getElem? (i := 1437) (by decide +kernel)⟩
theorem lw_p82 : lw_okq (⟨"WinterShedModel", "carries", "(I)Z"⟩, 48) := ⟨⟨by decide +kernel, by decide +kernel⟩, List.mem_of_getElem? (i := 1048) (by decide +kernel), List.mem_of_getElem? (i := 1440) (by decide +kernel), List.mem_of_getElem? (i := 1441) (by decide +kernel)⟩
theorem lw_p83 : lw_okq (⟨"WinterShedModel", "sold", "(II)I"⟩, 48) := ⟨⟨by decide +kernel, by decide +kernel⟩, List.mem_of_getElem? (i := 1048) (by decide +kernel), List.mem_of_getElem? (i := 1462) (by decide +kernel), List.mem_of_getElem? (i := 1463) (by decide +kernel)⟩
theorem lw_p84 : lw_okq (⟨"WinterShedModel", "unlike", "(II)I"⟩, 48) := ⟨⟨by decide +kernel, by decide +kernel⟩, List.mem_of_getElem? (i := 1048) (by decide +kernel), List.mem_of_getElem? (i := 1470) (by decide +kernel), List.mem_of_getElem? (i := 1471) (by decide +kernel)⟩
theorem lw_p85 : lw_okq (⟨"WinterShedModel", "turnFrom", "(IIIIII)I"⟩, 48) := ⟨⟨by decide +kernel, by decide +kernel⟩, List.mem_of_getElem? (i := 1048) (by decide +kernel), List.mem_of_getElem? (i := 1486) (by decide +kernel), List.mem_of_getElem? (i := 1487) (by decide +kernel)⟩
theorem lw_p86 : lw_okq (⟨"WinterShedModel", "doing", "(IIIIIII)I"⟩, 48) := ⟨⟨by decide +kernel, by decide +kernel⟩, List.mem_of_getElem? (i := 1048) (by decide +kernel), List.mem_of_getElem? (i := 1490) (by decide +kernel), List.mem_of_getElem? (i := 1491) (by decide +kernel)⟩
theorem lw_p87 : lw_okq (⟨"WinterShedModel", "letsBy", "(III)I"⟩, 48) := ⟨⟨by decide +kernel, by decide +kernel⟩, List.mem_of_getElem? (i := 1048) (by decide +kernel), List.mem_of_getElem? (i := 1531) (by decide +kernel), List.mem_of_getElem? (i := 1532) (by decide +kernel)⟩
theorem lw_p88 : lw_okq (⟨"WinterShedModel", "ran", "(I)V"⟩, 48) := ⟨⟨by decide +kernel, by decide +kernel⟩, List.mem_of_getElem? (i := 1048) (by decide +kernel), List.mem_of_getElem? (i := 1535) (by decide +kernel), List.mem_of_getElem? (i := 1536) (by decide +kernel)⟩
theorem lw_p89 : lw_okq (⟨"WinterShedModel", "growsBy", "(III)I"⟩, 48) := ⟨⟨by decide +kernel, by decide +kernel⟩, List.mem_of_getElem? (i := 1048) (by decide +kernel), List.mem_of_getElem? (i := 1542) (by decide +kernel), List.mem_of_getElem? (i := 1543) (by decide +kernel)⟩
theorem lw_p90 : lw_okq (⟨"WinterShedModel", "leaksBy", "(III)I"⟩, 48) := ⟨⟨by decide +kernel, by decide +kernel⟩, List.mem_of_getElem? (i := 1048) (by decide +kernel), List.mem_of_getElem? (i := 1546) (by decide +kernel), List.mem_of_getElem? (i := 1547) (by decide +kernel)⟩
theorem lw_p91 : lw_okq (⟨"WinterShedModel", "tells", "(III)I"⟩, 48) := ⟨⟨by decide +kernel, by decide +kernel⟩, List.mem_of_getElem? (i := 1048) (by decide +kernel), List.mem_of_getElem? (i := 1550) (by decide +kernel), List.mem_of_getElem? (i := 1551) (by decide +kernel)⟩
theorem lw_p92 : lw_okq (⟨"WinterShedModel", "isRow", "(I)Z"⟩, 48) := ⟨⟨by decide +kernel, by decide +kernel⟩, List.mem_of_getElem? (i := 1048) (by decide +kernel), List.mem_of_getElem? (i := 1570) (by decide +kernel), List.mem_of_getElem? (i := 1571) (by decide +kernel)⟩
def lw_privs_6 : List (MethodName × Nat) := [(⟨"WinterShedModel", "yesOf", "(II)I"⟩, 48), (⟨"WinterShedModel", "has", "(III)I"⟩, 48), (⟨"WinterShedModel", "carries", "(I)Z"⟩, 48), (⟨"WinterShedModel", "sold", "(II)I"⟩, 48), (⟨"WinterShedModel", "unlike", "(II)I"⟩, 48), (⟨"WinterShedModel", "turnFrom", "(IIIIII)I"⟩, 48), (⟨"WinterShedModel", "doing", "(IIIIIII)I"⟩, 48), (⟨"WinterShedModel", "letsBy", "(III)I"⟩, 48), (⟨"WinterShedModel", "ran", "(I)V"⟩, 48), (⟨"WinterShedModel", "growsBy", "(III)I"⟩, 48), (⟨"WinterShedModel", "leaksBy", "(III)I"⟩, 48), (⟨"WinterShedModel", "tells", "(III)I"⟩, 48), (⟨"WinterShedModel", "isRow", "(I)Z"⟩, 48)]
theorem lw_r6 : ∀ q ∈ lw_privs_6, lw_okq q := List.forall_mem_cons.mpr ⟨lw_p80, List.forall_mem_cons.mpr ⟨lw_p81, List.forall_mem_cons.mpr ⟨lw_p82, List.forall_mem_cons.mpr ⟨lw_p83, List.forall_mem_cons.mpr ⟨lw_p84, List.forall_mem_cons.mpr ⟨lw_p85, List.forall_mem_cons.mpr ⟨lw_p86, List.forall_mem_cons.mpr ⟨lw_p87, List.forall_mem_cons.mpr ⟨lw_p88, List.forall_mem_cons.mpr ⟨lw_p89, List.forall_mem_cons.mpr ⟨lw_p90, List.forall_mem_cons.mpr ⟨lw_p91, List.forall_mem_cons.mpr ⟨lw_p92, fun _ h => absurd h List.not_mem_nil⟩⟩⟩⟩⟩⟩⟩⟩⟩⟩⟩⟩⟩
def lw_privs : List (MethodName × Nat) := lw_privs_1 ++ (lw_privs_2 ++ (lw_privs_3 ++ (lw_privs_4 ++ (lw_privs_5 ++ (lw_privs_6)))))
def lw_tbl : List Cond := k2_sels lw_privs ++ tables_1
theorem lw_privs_ok : ∀ q ∈ lw_privs, lw_okq q := by
  show ∀ q ∈ lw_privs_1 ++ (lw_privs_2 ++ (lw_privs_3 ++ (lw_privs_4 ++ (lw_privs_5 ++ (lw_privs_6))))), lw_okq q
  exact List.forall_mem_append.mpr ⟨lw_r1, List.forall_mem_append.mpr ⟨lw_r2, List.forall_mem_append.mpr ⟨lw_r3, List.forall_mem_append.mpr ⟨lw_r4, List.forall_mem_append.mpr ⟨lw_r5, lw_r6⟩⟩⟩⟩⟩
theorem goodIn_r {big : List Cond} (ws : List Cond) (ps : List Nat) (hp : ws = ps.filterMap (fun i => big[i]?)) (h : ws.all goodWord = true) : GoodIn big ws := by
  intro w hw
  have h1 := List.all_eq_true.mp h w hw
  rw [hp] at hw
  obtain ⟨i, -, hi⟩ := List.mem_filterMap.mp hw
  have hm : w ∈ big := by first | exact List.mem_of_getElem? hi | exact List.getElem?_mem hi
  exact ⟨hm, good_of_word h1⟩
def RX0 : String := "WinterShed$Book"
def TX0 : u_T := fun k => match k with
  | 0 => ("WinterShed$Book", "days", "I", false)
  | 1 => ("WinterShed$Book", "hours", "I", false)
  | 2 => ("WinterShed$Book", "gain", "I", false)
  | 3 => ("WinterShed$Book", "harm", "I", false)
  | _ => ("WinterShed$Book", "gave", "I", false)
def tyX0 : Nat → FieldType := fun k => match k with
  | 0 => .int
  | 1 => .int
  | 2 => .int
  | 3 => .int
  | _ => .int
abbrev wsX00 : List Cond := u_ws RX0 TX0 5
theorem nmX0 : ∀ a, a < 5 → ∀ b, b < 5 → a ≠ b → (TX0 a).2.1 ≠ (TX0 b).2.1 := by decide +kernel
theorem tyX0_ok : ∀ k, k < 5 → parseFieldDescriptor (TX0 k).2.2.1 = some (tyX0 k) := by decide +kernel
abbrev cX0_init : ByteArray := prog_2_method_1_code
def yX0_init : MethodName := ⟨RX0, "<init>", "()V"⟩
abbrev cX0_takeFrom : ByteArray := prog_2_method_2_code
def yX0_takeFrom : MethodName := ⟨RX0, "takeFrom", "(LWinterShed$Book;)V"⟩
def RX1 : String := "WinterShed$Changes"
def TX1 : u_T := fun k => match k with
  | 0 => ("WinterShed$Changes", "numbers", "[I", true)
  | 1 => ("WinterShed$Changes", "whats", "[I", true)
  | 2 => ("WinterShed$Changes", "before", "[I", true)
  | 3 => ("WinterShed$Changes", "after", "[I", true)
  | 4 => ("WinterShed$Changes", "done", "I", false)
  | _ => ("WinterShed$Changes", "undone", "I", false)
def tyX1 : Nat → FieldType := fun k => match k with
  | 0 => .array .int
  | 1 => .array .int
  | 2 => .array .int
  | 3 => .array .int
  | 4 => .int
  | _ => .int
abbrev wsX10 : List Cond := u_ws RX1 TX1 6
theorem nmX1 : ∀ a, a < 6 → ∀ b, b < 6 → a ≠ b → (TX1 a).2.1 ≠ (TX1 b).2.1 := by decide +kernel
theorem tyX1_ok : ∀ k, k < 6 → parseFieldDescriptor (TX1 k).2.2.1 = some (tyX1 k) := by decide +kernel
abbrev cX1_init : ByteArray := prog_3_method_1_code
def yX1_init : MethodName := ⟨RX1, "<init>", "()V"⟩
abbrev cX1_remember : ByteArray := prog_3_method_2_code
def yX1_remember : MethodName := ⟨RX1, "remember", "(IIII)V"⟩
abbrev cX1_forgetOldest : ByteArray := prog_3_method_3_code
def yX1_forgetOldest : MethodName := ⟨RX1, "forgetOldest", "()V"⟩
abbrev cX1_stepBack : ByteArray := prog_3_method_4_code
def yX1_stepBack : MethodName := ⟨RX1, "stepBack", "()I"⟩
abbrev cX1_stepOn : ByteArray := prog_3_method_5_code
def yX1_stepOn : MethodName := ⟨RX1, "stepOn", "()I"⟩
def RX2 : String := "WinterShed$Frosts"
def TX2 : u_T := fun k => match k with
  | 0 => ("WinterShed$Frosts", "bodies", "I", false)
  | 1 => ("WinterShed$Frosts", "kinds", "[I", true)
  | 2 => ("WinterShed$Frosts", "trace", "[I", true)
  | 3 => ("WinterShed$Frosts", "ran", "I", false)
  | _ => ("WinterShed$Frosts", "self", "I", false)
def tyX2 : Nat → FieldType := fun k => match k with
  | 0 => .int
  | 1 => .array .int
  | 2 => .array .int
  | 3 => .int
  | _ => .int
abbrev wsX20 : List Cond := u_ws RX2 TX2 5
theorem nmX2 : ∀ a, a < 5 → ∀ b, b < 5 → a ≠ b → (TX2 a).2.1 ≠ (TX2 b).2.1 := by decide +kernel
theorem tyX2_ok : ∀ k, k < 5 → parseFieldDescriptor (TX2 k).2.2.1 = some (tyX2 k) := by decide +kernel
abbrev cX2_init : ByteArray := prog_4_method_1_code
def yX2_init : MethodName := ⟨RX2, "<init>", "()V"⟩
abbrev cX2_hasBody : ByteArray := prog_4_method_2_code
def yX2_hasBody : MethodName := ⟨RX2, "hasBody", "(I)Z"⟩
abbrev cX2_addBody : ByteArray := prog_4_method_3_code
def yX2_addBody : MethodName := ⟨RX2, "addBody", "(I)I"⟩
abbrev cX2_kindOf : ByteArray := prog_4_method_4_code
def yX2_kindOf : MethodName := ⟨RX2, "kindOf", "(I)I"⟩
abbrev cX2_isUnder : ByteArray := prog_4_method_5_code
def yX2_isUnder : MethodName := ⟨RX2, "isUnder", "(II)Z"⟩
abbrev cX2_kept : ByteArray := prog_4_method_6_code
def yX2_kept : MethodName := ⟨RX2, "kept", "()I"⟩
abbrev cX2_begin : ByteArray := prog_4_method_7_code
def yX2_begin : MethodName := ⟨RX2, "begin", "(III)I"⟩
abbrev cX2_own : ByteArray := prog_4_method_8_code
def yX2_own : MethodName := ⟨RX2, "own", "(III)I"⟩
abbrev cX2_above : ByteArray := prog_4_method_9_code
def yX2_above : MethodName := ⟨RX2, "above", "(IIII)I"⟩
abbrev cX2_from : ByteArray := prog_4_method_10_code
def yX2_from : MethodName := ⟨RX2, "from", "(IIII)I"⟩
abbrev cX2_perform : ByteArray := prog_4_method_11_code
def yX2_perform : MethodName := ⟨RX2, "perform", "(IIII)I"⟩
abbrev cX2_leaveTrace : ByteArray := prog_4_method_12_code
def yX2_leaveTrace : MethodName := ⟨RX2, "leaveTrace", "(I)V"⟩
def RX3 : String := "WinterShed$Law"
def TX3 : u_T := fun k => match k with
  | 0 => ("WinterShed$Law", "steps", "[I", true)
  | 1 => ("WinterShed$Law", "details", "[I", true)
  | 2 => ("WinterShed$Law", "size", "I", false)
  | 3 => ("WinterShed$Law", "stack", "[I", true)
  | 4 => ("WinterShed$Law", "top", "I", false)
  | 5 => ("WinterShed$Law", "named", "[I", true)
  | 6 => ("WinterShed$Law", "text", "[I", false)
  | 7 => ("WinterShed$Law", "length", "I", false)
  | _ => ("WinterShed$Law", "at", "I", false)
def tyX3 : Nat → FieldType := fun k => match k with
  | 0 => .array .int
  | 1 => .array .int
  | 2 => .int
  | 3 => .array .int
  | 4 => .int
  | 5 => .array .int
  | 6 => .array .int
  | 7 => .int
  | _ => .int
abbrev wsX30 : List Cond := u_ws RX3 TX3 9
theorem nmX3 : ∀ a, a < 9 → ∀ b, b < 9 → a ≠ b → (TX3 a).2.1 ≠ (TX3 b).2.1 := by decide +kernel
theorem tyX3_ok : ∀ k, k < 9 → parseFieldDescriptor (TX3 k).2.2.1 = some (tyX3 k) := by decide +kernel
abbrev cX3_init : ByteArray := prog_5_method_1_code
def yX3_init : MethodName := ⟨RX3, "<init>", "()V"⟩
abbrev cX3_overnight : ByteArray := prog_5_method_2_code
def yX3_overnight : MethodName := ⟨RX3, "overnight", "(LWinterShed$Shed;III)I"⟩
abbrev cX3_tellNames : ByteArray := prog_5_method_3_code
def yX3_tellNames : MethodName := ⟨RX3, "tellNames", "(LWinterShed$Shed;III)V"⟩
abbrev cX3_workOut : ByteArray := prog_5_method_4_code
def yX3_workOut : MethodName := ⟨RX3, "workOut", "()I"⟩
abbrev cX3_workStep : ByteArray := prog_5_method_5_code
def yX3_workStep : MethodName := ⟨RX3, "workStep", "(II)V"⟩
abbrev cX3_joined : ByteArray := prog_5_method_6_code
def yX3_joined : MethodName := ⟨RX3, "joined", "(III)I"⟩
abbrev cX3_push : ByteArray := prog_5_method_7_code
def yX3_push : MethodName := ⟨RX3, "push", "(I)V"⟩
abbrev cX3_pop : ByteArray := prog_5_method_8_code
def yX3_pop : MethodName := ⟨RX3, "pop", "()I"⟩
abbrev cX3_read : ByteArray := prog_5_method_9_code
def yX3_read : MethodName := ⟨RX3, "read", "([II)I"⟩
abbrev cX3_readText : ByteArray := prog_5_method_10_code
def yX3_readText : MethodName := ⟨RX3, "readText", "()Z"⟩
abbrev cX3_readLine : ByteArray := prog_5_method_11_code
def yX3_readLine : MethodName := ⟨RX3, "readLine", "()Z"⟩
abbrev cX3_readLevel : ByteArray := prog_5_method_12_code
def yX3_readLevel : MethodName := ⟨RX3, "readLevel", "(II)Z"⟩
abbrev cX3_joins : ByteArray := prog_5_method_13_code
def yX3_joins : MethodName := ⟨RX3, "joins", "(II)Z"⟩
abbrev cX3_readOperand : ByteArray := prog_5_method_14_code
def yX3_readOperand : MethodName := ⟨RX3, "readOperand", "(I)Z"⟩
abbrev cX3_readNumber : ByteArray := prog_5_method_15_code
def yX3_readNumber : MethodName := ⟨RX3, "readNumber", "()V"⟩
abbrev cX3_isDigit : ByteArray := prog_5_method_16_code
def yX3_isDigit : MethodName := ⟨RX3, "isDigit", "(I)Z"⟩
abbrev cX3_letter : ByteArray := prog_5_method_17_code
def yX3_letter : MethodName := ⟨RX3, "letter", "()I"⟩
abbrev cX3_skip : ByteArray := prog_5_method_18_code
def yX3_skip : MethodName := ⟨RX3, "skip", "(C)Z"⟩
abbrev cX3_addStep : ByteArray := prog_5_method_19_code
def yX3_addStep : MethodName := ⟨RX3, "addStep", "(II)V"⟩
def RX4 : String := "WinterShed$Search"
def TX4 : u_T := fun k => match k with
  | 0 => ("WinterShed$Search", "days", "I", false)
  | 1 => ("WinterShed$Search", "most", "I", false)
  | 2 => ("WinterShed$Search", "tried", "[I", true)
  | 3 => ("WinterShed$Search", "chosen", "[I", true)
  | 4 => ("WinterShed$Search", "found", "Z", false)
  | 5 => ("WinterShed$Search", "first", "I", false)
  | 6 => ("WinterShed$Search", "second", "I", false)
  | 7 => ("WinterShed$Search", "hours", "I", false)
  | _ => ("WinterShed$Search", "turns", "I", false)
def tyX4 : Nat → FieldType := fun k => match k with
  | 0 => .int
  | 1 => .int
  | 2 => .array .int
  | 3 => .array .int
  | 4 => .boolean
  | 5 => .int
  | 6 => .int
  | 7 => .int
  | _ => .int
abbrev wsX40 : List Cond := u_ws RX4 TX4 9
theorem nmX4 : ∀ a, a < 9 → ∀ b, b < 9 → a ≠ b → (TX4 a).2.1 ≠ (TX4 b).2.1 := by decide +kernel
theorem tyX4_ok : ∀ k, k < 9 → parseFieldDescriptor (TX4 k).2.2.1 = some (tyX4 k) := by decide +kernel
abbrev cX4_init : ByteArray := prog_6_method_1_code
def yX4_init : MethodName := ⟨RX4, "<init>", "()V"⟩
abbrev cX4_begin : ByteArray := prog_6_method_2_code
def yX4_begin : MethodName := ⟨RX4, "begin", "(I)V"⟩
abbrev cX4_offer : ByteArray := prog_6_method_3_code
def yX4_offer : MethodName := ⟨RX4, "offer", "(I)V"⟩
abbrev cX4_beginTurns : ByteArray := prog_6_method_4_code
def yX4_beginTurns : MethodName := ⟨RX4, "beginTurns", "(IIII)V"⟩
def RX5 : String := "WinterShed$Shed"
def TX5 : u_T := fun k => match k with
  | 0 => ("WinterShed$Shed", "cold", "I", false)
  | 1 => ("WinterShed$Shed", "bears", "I", false)
  | 2 => ("WinterShed$Shed", "grows", "I", false)
  | 3 => ("WinterShed$Shed", "leak", "I", false)
  | _ => ("WinterShed$Shed", "now", "I", false)
def tyX5 : Nat → FieldType := fun k => match k with
  | 0 => .int
  | 1 => .int
  | 2 => .int
  | 3 => .int
  | _ => .int
abbrev wsX50 : List Cond := u_ws RX5 TX5 5
theorem nmX5 : ∀ a, a < 5 → ∀ b, b < 5 → a ≠ b → (TX5 a).2.1 ≠ (TX5 b).2.1 := by decide +kernel
theorem tyX5_ok : ∀ k, k < 5 → parseFieldDescriptor (TX5 k).2.2.1 = some (tyX5 k) := by decide +kernel
abbrev cX5_init : ByteArray := prog_7_method_1_code
def yX5_init : MethodName := ⟨RX5, "<init>", "()V"⟩
abbrev cX5_takeFrom : ByteArray := prog_7_method_2_code
def yX5_takeFrom : MethodName := ⟨RX5, "takeFrom", "(LWinterShed$Shed;)V"⟩
abbrev cX5_givesAt : ByteArray := prog_7_method_3_code
def yX5_givesAt : MethodName := ⟨RX5, "givesAt", "(II)Z"⟩
abbrev cX5_atDawn : ByteArray := prog_7_method_4_code
def yX5_atDawn : MethodName := ⟨RX5, "atDawn", "(II)I"⟩
def RX6 : String := "WinterShed$Shelf"
def TX6 : u_T := fun k => match k with
  | 0 => ("WinterShed$Shelf", "holds", "I", false)
  | 1 => ("WinterShed$Shelf", "frost", "I", false)
  | 2 => ("WinterShed$Shelf", "sort", "I", false)
  | 3 => ("WinterShed$Shelf", "length", "I", false)
  | _ => ("WinterShed$Shelf", "cells", "[J", true)
def tyX6 : Nat → FieldType := fun k => match k with
  | 0 => .int
  | 1 => .int
  | 2 => .int
  | 3 => .int
  | _ => .array .long
abbrev wsX60 : List Cond := u_ws RX6 TX6 5
theorem nmX6 : ∀ a, a < 5 → ∀ b, b < 5 → a ≠ b → (TX6 a).2.1 ≠ (TX6 b).2.1 := by decide +kernel
theorem tyX6_ok : ∀ k, k < 5 → parseFieldDescriptor (TX6 k).2.2.1 = some (tyX6 k) := by decide +kernel
abbrev cX6_init : ByteArray := prog_8_method_1_code
def yX6_init : MethodName := ⟨RX6, "<init>", "()V"⟩
abbrev cX6_becomeRow : ByteArray := prog_8_method_2_code
def yX6_becomeRow : MethodName := ⟨RX6, "becomeRow", "(II)V"⟩
abbrev cX6_isRowOf : ByteArray := prog_8_method_3_code
def yX6_isRowOf : MethodName := ⟨RX6, "isRowOf", "(I)Z"⟩
abbrev cX6_hasPlaces : ByteArray := prog_8_method_4_code
def yX6_hasPlaces : MethodName := ⟨RX6, "hasPlaces", "(II)Z"⟩
def RX7 : String := "WinterShed$Thought"
def TX7 : u_T := fun k => match k with
  | 0 => ("WinterShed$Thought", "asked", "[I", true)
  | 1 => ("WinterShed$Thought", "colds", "[I", true)
  | 2 => ("WinterShed$Thought", "hours", "[I", true)
  | 3 => ("WinterShed$Thought", "gives", "I", false)
  | 4 => ("WinterShed$Thought", "harm", "I", false)
  | 5 => ("WinterShed$Thought", "summersGiven", "I", false)
  | 6 => ("WinterShed$Thought", "z", "I", false)
  | _ => ("WinterShed$Thought", "open", "I", false)
def tyX7 : Nat → FieldType := fun k => match k with
  | 0 => .array .int
  | 1 => .array .int
  | 2 => .array .int
  | 3 => .int
  | 4 => .int
  | 5 => .int
  | 6 => .int
  | _ => .int
abbrev wsX70 : List Cond := u_ws RX7 TX7 8
theorem nmX7 : ∀ a, a < 8 → ∀ b, b < 8 → a ≠ b → (TX7 a).2.1 ≠ (TX7 b).2.1 := by decide +kernel
theorem tyX7_ok : ∀ k, k < 8 → parseFieldDescriptor (TX7 k).2.2.1 = some (tyX7 k) := by decide +kernel
abbrev cX7_init : ByteArray := prog_9_method_1_code
def yX7_init : MethodName := ⟨RX7, "<init>", "()V"⟩
abbrev cX7_askNothing : ByteArray := prog_9_method_2_code
def yX7_askNothing : MethodName := ⟨RX7, "askNothing", "()V"⟩
abbrev cX7_askRow : ByteArray := prog_9_method_3_code
def yX7_askRow : MethodName := ⟨RX7, "askRow", "(LWinterShed$Shelf;I)V"⟩
abbrev cX7_askGreatest : ByteArray := prog_9_method_4_code
def yX7_askGreatest : MethodName := ⟨RX7, "askGreatest", "(LWinterShed$Village;)V"⟩
abbrev cX7_walk : ByteArray := prog_9_method_5_code
def yX7_walk : MethodName := ⟨RX7, "walk", "(LWinterShed$Shed;LWinterShed$Law;)V"⟩
abbrev cX7_beginDraws : ByteArray := prog_9_method_6_code
def yX7_beginDraws : MethodName := ⟨RX7, "beginDraws", "(II)V"⟩
abbrev cX7_drawHours : ByteArray := prog_9_method_7_code
def yX7_drawHours : MethodName := ⟨RX7, "drawHours", "(I)I"⟩
def RX8 : String := "WinterShed$Village"
def TX8 : u_T := fun k => match k with
  | 0 => ("WinterShed$Village", "farms", "I", false)
  | 1 => ("WinterShed$Village", "bees", "[I", true)
  | 2 => ("WinterShed$Village", "voices", "[I", true)
  | 3 => ("WinterShed$Village", "wants", "I", false)
  | 4 => ("WinterShed$Village", "farmOf", "[I", true)
  | 5 => ("WinterShed$Village", "dayOf", "[I", true)
  | 6 => ("WinterShed$Village", "hoursOf", "[I", true)
  | _ => ("WinterShed$Village", "gainOf", "[I", true)
def tyX8 : Nat → FieldType := fun k => match k with
  | 0 => .int
  | 1 => .array .int
  | 2 => .array .int
  | 3 => .int
  | 4 => .array .int
  | 5 => .array .int
  | 6 => .array .int
  | _ => .array .int
abbrev wsX80 : List Cond := u_ws RX8 TX8 8
theorem nmX8 : ∀ a, a < 8 → ∀ b, b < 8 → a ≠ b → (TX8 a).2.1 ≠ (TX8 b).2.1 := by decide +kernel
theorem tyX8_ok : ∀ k, k < 8 → parseFieldDescriptor (TX8 k).2.2.1 = some (tyX8 k) := by decide +kernel
abbrev cX8_init : ByteArray := prog_10_method_1_code
def yX8_init : MethodName := ⟨RX8, "<init>", "()V"⟩
abbrev cX8_hasFarm : ByteArray := prog_10_method_2_code
def yX8_hasFarm : MethodName := ⟨RX8, "hasFarm", "(I)Z"⟩
abbrev cX8_hasWant : ByteArray := prog_10_method_3_code
def yX8_hasWant : MethodName := ⟨RX8, "hasWant", "(I)Z"⟩
abbrev cX8_addFarm : ByteArray := prog_10_method_4_code
def yX8_addFarm : MethodName := ⟨RX8, "addFarm", "(I)I"⟩
abbrev cX8_mayWant : ByteArray := prog_10_method_5_code
def yX8_mayWant : MethodName := ⟨RX8, "mayWant", "(IIII)Z"⟩
abbrev cX8_addWant : ByteArray := prog_10_method_6_code
def yX8_addWant : MethodName := ⟨RX8, "addWant", "(IIII)I"⟩
abbrev cX8_isMet : ByteArray := prog_10_method_7_code
def yX8_isMet : MethodName := ⟨RX8, "isMet", "(III)Z"⟩
abbrev cX8_met : ByteArray := prog_10_method_8_code
def yX8_met : MethodName := ⟨RX8, "met", "(II)I"⟩
abbrev cX8_gain : ByteArray := prog_10_method_9_code
def yX8_gain : MethodName := ⟨RX8, "gain", "(II)I"⟩
abbrev cX8_harm : ByteArray := prog_10_method_10_code
def yX8_harm : MethodName := ⟨RX8, "harm", "(III)I"⟩
abbrev cX8_harmOfAll : ByteArray := prog_10_method_11_code
def yX8_harmOfAll : MethodName := ⟨RX8, "harmOfAll", "(II)I"⟩
abbrev cX8_share : ByteArray := prog_10_method_12_code
def yX8_share : MethodName := ⟨RX8, "share", "(III)I"⟩
abbrev cX8_wantsExactly : ByteArray := prog_10_method_13_code
def yX8_wantsExactly : MethodName := ⟨RX8, "wantsExactly", "(II)Z"⟩
abbrev cX8_greatest : ByteArray := prog_10_method_14_code
def yX8_greatest : MethodName := ⟨RX8, "greatest", "(I)I"⟩
abbrev cX8_greatestWorth : ByteArray := prog_10_method_15_code
def yX8_greatestWorth : MethodName := ⟨RX8, "greatestWorth", "(II)I"⟩
abbrev cX8_voicesOf : ByteArray := prog_10_method_16_code
def yX8_voicesOf : MethodName := ⟨RX8, "voicesOf", "(I)I"⟩
abbrev cX8_carries : ByteArray := prog_10_method_17_code
def yX8_carries : MethodName := ⟨RX8, "carries", "(I)Z"⟩
abbrev cX8_sayYes : ByteArray := prog_10_method_18_code
def yX8_sayYes : MethodName := ⟨RX8, "sayYes", "(II)I"⟩
abbrev cX8_prefer : ByteArray := prog_10_method_19_code
def yX8_prefer : MethodName := ⟨RX8, "prefer", "(III)I"⟩
abbrev cX8_swing : ByteArray := prog_10_method_20_code
def yX8_swing : MethodName := ⟨RX8, "swing", "(I)I"⟩
abbrev cX8_decides : ByteArray := prog_10_method_21_code
def yX8_decides : MethodName := ⟨RX8, "decides", "(I)I"⟩
def RX9 : String := "WinterShed"
def TX9 : u_T := fun k => match k with
  | 0 => ("WinterShed", "village", "LWinterShed$Village;", true)
  | 1 => ("WinterShed", "shed", "LWinterShed$Shed;", true)
  | 2 => ("WinterShed", "guess", "LWinterShed$Shed;", true)
  | 3 => ("WinterShed", "thought", "LWinterShed$Thought;", true)
  | 4 => ("WinterShed", "search", "LWinterShed$Search;", true)
  | 5 => ("WinterShed", "tape", "[I", true)
  | 6 => ("WinterShed", "taped", "I", false)
  | 7 => ("WinterShed", "law", "LWinterShed$Law;", false)
  | 8 => ("WinterShed", "spareLaw", "LWinterShed$Law;", false)
  | 9 => ("WinterShed", "book", "LWinterShed$Book;", true)
  | 10 => ("WinterShed", "imageBook", "LWinterShed$Book;", true)
  | 11 => ("WinterShed", "imageShed", "LWinterShed$Shed;", true)
  | 12 => ("WinterShed", "hasImage", "Z", false)
  | 13 => ("WinterShed", "changes", "LWinterShed$Changes;", true)
  | 14 => ("WinterShed", "frosts", "LWinterShed$Frosts;", true)
  | _ => ("WinterShed", "shelves", "[LWinterShed$Shelf;", true)
def tyX9 : Nat → FieldType := fun k => match k with
  | 0 => .object "WinterShed$Village"
  | 1 => .object "WinterShed$Shed"
  | 2 => .object "WinterShed$Shed"
  | 3 => .object "WinterShed$Thought"
  | 4 => .object "WinterShed$Search"
  | 5 => .array .int
  | 6 => .int
  | 7 => .object "WinterShed$Law"
  | 8 => .object "WinterShed$Law"
  | 9 => .object "WinterShed$Book"
  | 10 => .object "WinterShed$Book"
  | 11 => .object "WinterShed$Shed"
  | 12 => .boolean
  | 13 => .object "WinterShed$Changes"
  | 14 => .object "WinterShed$Frosts"
  | _ => .array (.object "WinterShed$Shelf")
abbrev wsX90 : List Cond := u_ws RX9 TX9 16
theorem nmX9 : ∀ a, a < 16 → ∀ b, b < 16 → a ≠ b → (TX9 a).2.1 ≠ (TX9 b).2.1 := by decide +kernel
theorem tyX9_ok : ∀ k, k < 16 → parseFieldDescriptor (TX9 k).2.2.1 = some (tyX9 k) := by decide +kernel
abbrev cX9_init : ByteArray := prog_1_method_1_code
def yX9_init : MethodName := ⟨RX9, "<init>", "()V"⟩
abbrev cX9_farm : ByteArray := prog_1_method_2_code
def yX9_farm : MethodName := ⟨RX9, "farm", "(I)I"⟩
abbrev cX9_want : ByteArray := prog_1_method_3_code
def yX9_want : MethodName := ⟨RX9, "want", "(II)I"⟩
abbrev cX9_wants : ByteArray := prog_1_method_4_code
def yX9_wants : MethodName := ⟨RX9, "wants", "(III)I"⟩
abbrev cX9_mend : ByteArray := prog_1_method_5_code
def yX9_mend : MethodName := ⟨RX9, "mend", "(III)I"⟩
abbrev cX9_of : ByteArray := prog_1_method_6_code
def yX9_of : MethodName := ⟨RX9, "of", "(II)I"⟩
abbrev cX9_feed : ByteArray := prog_1_method_7_code
def yX9_feed : MethodName := ⟨RX9, "feed", "(I)I"⟩
abbrev cX9_law : ByteArray := prog_1_method_8_code
def yX9_law : MethodName := ⟨RX9, "law", "()I"⟩
abbrev cX9_cold : ByteArray := prog_1_method_9_code
def yX9_cold : MethodName := ⟨RX9, "cold", "(II)I"⟩
abbrev cX9_plan : ByteArray := prog_1_method_10_code
def yX9_plan : MethodName := ⟨RX9, "plan", "(III)I"⟩
abbrev cX9_gives : ByteArray := prog_1_method_11_code
def yX9_gives : MethodName := ⟨RX9, "gives", "(II)I"⟩
abbrev cX9_idle : ByteArray := prog_1_method_12_code
def yX9_idle : MethodName := ⟨RX9, "idle", "(I)I"⟩
abbrev cX9_best : ByteArray := prog_1_method_13_code
def yX9_best : MethodName := ⟨RX9, "best", "(II)I"⟩
abbrev cX9_all : ByteArray := prog_1_method_14_code
def yX9_all : MethodName := ⟨RX9, "all", "(I)I"⟩
abbrev cX9_vote : ByteArray := prog_1_method_15_code
def yX9_vote : MethodName := ⟨RX9, "vote", "(II)I"⟩
abbrev cX9_most : ByteArray := prog_1_method_16_code
def yX9_most : MethodName := ⟨RX9, "most", "(I)I"⟩
abbrev cX9_power : ByteArray := prog_1_method_17_code
def yX9_power : MethodName := ⟨RX9, "power", "(II)J"⟩
abbrev cX9_agenda : ByteArray := prog_1_method_18_code
def yX9_agenda : MethodName := ⟨RX9, "agenda", "(II)I"⟩
abbrev cX9_price : ByteArray := prog_1_method_19_code
def yX9_price : MethodName := ⟨RX9, "price", "(II)I"⟩
abbrev cX9_judge : ByteArray := prog_1_method_20_code
def yX9_judge : MethodName := ⟨RX9, "judge", "(I)I"⟩
abbrev cX9_knock : ByteArray := prog_1_method_21_code
def yX9_knock : MethodName := ⟨RX9, "knock", "(II)I"⟩
abbrev cX9_bore : ByteArray := prog_1_method_22_code
def yX9_bore : MethodName := ⟨RX9, "bore", "(II)I"⟩
abbrev cX9_byTurns : ByteArray := prog_1_method_23_code
def yX9_byTurns : MethodName := ⟨RX9, "byTurns", "(III)I"⟩
abbrev cX9_drawn : ByteArray := prog_1_method_24_code
def yX9_drawn : MethodName := ⟨RX9, "drawn", "(IIII)I"⟩
abbrev cX9_pass : ByteArray := prog_1_method_25_code
def yX9_pass : MethodName := ⟨RX9, "pass", "(I)I"⟩
abbrev cX9_bring : ByteArray := prog_1_method_26_code
def yX9_bring : MethodName := ⟨RX9, "bring", "(I)I"⟩
abbrev cX9_boards : ByteArray := prog_1_method_27_code
def yX9_boards : MethodName := ⟨RX9, "boards", "()I"⟩
abbrev cX9_led : ByteArray := prog_1_method_28_code
def yX9_led : MethodName := ⟨RX9, "led", "(I)I"⟩
abbrev cX9_image : ByteArray := prog_1_method_29_code
def yX9_image : MethodName := ⟨RX9, "image", "()I"⟩
abbrev cX9_back : ByteArray := prog_1_method_30_code
def yX9_back : MethodName := ⟨RX9, "back", "()I"⟩
abbrev cX9_undo : ByteArray := prog_1_method_31_code
def yX9_undo : MethodName := ⟨RX9, "undo", "()I"⟩
abbrev cX9_redo : ByteArray := prog_1_method_32_code
def yX9_redo : MethodName := ⟨RX9, "redo", "()I"⟩
abbrev cX9_body : ByteArray := prog_1_method_33_code
def yX9_body : MethodName := ⟨RX9, "body", "(I)I"⟩
abbrev cX9_act : ByteArray := prog_1_method_34_code
def yX9_act : MethodName := ⟨RX9, "act", "(III)I"⟩
abbrev cX9_trace : ByteArray := prog_1_method_35_code
def yX9_trace : MethodName := ⟨RX9, "trace", "(I)I"⟩
abbrev cX9_keep : ByteArray := prog_1_method_36_code
def yX9_keep : MethodName := ⟨RX9, "keep", "(II)I"⟩
abbrev cX9_row : ByteArray := prog_1_method_37_code
def yX9_row : MethodName := ⟨RX9, "row", "(III)I"⟩
abbrev cX9_put : ByteArray := prog_1_method_38_code
def yX9_put : MethodName := ⟨RX9, "put", "(IIJ)I"⟩
abbrev cX9_element : ByteArray := prog_1_method_39_code
def yX9_element : MethodName := ⟨RX9, "element", "(II)J"⟩
abbrev cX9_shift : ByteArray := prog_1_method_40_code
def yX9_shift : MethodName := ⟨RX9, "shift", "(IIIII)I"⟩
abbrev cX9_taken : ByteArray := prog_1_method_41_code
def yX9_taken : MethodName := ⟨RX9, "taken", "(II)I"⟩
abbrev cX9_count : ByteArray := prog_1_method_42_code
def yX9_count : MethodName := ⟨RX9, "count", "(I)I"⟩
abbrev cX9_within : ByteArray := prog_1_method_43_code
def yX9_within : MethodName := ⟨RX9, "within", "(III)Z"⟩
abbrev cX9_isNumber : ByteArray := prog_1_method_44_code
def yX9_isNumber : MethodName := ⟨RX9, "isNumber", "(II)Z"⟩
abbrev cX9_valueOf : ByteArray := prog_1_method_45_code
def yX9_valueOf : MethodName := ⟨RX9, "valueOf", "(II)I"⟩
abbrev cX9_setValue : ByteArray := prog_1_method_46_code
def yX9_setValue : MethodName := ⟨RX9, "setValue", "(III)V"⟩
abbrev cX9_wantsFromRow : ByteArray := prog_1_method_47_code
def yX9_wantsFromRow : MethodName := ⟨RX9, "wantsFromRow", "(LWinterShed$Shelf;II)I"⟩
abbrev cX9_thinkPlan : ByteArray := prog_1_method_48_code
def yX9_thinkPlan : MethodName := ⟨RX9, "thinkPlan", "(I)I"⟩
abbrev cX9_metTo : ByteArray := prog_1_method_49_code
def yX9_metTo : MethodName := ⟨RX9, "metTo", "(I)I"⟩
abbrev cX9_sumTo : ByteArray := prog_1_method_50_code
def yX9_sumTo : MethodName := ⟨RX9, "sumTo", "(II)I"⟩
abbrev cX9_firstWithoutCold : ByteArray := prog_1_method_51_code
def yX9_firstWithoutCold : MethodName := ⟨RX9, "firstWithoutCold", "()I"⟩
abbrev cX9_tryDay : ByteArray := prog_1_method_52_code
def yX9_tryDay : MethodName := ⟨RX9, "tryDay", "(III)V"⟩
abbrev cX9_firstUnmet : ByteArray := prog_1_method_53_code
def yX9_firstUnmet : MethodName := ⟨RX9, "firstUnmet", "()I"⟩
abbrev cX9_leastCold : ByteArray := prog_1_method_54_code
def yX9_leastCold : MethodName := ⟨RX9, "leastCold", "()I"⟩
abbrev cX9_meetsAllFrom : ByteArray := prog_1_method_55_code
def yX9_meetsAllFrom : MethodName := ⟨RX9, "meetsAllFrom", "(I)Z"⟩
abbrev cX9_commonDivisor : ByteArray := prog_1_method_56_code
def yX9_commonDivisor : MethodName := ⟨RX9, "commonDivisor", "(II)I"⟩
abbrev cX9_sold : ByteArray := prog_1_method_57_code
def yX9_sold : MethodName := ⟨RX9, "sold", "(II)I"⟩
abbrev cX9_bestPrice : ByteArray := prog_1_method_58_code
def yX9_bestPrice : MethodName := ⟨RX9, "bestPrice", "(I)I"⟩
abbrev cX9_firstUnlike : ByteArray := prog_1_method_59_code
def yX9_firstUnlike : MethodName := ⟨RX9, "firstUnlike", "(LWinterShed$Shelf;LWinterShed$Shed;)I"⟩
abbrev cX9_howMuch : ByteArray := prog_1_method_60_code
def yX9_howMuch : MethodName := ⟨RX9, "howMuch", "(LWinterShed$Shelf;Z)I"⟩
abbrev cX9_howFast : ByteArray := prog_1_method_61_code
def yX9_howFast : MethodName := ⟨RX9, "howFast", "(LWinterShed$Shelf;Z)I"⟩
abbrev cX9_givesFirstOn : ByteArray := prog_1_method_62_code
def yX9_givesFirstOn : MethodName := ⟨RX9, "givesFirstOn", "(I)Z"⟩
abbrev cX9_afterTurn : ByteArray := prog_1_method_63_code
def yX9_afterTurn : MethodName := ⟨RX9, "afterTurn", "(III)I"⟩
abbrev cX9_drawSummer : ByteArray := prog_1_method_64_code
def yX9_drawSummer : MethodName := ⟨RX9, "drawSummer", "(I)V"⟩
abbrev cX9_shelfAt : ByteArray := prog_1_method_65_code
def yX9_shelfAt : MethodName := ⟨RX9, "shelfAt", "(I)LWinterShed$Shelf;"⟩
abbrev cX9_refuseRow : ByteArray := prog_1_method_66_code
def yX9_refuseRow : MethodName := ⟨RX9, "refuseRow", "(II)I"⟩
abbrev cX9_refusePlace : ByteArray := prog_1_method_67_code
def yX9_refusePlace : MethodName := ⟨RX9, "refusePlace", "(II)I"⟩
abbrev cX9_lowestBits : ByteArray := prog_1_method_68_code
def yX9_lowestBits : MethodName := ⟨RX9, "lowestBits", "(IJ)J"⟩
def RX10 : String := "WinterShedModel"
def TX10 : u_T := fun k => match k with
  | 0 => ("WinterShedModel", "farms", "I", false)
  | 1 => ("WinterShedModel", "bees", "[I", true)
  | 2 => ("WinterShedModel", "voices", "[I", true)
  | 3 => ("WinterShedModel", "asked", "I", false)
  | 4 => ("WinterShedModel", "whose", "[I", true)
  | 5 => ("WinterShedModel", "onDay", "[I", true)
  | 6 => ("WinterShedModel", "hours", "[I", true)
  | 7 => ("WinterShedModel", "gain", "[I", true)
  | 8 => ("WinterShedModel", "ways", "[I", true)
  | 9 => ("WinterShedModel", "taped", "I", false)
  | 10 => ("WinterShedModel", "tape", "[I", true)
  | 11 => ("WinterShedModel", "isTold", "Z", false)
  | 12 => ("WinterShedModel", "lines", "I", false)
  | 13 => ("WinterShedModel", "asks", "[I", true)
  | 14 => ("WinterShedModel", "says", "[I", true)
  | 15 => ("WinterShedModel", "ends", "[I", true)
  | 16 => ("WinterShedModel", "code", "[I", true)
  | 17 => ("WinterShedModel", "at", "I", false)
  | 18 => ("WinterShedModel", "open", "I", false)
  | 19 => ("WinterShedModel", "coded", "I", false)
  | 20 => ("WinterShedModel", "newLines", "I", false)
  | 21 => ("WinterShedModel", "newAsks", "[I", true)
  | 22 => ("WinterShedModel", "newSays", "[I", true)
  | 23 => ("WinterShedModel", "newEnds", "[I", true)
  | 24 => ("WinterShedModel", "newCode", "[I", true)
  | 25 => ("WinterShedModel", "stack", "[I", true)
  | 26 => ("WinterShedModel", "names", "[I", true)
  | 27 => ("WinterShedModel", "led", "[I", true)
  | 28 => ("WinterShedModel", "imaged", "Z", false)
  | 29 => ("WinterShedModel", "old", "[I", true)
  | 30 => ("WinterShedModel", "changes", "I", false)
  | 31 => ("WinterShedModel", "done", "I", false)
  | 32 => ("WinterShedModel", "changed", "[I", true)
  | 33 => ("WinterShedModel", "bodies", "I", false)
  | 34 => ("WinterShedModel", "kind", "[I", true)
  | 35 => ("WinterShedModel", "traced", "I", false)
  | 36 => ("WinterShedModel", "traces", "[I", true)
  | 37 => ("WinterShedModel", "holding", "[I", true)
  | 38 => ("WinterShedModel", "rowLength", "[I", true)
  | 39 => ("WinterShedModel", "rowOf", "[J", true)
  | 40 => ("WinterShedModel", "planned", "[I", true)
  | 41 => ("WinterShedModel", "begun", "[I", true)
  | 42 => ("WinterShedModel", "out", "[I", true)
  | 43 => ("WinterShedModel", "gaveOn", "I", false)
  | 44 => ("WinterShedModel", "bestMuch", "I", false)
  | 45 => ("WinterShedModel", "found", "Z", false)
  | 46 => ("WinterShedModel", "tried", "[I", true)
  | _ => ("WinterShedModel", "bestHours", "[I", true)
def tyX10 : Nat → FieldType := fun k => match k with
  | 0 => .int
  | 1 => .array .int
  | 2 => .array .int
  | 3 => .int
  | 4 => .array .int
  | 5 => .array .int
  | 6 => .array .int
  | 7 => .array .int
  | 8 => .array .int
  | 9 => .int
  | 10 => .array .int
  | 11 => .boolean
  | 12 => .int
  | 13 => .array .int
  | 14 => .array .int
  | 15 => .array .int
  | 16 => .array .int
  | 17 => .int
  | 18 => .int
  | 19 => .int
  | 20 => .int
  | 21 => .array .int
  | 22 => .array .int
  | 23 => .array .int
  | 24 => .array .int
  | 25 => .array .int
  | 26 => .array .int
  | 27 => .array .int
  | 28 => .boolean
  | 29 => .array .int
  | 30 => .int
  | 31 => .int
  | 32 => .array .int
  | 33 => .int
  | 34 => .array .int
  | 35 => .int
  | 36 => .array .int
  | 37 => .array .int
  | 38 => .array .int
  | 39 => .array .long
  | 40 => .array .int
  | 41 => .array .int
  | 42 => .array .int
  | 43 => .int
  | 44 => .int
  | 45 => .boolean
  | 46 => .array .int
  | _ => .array .int
abbrev wsX100 : List Cond := u_ws RX10 TX10 48
theorem nmX10 : ∀ a, a < 48 → ∀ b, b < 48 → a ≠ b → (TX10 a).2.1 ≠ (TX10 b).2.1 := by decide +kernel
theorem tyX10_ok : ∀ k, k < 48 → parseFieldDescriptor (TX10 k).2.2.1 = some (tyX10 k) := by decide +kernel
abbrev cX10_init : ByteArray := prog_12_method_1_code
def yX10_init : MethodName := ⟨RX10, "<init>", "()V"⟩
abbrev cX10_within : ByteArray := prog_12_method_2_code
def yX10_within : MethodName := ⟨RX10, "within", "(III)Z"⟩
abbrev cX10_isFarm : ByteArray := prog_12_method_3_code
def yX10_isFarm : MethodName := ⟨RX10, "isFarm", "(I)Z"⟩
abbrev cX10_isWant : ByteArray := prog_12_method_4_code
def yX10_isWant : MethodName := ⟨RX10, "isWant", "(I)Z"⟩
abbrev cX10_isDay : ByteArray := prog_12_method_5_code
def yX10_isDay : MethodName := ⟨RX10, "isDay", "(I)Z"⟩
abbrev cX10_isShelf : ByteArray := prog_12_method_6_code
def yX10_isShelf : MethodName := ⟨RX10, "isShelf", "(I)Z"⟩
abbrev cX10_farm : ByteArray := prog_12_method_7_code
def yX10_farm : MethodName := ⟨RX10, "farm", "(I)I"⟩
abbrev cX10_isSuch : ByteArray := prog_12_method_8_code
def yX10_isSuch : MethodName := ⟨RX10, "isSuch", "(IIII)Z"⟩
abbrev cX10_newWant : ByteArray := prog_12_method_9_code
def yX10_newWant : MethodName := ⟨RX10, "newWant", "(IIII)I"⟩
abbrev cX10_want : ByteArray := prog_12_method_10_code
def yX10_want : MethodName := ⟨RX10, "want", "(II)I"⟩
abbrev cX10_wants : ByteArray := prog_12_method_11_code
def yX10_wants : MethodName := ⟨RX10, "wants", "(III)I"⟩
abbrev cX10_toldAt : ByteArray := prog_12_method_12_code
def yX10_toldAt : MethodName := ⟨RX10, "toldAt", "(II)I"⟩
abbrev cX10_isOf : ByteArray := prog_12_method_13_code
def yX10_isOf : MethodName := ⟨RX10, "isOf", "(II)Z"⟩
abbrev cX10_isFit : ByteArray := prog_12_method_14_code
def yX10_isFit : MethodName := ⟨RX10, "isFit", "(II)Z"⟩
abbrev cX10_get : ByteArray := prog_12_method_15_code
def yX10_get : MethodName := ⟨RX10, "get", "(II)I"⟩
abbrev cX10_becomes : ByteArray := prog_12_method_16_code
def yX10_becomes : MethodName := ⟨RX10, "becomes", "(III)V"⟩
abbrev cX10_mend : ByteArray := prog_12_method_17_code
def yX10_mend : MethodName := ⟨RX10, "mend", "(III)I"⟩
abbrev cX10_of : ByteArray := prog_12_method_18_code
def yX10_of : MethodName := ⟨RX10, "of", "(II)I"⟩
abbrev cX10_undo : ByteArray := prog_12_method_19_code
def yX10_undo : MethodName := ⟨RX10, "undo", "()I"⟩
abbrev cX10_redo : ByteArray := prog_12_method_20_code
def yX10_redo : MethodName := ⟨RX10, "redo", "()I"⟩
abbrev cX10_feed : ByteArray := prog_12_method_21_code
def yX10_feed : MethodName := ⟨RX10, "feed", "(I)I"⟩
abbrev cX10_sign : ByteArray := prog_12_method_22_code
def yX10_sign : MethodName := ⟨RX10, "sign", "()I"⟩
abbrev cX10_is : ByteArray := prog_12_method_23_code
def yX10_is : MethodName := ⟨RX10, "is", "(I)Z"⟩
abbrev cX10_codes : ByteArray := prog_12_method_24_code
def yX10_codes : MethodName := ⟨RX10, "codes", "(I)Z"⟩
abbrev cX10_isDigit : ByteArray := prog_12_method_25_code
def yX10_isDigit : MethodName := ⟨RX10, "isDigit", "()Z"⟩
abbrev cX10_nameOf : ByteArray := prog_12_method_26_code
def yX10_nameOf : MethodName := ⟨RX10, "nameOf", "(I)I"⟩
abbrev cX10_isO : ByteArray := prog_12_method_27_code
def yX10_isO : MethodName := ⟨RX10, "isO", "()Z"⟩
abbrev cX10_isP : ByteArray := prog_12_method_28_code
def yX10_isP : MethodName := ⟨RX10, "isP", "()Z"⟩
abbrev cX10_isS : ByteArray := prog_12_method_29_code
def yX10_isS : MethodName := ⟨RX10, "isS", "()Z"⟩
abbrev cX10_isB : ByteArray := prog_12_method_30_code
def yX10_isB : MethodName := ⟨RX10, "isB", "()Z"⟩
abbrev cX10_isA : ByteArray := prog_12_method_31_code
def yX10_isA : MethodName := ⟨RX10, "isA", "()Z"⟩
abbrev cX10_isE : ByteArray := prog_12_method_32_code
def yX10_isE : MethodName := ⟨RX10, "isE", "()Z"⟩
abbrev cX10_isLine : ByteArray := prog_12_method_33_code
def yX10_isLine : MethodName := ⟨RX10, "isLine", "()Z"⟩
abbrev cX10_law : ByteArray := prog_12_method_34_code
def yX10_law : MethodName := ⟨RX10, "law", "()I"⟩
abbrev cX10_both : ByteArray := prog_12_method_35_code
def yX10_both : MethodName := ⟨RX10, "both", "(III)I"⟩
abbrev cX10_worked : ByteArray := prog_12_method_36_code
def yX10_worked : MethodName := ⟨RX10, "worked", "(II)I"⟩
abbrev cX10_change : ByteArray := prog_12_method_37_code
def yX10_change : MethodName := ⟨RX10, "change", "(III)I"⟩
abbrev cX10_nextCold : ByteArray := prog_12_method_38_code
def yX10_nextCold : MethodName := ⟨RX10, "nextCold", "(III)I"⟩
abbrev cX10_noRow : ByteArray := prog_12_method_39_code
def yX10_noRow : MethodName := ⟨RX10, "noRow", "(II)I"⟩
abbrev cX10_now : ByteArray := prog_12_method_40_code
def yX10_now : MethodName := ⟨RX10, "now", "()I"⟩
abbrev cX10_idles : ByteArray := prog_12_method_41_code
def yX10_idles : MethodName := ⟨RX10, "idles", "()V"⟩
abbrev cX10_reads : ByteArray := prog_12_method_42_code
def yX10_reads : MethodName := ⟨RX10, "reads", "(I)V"⟩
abbrev cX10_walks : ByteArray := prog_12_method_43_code
def yX10_walks : MethodName := ⟨RX10, "walks", "(I)V"⟩
abbrev cX10_metOn : ByteArray := prog_12_method_44_code
def yX10_metOn : MethodName := ⟨RX10, "metOn", "(II)I"⟩
abbrev cX10_gainOf : ByteArray := prog_12_method_45_code
def yX10_gainOf : MethodName := ⟨RX10, "gainOf", "(I)I"⟩
abbrev cX10_ownOf : ByteArray := prog_12_method_46_code
def yX10_ownOf : MethodName := ⟨RX10, "ownOf", "(II)I"⟩
abbrev cX10_harmOn : ByteArray := prog_12_method_47_code
def yX10_harmOn : MethodName := ⟨RX10, "harmOn", "(III)I"⟩
abbrev cX10_allHarm : ByteArray := prog_12_method_48_code
def yX10_allHarm : MethodName := ⟨RX10, "allHarm", "(II)I"⟩
abbrev cX10_has : ByteArray := prog_12_method_49_code
def yX10_has : MethodName := ⟨RX10, "has", "(III)I"⟩
abbrev cX10_cold : ByteArray := prog_12_method_50_code
def yX10_cold : MethodName := ⟨RX10, "cold", "(II)I"⟩
abbrev cX10_plan : ByteArray := prog_12_method_51_code
def yX10_plan : MethodName := ⟨RX10, "plan", "(III)I"⟩
abbrev cX10_gives : ByteArray := prog_12_method_52_code
def yX10_gives : MethodName := ⟨RX10, "gives", "(II)I"⟩
abbrev cX10_idle : ByteArray := prog_12_method_53_code
def yX10_idle : MethodName := ⟨RX10, "idle", "(I)I"⟩
abbrev cX10_tries : ByteArray := prog_12_method_54_code
def yX10_tries : MethodName := ⟨RX10, "tries", "(IIII)V"⟩
abbrev cX10_isWanted : ByteArray := prog_12_method_55_code
def yX10_isWanted : MethodName := ⟨RX10, "isWanted", "(II)Z"⟩
abbrev cX10_best : ByteArray := prog_12_method_56_code
def yX10_best : MethodName := ⟨RX10, "best", "(II)I"⟩
abbrev cX10_plansAll : ByteArray := prog_12_method_57_code
def yX10_plansAll : MethodName := ⟨RX10, "plansAll", "()V"⟩
abbrev cX10_firstUnmet : ByteArray := prog_12_method_58_code
def yX10_firstUnmet : MethodName := ⟨RX10, "firstUnmet", "()I"⟩
abbrev cX10_all : ByteArray := prog_12_method_59_code
def yX10_all : MethodName := ⟨RX10, "all", "(I)I"⟩
abbrev cX10_isHours : ByteArray := prog_12_method_60_code
def yX10_isHours : MethodName := ⟨RX10, "isHours", "(I)Z"⟩
abbrev cX10_yesOf : ByteArray := prog_12_method_61_code
def yX10_yesOf : MethodName := ⟨RX10, "yesOf", "(II)I"⟩
abbrev cX10_carries : ByteArray := prog_12_method_62_code
def yX10_carries : MethodName := ⟨RX10, "carries", "(I)Z"⟩
abbrev cX10_vote : ByteArray := prog_12_method_63_code
def yX10_vote : MethodName := ⟨RX10, "vote", "(II)I"⟩
abbrev cX10_most : ByteArray := prog_12_method_64_code
def yX10_most : MethodName := ⟨RX10, "most", "(I)I"⟩
abbrev cX10_power : ByteArray := prog_12_method_65_code
def yX10_power : MethodName := ⟨RX10, "power", "(II)J"⟩
abbrev cX10_agenda : ByteArray := prog_12_method_66_code
def yX10_agenda : MethodName := ⟨RX10, "agenda", "(II)I"⟩
abbrev cX10_sold : ByteArray := prog_12_method_67_code
def yX10_sold : MethodName := ⟨RX10, "sold", "(II)I"⟩
abbrev cX10_price : ByteArray := prog_12_method_68_code
def yX10_price : MethodName := ⟨RX10, "price", "(II)I"⟩
abbrev cX10_unlike : ByteArray := prog_12_method_69_code
def yX10_unlike : MethodName := ⟨RX10, "unlike", "(II)I"⟩
abbrev cX10_judge : ByteArray := prog_12_method_70_code
def yX10_judge : MethodName := ⟨RX10, "judge", "(I)I"⟩
abbrev cX10_knock : ByteArray := prog_12_method_71_code
def yX10_knock : MethodName := ⟨RX10, "knock", "(II)I"⟩
abbrev cX10_bore : ByteArray := prog_12_method_72_code
def yX10_bore : MethodName := ⟨RX10, "bore", "(II)I"⟩
abbrev cX10_turnFrom : ByteArray := prog_12_method_73_code
def yX10_turnFrom : MethodName := ⟨RX10, "turnFrom", "(IIIIII)I"⟩
abbrev cX10_doing : ByteArray := prog_12_method_74_code
def yX10_doing : MethodName := ⟨RX10, "doing", "(IIIIIII)I"⟩
abbrev cX10_byTurns : ByteArray := prog_12_method_75_code
def yX10_byTurns : MethodName := ⟨RX10, "byTurns", "(III)I"⟩
abbrev cX10_drawn : ByteArray := prog_12_method_76_code
def yX10_drawn : MethodName := ⟨RX10, "drawn", "(IIII)I"⟩
abbrev cX10_pass : ByteArray := prog_12_method_77_code
def yX10_pass : MethodName := ⟨RX10, "pass", "(I)I"⟩
abbrev cX10_bring : ByteArray := prog_12_method_78_code
def yX10_bring : MethodName := ⟨RX10, "bring", "(I)I"⟩
abbrev cX10_boards : ByteArray := prog_12_method_79_code
def yX10_boards : MethodName := ⟨RX10, "boards", "()I"⟩
abbrev cX10_led : ByteArray := prog_12_method_80_code
def yX10_led : MethodName := ⟨RX10, "led", "(I)I"⟩
abbrev cX10_image : ByteArray := prog_12_method_81_code
def yX10_image : MethodName := ⟨RX10, "image", "()I"⟩
abbrev cX10_back : ByteArray := prog_12_method_82_code
def yX10_back : MethodName := ⟨RX10, "back", "()I"⟩
abbrev cX10_above : ByteArray := prog_12_method_83_code
def yX10_above : MethodName := ⟨RX10, "above", "(I)I"⟩
abbrev cX10_ran : ByteArray := prog_12_method_84_code
def yX10_ran : MethodName := ⟨RX10, "ran", "(I)V"⟩
abbrev cX10_letsBy : ByteArray := prog_12_method_85_code
def yX10_letsBy : MethodName := ⟨RX10, "letsBy", "(III)I"⟩
abbrev cX10_growsBy : ByteArray := prog_12_method_86_code
def yX10_growsBy : MethodName := ⟨RX10, "growsBy", "(III)I"⟩
abbrev cX10_leaksBy : ByteArray := prog_12_method_87_code
def yX10_leaksBy : MethodName := ⟨RX10, "leaksBy", "(III)I"⟩
abbrev cX10_tells : ByteArray := prog_12_method_88_code
def yX10_tells : MethodName := ⟨RX10, "tells", "(III)I"⟩
abbrev cX10_body : ByteArray := prog_12_method_89_code
def yX10_body : MethodName := ⟨RX10, "body", "(I)I"⟩
abbrev cX10_act : ByteArray := prog_12_method_90_code
def yX10_act : MethodName := ⟨RX10, "act", "(III)I"⟩
abbrev cX10_trace : ByteArray := prog_12_method_91_code
def yX10_trace : MethodName := ⟨RX10, "trace", "(I)I"⟩
abbrev cX10_keep : ByteArray := prog_12_method_92_code
def yX10_keep : MethodName := ⟨RX10, "keep", "(II)I"⟩
abbrev cX10_row : ByteArray := prog_12_method_93_code
def yX10_row : MethodName := ⟨RX10, "row", "(III)I"⟩
abbrev cX10_isRow : ByteArray := prog_12_method_94_code
def yX10_isRow : MethodName := ⟨RX10, "isRow", "(I)Z"⟩
abbrev cX10_kept : ByteArray := prog_12_method_95_code
def yX10_kept : MethodName := ⟨RX10, "kept", "(IJ)J"⟩
abbrev cX10_put : ByteArray := prog_12_method_96_code
def yX10_put : MethodName := ⟨RX10, "put", "(IIJ)I"⟩
abbrev cX10_element : ByteArray := prog_12_method_97_code
def yX10_element : MethodName := ⟨RX10, "element", "(II)J"⟩
abbrev cX10_shift : ByteArray := prog_12_method_98_code
def yX10_shift : MethodName := ⟨RX10, "shift", "(IIIII)I"⟩
abbrev cX10_taken : ByteArray := prog_12_method_99_code
def yX10_taken : MethodName := ⟨RX10, "taken", "(II)I"⟩
abbrev cX10_count : ByteArray := prog_12_method_100_code
def yX10_count : MethodName := ⟨RX10, "count", "(I)I"⟩
def RJx145de : String := "java/io/Serializable"
def TJx145de : u_T := fun k => match k with
  | _ => ("", "", "", false)
def tyJx145de : Nat → FieldType := fun k => match k with
  | _ => .int
abbrev wsJx145de0 : List Cond := u_ws RJx145de TJx145de 0
theorem nmJx145de : ∀ a, a < 0 → ∀ b, b < 0 → a ≠ b → (TJx145de a).2.1 ≠ (TJx145de b).2.1 := by decide +kernel
theorem tyJx145de_ok : ∀ k, k < 0 → parseFieldDescriptor (TJx145de k).2.2.1 = some (tyJx145de k) := by decide +kernel
def RJx9f9b0 : String := "java/lang/CharSequence"
def TJx9f9b0 : u_T := fun k => match k with
  | _ => ("", "", "", false)
def tyJx9f9b0 : Nat → FieldType := fun k => match k with
  | _ => .int
abbrev wsJx9f9b00 : List Cond := u_ws RJx9f9b0 TJx9f9b0 0
theorem nmJx9f9b0 : ∀ a, a < 0 → ∀ b, b < 0 → a ≠ b → (TJx9f9b0 a).2.1 ≠ (TJx9f9b0 b).2.1 := by decide +kernel
theorem tyJx9f9b0_ok : ∀ k, k < 0 → parseFieldDescriptor (TJx9f9b0 k).2.2.1 = some (tyJx9f9b0 k) := by decide +kernel
def RJ11 : String := "java/lang/Character"
def TJ11 : u_T := fun k => match k with
  | _ => ("", "", "", false)
def tyJ11 : Nat → FieldType := fun k => match k with
  | _ => .int
abbrev wsJ110 : List Cond := u_ws RJ11 TJ11 0
theorem nmJ11 : ∀ a, a < 0 → ∀ b, b < 0 → a ≠ b → (TJ11 a).2.1 ≠ (TJ11 b).2.1 := by decide +kernel
theorem tyJ11_ok : ∀ k, k < 0 → parseFieldDescriptor (TJ11 k).2.2.1 = some (tyJ11 k) := by decide +kernel
abbrev cJ11_isValidCodePoint_9a6ad : ByteArray := prog_13_method_11_code
def yJ11_isValidCodePoint_9a6ad : MethodName := ⟨RJ11, "isValidCodePoint", "(I)Z"⟩
abbrev cJ11_highSurrogate_5068e : ByteArray := prog_13_method_28_code
def yJ11_highSurrogate_5068e : MethodName := ⟨RJ11, "highSurrogate", "(I)C"⟩
abbrev cJ11_lowSurrogate_5068e : ByteArray := prog_13_method_29_code
def yJ11_lowSurrogate_5068e : MethodName := ⟨RJ11, "lowSurrogate", "(I)C"⟩
def RJxb160c : String := "java/lang/Comparable"
def TJxb160c : u_T := fun k => match k with
  | _ => ("", "", "", false)
def tyJxb160c : Nat → FieldType := fun k => match k with
  | _ => .int
abbrev wsJxb160c0 : List Cond := u_ws RJxb160c TJxb160c 0
theorem nmJxb160c : ∀ a, a < 0 → ∀ b, b < 0 → a ≠ b → (TJxb160c a).2.1 ≠ (TJxb160c b).2.1 := by decide +kernel
theorem tyJxb160c_ok : ∀ k, k < 0 → parseFieldDescriptor (TJxb160c k).2.2.1 = some (tyJxb160c k) := by decide +kernel
def RJ9 : String := "java/lang/Math"
def TJ9 : u_T := fun k => match k with
  | _ => ("", "", "", false)
def tyJ9 : Nat → FieldType := fun k => match k with
  | _ => .int
abbrev wsJ90 : List Cond := u_ws RJ9 TJ9 0
theorem nmJ9 : ∀ a, a < 0 → ∀ b, b < 0 → a ≠ b → (TJ9 a).2.1 ≠ (TJ9 b).2.1 := by decide +kernel
theorem tyJ9_ok : ∀ k, k < 0 → parseFieldDescriptor (TJ9 k).2.2.1 = some (tyJ9 k) := by decide +kernel
abbrev cJ9_max_7cf53 : ByteArray := prog_14_method_65_code
def yJ9_max_7cf53 : MethodName := ⟨RJ9, "max", "(II)I"⟩
abbrev cJ9_min_7cf53 : ByteArray := prog_14_method_69_code
def yJ9_min_7cf53 : MethodName := ⟨RJ9, "min", "(II)I"⟩
def RJ0 : String := "java/lang/String"
def TJ0 : u_T := fun k => match k with
  | _ => ("", "", "", false)
def tyJ0 : Nat → FieldType := fun k => match k with
  | _ => .int
abbrev wsJ00 : List Cond := u_ws RJ0 TJ0 0
theorem nmJ0 : ∀ a, a < 0 → ∀ b, b < 0 → a ≠ b → (TJ0 a).2.1 ≠ (TJ0 b).2.1 := by decide +kernel
theorem tyJ0_ok : ∀ k, k < 0 → parseFieldDescriptor (TJ0 k).2.2.1 = some (tyJ0 k) := by decide +kernel
abbrev cJ0_length_8abf5 : ByteArray := prog_15_method_54_code
def yJ0_length_8abf5 : MethodName := ⟨RJ0, "length", "()I"⟩
abbrev cJ0_indexOf_0f7a4 : ByteArray := prog_15_method_79_code
def yJ0_indexOf_0f7a4 : MethodName := ⟨RJ0, "indexOf", "(I)I"⟩
abbrev cJ0_indexOf_7cf53 : ByteArray := prog_15_method_80_code
def yJ0_indexOf_7cf53 : MethodName := ⟨RJ0, "indexOf", "(II)I"⟩
abbrev cJ0_coder_7d493 : ByteArray := prog_15_method_152_code
def yJ0_coder_7d493 : MethodName := ⟨RJ0, "coder", "()B"⟩
abbrev cJ0_isLatin1_aae02 : ByteArray := prog_15_method_154_code
def yJ0_isLatin1_aae02 : MethodName := ⟨RJ0, "isLatin1", "()Z"⟩
abbrev cJ0_checkBoundsBeginEnd_23922 : ByteArray := prog_15_method_158_code
def yJ0_checkBoundsBeginEnd_23922 : MethodName := ⟨RJ0, "checkBoundsBeginEnd", "(III)V"⟩
def RJ1 : String := "java/lang/StringLatin1"
def TJ1 : u_T := fun k => match k with
  | _ => ("", "", "", false)
def tyJ1 : Nat → FieldType := fun k => match k with
  | _ => .int
abbrev wsJ10 : List Cond := u_ws RJ1 TJ1 0
theorem nmJ1 : ∀ a, a < 0 → ∀ b, b < 0 → a ≠ b → (TJ1 a).2.1 ≠ (TJ1 b).2.1 := by decide +kernel
theorem tyJ1_ok : ∀ k, k < 0 → parseFieldDescriptor (TJ1 k).2.2.1 = some (tyJ1 k) := by decide +kernel
abbrev cJ1_canEncode_9a6ad : ByteArray := prog_16_method_4_code
def yJ1_canEncode_9a6ad : MethodName := ⟨RJ1, "canEncode", "(I)Z"⟩
abbrev cJ1_indexOf_4cfef : ByteArray := prog_16_method_22_code
def yJ1_indexOf_4cfef : MethodName := ⟨RJ1, "indexOf", "([BIII)I"⟩
abbrev cJ1_indexOfChar_4cfef : ByteArray := prog_16_method_23_code
def yJ1_indexOfChar_4cfef : MethodName := ⟨RJ1, "indexOfChar", "([BIII)I"⟩
def RJ2 : String := "java/lang/StringUTF16"
def TJ2 : u_T := fun k => match k with
  | _ => ("", "", "", false)
def tyJ2 : Nat → FieldType := fun k => match k with
  | _ => .int
abbrev wsJ20 : List Cond := u_ws RJ2 TJ2 0
theorem nmJ2 : ∀ a, a < 0 → ∀ b, b < 0 → a ≠ b → (TJ2 a).2.1 ≠ (TJ2 b).2.1 := by decide +kernel
theorem tyJ2_ok : ∀ k, k < 0 → parseFieldDescriptor (TJ2 k).2.2.1 = some (tyJ2 k) := by decide +kernel
abbrev cJ2_getChar_3b067 : ByteArray := prog_17_method_5_code
def yJ2_getChar_3b067 : MethodName := ⟨RJ2, "getChar", "([BI)C"⟩
abbrev cJ2_length_9d52b : ByteArray := prog_17_method_6_code
def yJ2_length_9d52b : MethodName := ⟨RJ2, "length", "([B)I"⟩
abbrev cJ2_indexOf_4cfef : ByteArray := prog_17_method_40_code
def yJ2_indexOf_4cfef : MethodName := ⟨RJ2, "indexOf", "([BIII)I"⟩
abbrev cJ2_indexOfChar_4cfef : ByteArray := prog_17_method_47_code
def yJ2_indexOfChar_4cfef : MethodName := ⟨RJ2, "indexOfChar", "([BIII)I"⟩
abbrev cJ2_indexOfCharUnsafe_4cfef : ByteArray := prog_17_method_48_code
def yJ2_indexOfCharUnsafe_4cfef : MethodName := ⟨RJ2, "indexOfCharUnsafe", "([BIII)I"⟩
abbrev cJ2_indexOfSupplementary_4cfef : ByteArray := prog_17_method_49_code
def yJ2_indexOfSupplementary_4cfef : MethodName := ⟨RJ2, "indexOfSupplementary", "([BIII)I"⟩
abbrev cJ2_checkBoundsBeginEnd_d044e : ByteArray := prog_17_method_93_code
def yJ2_checkBoundsBeginEnd_d044e : MethodName := ⟨RJ2, "checkBoundsBeginEnd", "(II[B)V"⟩
def RJ10 : String := "java/lang/System"
def TJ10 : u_T := fun k => match k with
  | _ => ("", "", "", false)
def tyJ10 : Nat → FieldType := fun k => match k with
  | _ => .int
abbrev wsJ100 : List Cond := u_ws RJ10 TJ10 0
theorem nmJ10 : ∀ a, a < 0 → ∀ b, b < 0 → a ≠ b → (TJ10 a).2.1 ≠ (TJ10 b).2.1 := by decide +kernel
theorem tyJ10_ok : ∀ k, k < 0 → parseFieldDescriptor (TJ10 k).2.2.1 = some (tyJ10 k) := by decide +kernel
def RJxfd54e : String := "java/lang/constant/Constable"
def TJxfd54e : u_T := fun k => match k with
  | _ => ("", "", "", false)
def tyJxfd54e : Nat → FieldType := fun k => match k with
  | _ => .int
abbrev wsJxfd54e0 : List Cond := u_ws RJxfd54e TJxfd54e 0
theorem nmJxfd54e : ∀ a, a < 0 → ∀ b, b < 0 → a ≠ b → (TJxfd54e a).2.1 ≠ (TJxfd54e b).2.1 := by decide +kernel
theorem tyJxfd54e_ok : ∀ k, k < 0 → parseFieldDescriptor (TJxfd54e k).2.2.1 = some (tyJxfd54e k) := by decide +kernel
def RJx3cf43 : String := "java/lang/constant/ConstantDesc"
def TJx3cf43 : u_T := fun k => match k with
  | _ => ("", "", "", false)
def tyJx3cf43 : Nat → FieldType := fun k => match k with
  | _ => .int
abbrev wsJx3cf430 : List Cond := u_ws RJx3cf43 TJx3cf43 0
theorem nmJx3cf43 : ∀ a, a < 0 → ∀ b, b < 0 → a ≠ b → (TJx3cf43 a).2.1 ≠ (TJx3cf43 b).2.1 := by decide +kernel
theorem tyJx3cf43_ok : ∀ k, k < 0 → parseFieldDescriptor (TJx3cf43 k).2.2.1 = some (tyJx3cf43 k) := by decide +kernel
def RJ7 : String := "java/util/Arrays"
def TJ7 : u_T := fun k => match k with
  | _ => ("", "", "", false)
def tyJ7 : Nat → FieldType := fun k => match k with
  | _ => .int
abbrev wsJ70 : List Cond := u_ws RJ7 TJ7 0
theorem nmJ7 : ∀ a, a < 0 → ∀ b, b < 0 → a ≠ b → (TJ7 a).2.1 ≠ (TJ7 b).2.1 := by decide +kernel
theorem tyJ7_ok : ∀ k, k < 0 → parseFieldDescriptor (TJ7 k).2.2.1 = some (tyJ7 k) := by decide +kernel
abbrev cJ7_fill_d0a16 : ByteArray := prog_19_method_101_code
def yJ7_fill_d0a16 : MethodName := ⟨RJ7, "fill", "([JJ)V"⟩
abbrev cJ7_fill_53178 : ByteArray := prog_19_method_103_code
def yJ7_fill_53178 : MethodName := ⟨RJ7, "fill", "([II)V"⟩
def RJ3 : String := "jdk/internal/util/Preconditions"
def TJ3 : u_T := fun k => match k with
  | _ => ("", "", "", false)
def tyJ3 : Nat → FieldType := fun k => match k with
  | _ => .int
abbrev wsJ30 : List Cond := u_ws RJ3 TJ3 0
theorem nmJ3 : ∀ a, a < 0 → ∀ b, b < 0 → a ≠ b → (TJ3 a).2.1 ≠ (TJ3 b).2.1 := by decide +kernel
theorem tyJ3_ok : ∀ k, k < 0 → parseFieldDescriptor (TJ3 k).2.2.1 = some (tyJ3 k) := by decide +kernel
abbrev cJ3_checkFromToIndex_8c36e : ByteArray := prog_20_method_12_code
def yJ3_checkFromToIndex_8c36e : MethodName := ⟨RJ3, "checkFromToIndex", "(IIILjava/util/function/BiFunction;)I"⟩
def RL : String := "WinterShedLaw"
abbrev cL_law : ByteArray := code
def yL_law : MethodName := ⟨RL, "law", "([I)Z"⟩
abbrev vwCl : List vw_C := [(RX0, TX0, 5), (RX1, TX1, 6), (RX2, TX2, 5), (RX3, TX3, 9), (RX4, TX4, 9), (RX5, TX5, 5), (RX6, TX6, 5), (RX7, TX7, 8), (RX8, TX8, 8), (RX9, TX9, 16), (RX10, TX10, 48)]
