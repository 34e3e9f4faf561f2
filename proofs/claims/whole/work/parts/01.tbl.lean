-- ===== PART A: goes FIRST, ahead of the names: the tables' words, and 'selects' of the private methods out of them =====
/-- a private method of a class that the tables say can be made, by its rows of tables_1 -/
def lw_okq (q : MethodName × Nat) : Prop := (q.1.cls ≠ "java/lang/invoke/MethodHandle" ∧ q.1.cls ≠ "java/lang/invoke/VarHandle") ∧ Cond.instantiable q.1.cls q.2 ∈ tables_1 ∧ Cond.privateMethod q.1 ∈ tables_1 ∧ Cond.instanceMethod q.1 ∈ tables_1
theorem lw_p0 : lw_okq (⟨"ShadowPool", "putOnTape", "(I)V"⟩, 16) := ⟨⟨by decide +kernel, by decide +kernel⟩, List.mem_of_getElem? (i := 26) (by decide +kernel), List.mem_of_getElem? (i := 620) (by decide +kernel), List.mem_of_getElem? (i := 621) (by decide +kernel)⟩
theorem lw_p1 : lw_okq (⟨"ShadowPool$Scanner", "isLetter", "(I)Z"⟩, 8) := ⟨⟨by decide +kernel, by decide +kernel⟩, List.mem_of_getElem? (i := 40) (by decide +kernel), List.mem_of_getElem? (i := 651) (by decide +kernel), List.mem_of_getElem? (i := 652) (by decide +kernel)⟩
theorem lw_p2 : lw_okq (⟨"ShadowPool$Scanner", "readWord", "()V"⟩, 8) := ⟨⟨by decide +kernel, by decide +kernel⟩, List.mem_of_getElem? (i := 40) (by decide +kernel), List.mem_of_getElem? (i := 655) (by decide +kernel), List.mem_of_getElem? (i := 656) (by decide +kernel)⟩
theorem lw_p3 : lw_okq (⟨"ShadowPool$Scanner", "isDigit", "(I)Z"⟩, 8) := ⟨⟨by decide +kernel, by decide +kernel⟩, List.mem_of_getElem? (i := 40) (by decide +kernel), List.mem_of_getElem? (i := 659) (by decide +kernel), List.mem_of_getElem? (i := 660) (by decide +kernel)⟩
theorem lw_p4 : lw_okq (⟨"ShadowPool$Scanner", "readNumber", "()V"⟩, 8) := ⟨⟨by decide +kernel, by decide +kernel⟩, List.mem_of_getElem? (i := 40) (by decide +kernel), List.mem_of_getElem? (i := 663) (by decide +kernel), List.mem_of_getElem? (i := 664) (by decide +kernel)⟩
theorem lw_p5 : lw_okq (⟨"ShadowPool$Scanner", "readSign", "(I)V"⟩, 8) := ⟨⟨by decide +kernel, by decide +kernel⟩, List.mem_of_getElem? (i := 40) (by decide +kernel), List.mem_of_getElem? (i := 668) (by decide +kernel), List.mem_of_getElem? (i := 669) (by decide +kernel)⟩
theorem lw_p6 : lw_okq (⟨"ShadowPool$Scanner", "isSign", "(IC)Z"⟩, 8) := ⟨⟨by decide +kernel, by decide +kernel⟩, List.mem_of_getElem? (i := 40) (by decide +kernel), List.mem_of_getElem? (i := 672) (by decide +kernel), List.mem_of_getElem? (i := 673) (by decide +kernel)⟩
theorem lw_p7 : lw_okq (⟨"ShadowPool$Reader", "readLine", "()Z"⟩, 14) := ⟨⟨by decide +kernel, by decide +kernel⟩, List.mem_of_getElem? (i := 34) (by decide +kernel), List.mem_of_getElem? (i := 676) (by decide +kernel), List.mem_of_getElem? (i := 677) (by decide +kernel)⟩
theorem lw_p8 : lw_okq (⟨"ShadowPool$Reader", "readThing", "()Z"⟩, 14) := ⟨⟨by decide +kernel, by decide +kernel⟩, List.mem_of_getElem? (i := 34) (by decide +kernel), List.mem_of_getElem? (i := 680) (by decide +kernel), List.mem_of_getElem? (i := 681) (by decide +kernel)⟩
theorem lw_p9 : lw_okq (⟨"ShadowPool$Reader", "fail", "(I)Z"⟩, 14) := ⟨⟨by decide +kernel, by decide +kernel⟩, List.mem_of_getElem? (i := 34) (by decide +kernel), List.mem_of_getElem? (i := 684) (by decide +kernel), List.mem_of_getElem? (i := 685) (by decide +kernel)⟩
theorem lw_p10 : lw_okq (⟨"ShadowPool$Reader", "takeNumber", "(II)Z"⟩, 14) := ⟨⟨by decide +kernel, by decide +kernel⟩, List.mem_of_getElem? (i := 34) (by decide +kernel), List.mem_of_getElem? (i := 693) (by decide +kernel), List.mem_of_getElem? (i := 694) (by decide +kernel)⟩
theorem lw_p11 : lw_okq (⟨"ShadowPool$Reader", "takeHow", "()I"⟩, 14) := ⟨⟨by decide +kernel, by decide +kernel⟩, List.mem_of_getElem? (i := 34) (by decide +kernel), List.mem_of_getElem? (i := 704) (by decide +kernel), List.mem_of_getElem? (i := 705) (by decide +kernel)⟩
theorem lw_p12 : lw_okq (⟨"ShadowPool$Reader", "readLamp", "()Z"⟩, 14) := ⟨⟨by decide +kernel, by decide +kernel⟩, List.mem_of_getElem? (i := 34) (by decide +kernel), List.mem_of_getElem? (i := 708) (by decide +kernel), List.mem_of_getElem? (i := 709) (by decide +kernel)⟩
theorem lw_p13 : lw_okq (⟨"ShadowPool$Reader", "readMeeting", "()Z"⟩, 14) := ⟨⟨by decide +kernel, by decide +kernel⟩, List.mem_of_getElem? (i := 34) (by decide +kernel), List.mem_of_getElem? (i := 712) (by decide +kernel), List.mem_of_getElem? (i := 713) (by decide +kernel)⟩
theorem lw_p14 : lw_okq (⟨"ShadowPool$Reader", "findThing", "()Z"⟩, 14) := ⟨⟨by decide +kernel, by decide +kernel⟩, List.mem_of_getElem? (i := 34) (by decide +kernel), List.mem_of_getElem? (i := 716) (by decide +kernel), List.mem_of_getElem? (i := 717) (by decide +kernel)⟩
theorem lw_p15 : lw_okq (⟨"ShadowPool$Reader", "readRule", "()Z"⟩, 14) := ⟨⟨by decide +kernel, by decide +kernel⟩, List.mem_of_getElem? (i := 34) (by decide +kernel), List.mem_of_getElem? (i := 727) (by decide +kernel), List.mem_of_getElem? (i := 728) (by decide +kernel)⟩
def lw_privs_1 : List (MethodName × Nat) := [(⟨"ShadowPool", "putOnTape", "(I)V"⟩, 16), (⟨"ShadowPool$Scanner", "isLetter", "(I)Z"⟩, 8), (⟨"ShadowPool$Scanner", "readWord", "()V"⟩, 8), (⟨"ShadowPool$Scanner", "isDigit", "(I)Z"⟩, 8), (⟨"ShadowPool$Scanner", "readNumber", "()V"⟩, 8), (⟨"ShadowPool$Scanner", "readSign", "(I)V"⟩, 8), (⟨"ShadowPool$Scanner", "isSign", "(IC)Z"⟩, 8), (⟨"ShadowPool$Reader", "readLine", "()Z"⟩, 14), (⟨"ShadowPool$Reader", "readThing", "()Z"⟩, 14), (⟨"ShadowPool$Reader", "fail", "(I)Z"⟩, 14), (⟨"ShadowPool$Reader", "takeNumber", "(II)Z"⟩, 14), (⟨"ShadowPool$Reader", "takeHow", "()I"⟩, 14), (⟨"ShadowPool$Reader", "readLamp", "()Z"⟩, 14), (⟨"ShadowPool$Reader", "readMeeting", "()Z"⟩, 14), (⟨"ShadowPool$Reader", "findThing", "()Z"⟩, 14), (⟨"ShadowPool$Reader", "readRule", "()Z"⟩, 14)]
theorem lw_r1 : ∀ q ∈ lw_privs_1, lw_okq q := List.forall_mem_cons.mpr ⟨lw_p0, List.forall_mem_cons.mpr ⟨lw_p1, List.forall_mem_cons.mpr ⟨lw_p2, List.forall_mem_cons.mpr ⟨lw_p3, List.forall_mem_cons.mpr ⟨lw_p4, List.forall_mem_cons.mpr ⟨lw_p5, List.forall_mem_cons.mpr ⟨lw_p6, List.forall_mem_cons.mpr ⟨lw_p7, List.forall_mem_cons.mpr ⟨lw_p8, List.forall_mem_cons.mpr ⟨lw_p9, List.forall_mem_cons.mpr ⟨lw_p10, List.forall_mem_cons.mpr ⟨lw_p11, List.forall_mem_cons.mpr ⟨lw_p12, List.forall_mem_cons.mpr ⟨lw_p13, List.forall_mem_cons.mpr ⟨lw_p14, List.forall_mem_cons.mpr ⟨lw_p15, fun _ h => absurd h List.not_mem_nil⟩⟩⟩⟩⟩⟩⟩⟩⟩⟩⟩⟩⟩⟩⟩⟩
theorem lw_p16 : lw_okq (⟨"ShadowPool$Reader", "readFog", "()Z"⟩, 14) := ⟨⟨by decide +kernel, by decide +kernel⟩, List.mem_of_getElem? (i := 34) (by decide +kernel), List.mem_of_getElem? (i := 731) (by decide +kernel), List.mem_of_getElem? (i := 732) (by decide +kernel)⟩
theorem lw_p17 : lw_okq (⟨"ShadowPool$Reader", "readSeed", "()Z"⟩, 14) := ⟨⟨by decide +kernel, by decide +kernel⟩, List.mem_of_getElem? (i := 34) (by decide +kernel), List.mem_of_getElem? (i := 735) (by decide +kernel), List.mem_of_getElem? (i := 736) (by decide +kernel)⟩
theorem lw_p18 : lw_okq (⟨"ShadowPool$Reader", "readLaw", "()Z"⟩, 14) := ⟨⟨by decide +kernel, by decide +kernel⟩, List.mem_of_getElem? (i := 34) (by decide +kernel), List.mem_of_getElem? (i := 740) (by decide +kernel), List.mem_of_getElem? (i := 741) (by decide +kernel)⟩
theorem lw_p19 : lw_okq (⟨"ShadowPool$Reader", "readExpression", "()Z"⟩, 14) := ⟨⟨by decide +kernel, by decide +kernel⟩, List.mem_of_getElem? (i := 34) (by decide +kernel), List.mem_of_getElem? (i := 748) (by decide +kernel), List.mem_of_getElem? (i := 749) (by decide +kernel)⟩
theorem lw_p20 : lw_okq (⟨"ShadowPool$Reader", "putWaiting", "(I)V"⟩, 14) := ⟨⟨by decide +kernel, by decide +kernel⟩, List.mem_of_getElem? (i := 34) (by decide +kernel), List.mem_of_getElem? (i := 752) (by decide +kernel), List.mem_of_getElem? (i := 753) (by decide +kernel)⟩
theorem lw_p21 : lw_okq (⟨"ShadowPool$Reader", "takeOperand", "()Z"⟩, 14) := ⟨⟨by decide +kernel, by decide +kernel⟩, List.mem_of_getElem? (i := 34) (by decide +kernel), List.mem_of_getElem? (i := 763) (by decide +kernel), List.mem_of_getElem? (i := 764) (by decide +kernel)⟩
theorem lw_p22 : lw_okq (⟨"ShadowPool$Reader", "hold", "(I)V"⟩, 14) := ⟨⟨by decide +kernel, by decide +kernel⟩, List.mem_of_getElem? (i := 34) (by decide +kernel), List.mem_of_getElem? (i := 767) (by decide +kernel), List.mem_of_getElem? (i := 768) (by decide +kernel)⟩
theorem lw_p23 : lw_okq (⟨"ShadowPool$Reader", "countKnot", "()Z"⟩, 14) := ⟨⟨by decide +kernel, by decide +kernel⟩, List.mem_of_getElem? (i := 34) (by decide +kernel), List.mem_of_getElem? (i := 771) (by decide +kernel), List.mem_of_getElem? (i := 772) (by decide +kernel)⟩
theorem lw_p24 : lw_okq (⟨"ShadowPool$Reader", "takeSign", "()Z"⟩, 14) := ⟨⟨by decide +kernel, by decide +kernel⟩, List.mem_of_getElem? (i := 34) (by decide +kernel), List.mem_of_getElem? (i := 775) (by decide +kernel), List.mem_of_getElem? (i := 776) (by decide +kernel)⟩
theorem lw_p25 : lw_okq (⟨"ShadowPool$Reader", "pass", "(I)Z"⟩, 14) := ⟨⟨by decide +kernel, by decide +kernel⟩, List.mem_of_getElem? (i := 34) (by decide +kernel), List.mem_of_getElem? (i := 782) (by decide +kernel), List.mem_of_getElem? (i := 783) (by decide +kernel)⟩
theorem lw_p26 : lw_okq (⟨"ShadowPool", "isLamp", "(I)Z"⟩, 16) := ⟨⟨by decide +kernel, by decide +kernel⟩, List.mem_of_getElem? (i := 26) (by decide +kernel), List.mem_of_getElem? (i := 829) (by decide +kernel), List.mem_of_getElem? (i := 830) (by decide +kernel)⟩
theorem lw_p27 : lw_okq (⟨"ShadowPool", "isThing", "(I)Z"⟩, 16) := ⟨⟨by decide +kernel, by decide +kernel⟩, List.mem_of_getElem? (i := 26) (by decide +kernel), List.mem_of_getElem? (i := 845) (by decide +kernel), List.mem_of_getElem? (i := 846) (by decide +kernel)⟩
theorem lw_p28 : lw_okq (⟨"ShadowPool$Day", "nameAll", "(LShadowPool$Scene;II)V"⟩, 4) := ⟨⟨by decide +kernel, by decide +kernel⟩, List.mem_of_getElem? (i := 324) (by decide +kernel), List.mem_of_getElem? (i := 860) (by decide +kernel), List.mem_of_getElem? (i := 861) (by decide +kernel)⟩
theorem lw_p29 : lw_okq (⟨"ShadowPool$Day", "farness", "(LShadowPool$Scene;II)I"⟩, 4) := ⟨⟨by decide +kernel, by decide +kernel⟩, List.mem_of_getElem? (i := 324) (by decide +kernel), List.mem_of_getElem? (i := 881) (by decide +kernel), List.mem_of_getElem? (i := 882) (by decide +kernel)⟩
theorem lw_p30 : lw_okq (⟨"ShadowPool$Deeds", "forgetOldest", "()V"⟩, 5) := ⟨⟨by decide +kernel, by decide +kernel⟩, List.mem_of_getElem? (i := 544) (by decide +kernel), List.mem_of_getElem? (i := 899) (by decide +kernel), List.mem_of_getElem? (i := 900) (by decide +kernel)⟩
theorem lw_p31 : lw_okq (⟨"ShadowPool", "areTwoThings", "(II)Z"⟩, 16) := ⟨⟨by decide +kernel, by decide +kernel⟩, List.mem_of_getElem? (i := 26) (by decide +kernel), List.mem_of_getElem? (i := 917) (by decide +kernel), List.mem_of_getElem? (i := 918) (by decide +kernel)⟩
def lw_privs_2 : List (MethodName × Nat) := [(⟨"ShadowPool$Reader", "readFog", "()Z"⟩, 14), (⟨"ShadowPool$Reader", "readSeed", "()Z"⟩, 14), (⟨"ShadowPool$Reader", "readLaw", "()Z"⟩, 14), (⟨"ShadowPool$Reader", "readExpression", "()Z"⟩, 14), (⟨"ShadowPool$Reader", "putWaiting", "(I)V"⟩, 14), (⟨"ShadowPool$Reader", "takeOperand", "()Z"⟩, 14), (⟨"ShadowPool$Reader", "hold", "(I)V"⟩, 14), (⟨"ShadowPool$Reader", "countKnot", "()Z"⟩, 14), (⟨"ShadowPool$Reader", "takeSign", "()Z"⟩, 14), (⟨"ShadowPool$Reader", "pass", "(I)Z"⟩, 14), (⟨"ShadowPool", "isLamp", "(I)Z"⟩, 16), (⟨"ShadowPool", "isThing", "(I)Z"⟩, 16), (⟨"ShadowPool$Day", "nameAll", "(LShadowPool$Scene;II)V"⟩, 4), (⟨"ShadowPool$Day", "farness", "(LShadowPool$Scene;II)I"⟩, 4), (⟨"ShadowPool$Deeds", "forgetOldest", "()V"⟩, 5), (⟨"ShadowPool", "areTwoThings", "(II)Z"⟩, 16)]
theorem lw_r2 : ∀ q ∈ lw_privs_2, lw_okq q := List.forall_mem_cons.mpr ⟨lw_p16, List.forall_mem_cons.mpr ⟨lw_p17, List.forall_mem_cons.mpr ⟨lw_p18, List.forall_mem_cons.mpr ⟨lw_p19, List.forall_mem_cons.mpr ⟨lw_p20, List.forall_mem_cons.mpr ⟨lw_p21, List.forall_mem_cons.mpr ⟨lw_p22, List.forall_mem_cons.mpr ⟨lw_p23, List.forall_mem_cons.mpr ⟨lw_p24, List.forall_mem_cons.mpr ⟨lw_p25, List.forall_mem_cons.mpr ⟨lw_p26, List.forall_mem_cons.mpr ⟨lw_p27, List.forall_mem_cons.mpr ⟨lw_p28, List.forall_mem_cons.mpr ⟨lw_p29, List.forall_mem_cons.mpr ⟨lw_p30, List.forall_mem_cons.mpr ⟨lw_p31, fun _ h => absurd h List.not_mem_nil⟩⟩⟩⟩⟩⟩⟩⟩⟩⟩⟩⟩⟩⟩⟩⟩
theorem lw_p32 : lw_okq (⟨"ShadowPool$Day", "light", "(LShadowPool$Scene;I)V"⟩, 4) := ⟨⟨by decide +kernel, by decide +kernel⟩, List.mem_of_getElem? (i := 324) (by decide +kernel), List.mem_of_getElem? (i := 995) (by decide +kernel), List.mem_of_getElem? (i := 996) (by decide +kernel)⟩
theorem lw_p33 : lw_okq (⟨"ShadowPool$Day", "nextAt", "(LShadowPool$Scene;I)I"⟩, 4) := ⟨⟨by decide +kernel, by decide +kernel⟩, List.mem_of_getElem? (i := 324) (by decide +kernel), List.mem_of_getElem? (i := 999) (by decide +kernel), List.mem_of_getElem? (i := 1000) (by decide +kernel)⟩
theorem lw_p34 : lw_okq (⟨"ShadowPool$Day", "choose", "(LShadowPool$Scene;I)I"⟩, 4) := ⟨⟨by decide +kernel, by decide +kernel⟩, List.mem_of_getElem? (i := 324) (by decide +kernel), List.mem_of_getElem? (i := 1003) (by decide +kernel), List.mem_of_getElem? (i := 1004) (by decide +kernel)⟩
theorem lw_p35 : lw_okq (⟨"ShadowPool$Day", "greatest", "(LShadowPool$Scene;)I"⟩, 4) := ⟨⟨by decide +kernel, by decide +kernel⟩, List.mem_of_getElem? (i := 324) (by decide +kernel), List.mem_of_getElem? (i := 1012) (by decide +kernel), List.mem_of_getElem? (i := 1013) (by decide +kernel)⟩
theorem lw_p36 : lw_okq (⟨"ShadowPool$Finder", "prepare", "(LShadowPool$Scene;)V"⟩, 13) := ⟨⟨by decide +kernel, by decide +kernel⟩, List.mem_of_getElem? (i := 318) (by decide +kernel), List.mem_of_getElem? (i := 1032) (by decide +kernel), List.mem_of_getElem? (i := 1033) (by decide +kernel)⟩
theorem lw_p37 : lw_okq (⟨"ShadowPool$Finder", "tryOrder", "()V"⟩, 13) := ⟨⟨by decide +kernel, by decide +kernel⟩, List.mem_of_getElem? (i := 318) (by decide +kernel), List.mem_of_getElem? (i := 1042) (by decide +kernel), List.mem_of_getElem? (i := 1043) (by decide +kernel)⟩
theorem lw_p38 : lw_okq (⟨"ShadowPool$Finder", "goToNextOrder", "()Z"⟩, 13) := ⟨⟨by decide +kernel, by decide +kernel⟩, List.mem_of_getElem? (i := 318) (by decide +kernel), List.mem_of_getElem? (i := 1049) (by decide +kernel), List.mem_of_getElem? (i := 1050) (by decide +kernel)⟩
theorem lw_p39 : lw_okq (⟨"ShadowPool$Finder", "exchangeInOrder", "(II)V"⟩, 13) := ⟨⟨by decide +kernel, by decide +kernel⟩, List.mem_of_getElem? (i := 318) (by decide +kernel), List.mem_of_getElem? (i := 1053) (by decide +kernel), List.mem_of_getElem? (i := 1054) (by decide +kernel)⟩
theorem lw_p40 : lw_okq (⟨"ShadowPool$Finder", "tryHang", "(II)V"⟩, 13) := ⟨⟨by decide +kernel, by decide +kernel⟩, List.mem_of_getElem? (i := 318) (by decide +kernel), List.mem_of_getElem? (i := 1077) (by decide +kernel), List.mem_of_getElem? (i := 1078) (by decide +kernel)⟩
theorem lw_p41 : lw_okq (⟨"ShadowPool$Swapper", "traceBack", "(I)I"⟩, 5) := ⟨⟨by decide +kernel, by decide +kernel⟩, List.mem_of_getElem? (i := 494) (by decide +kernel), List.mem_of_getElem? (i := 1095) (by decide +kernel), List.mem_of_getElem? (i := 1096) (by decide +kernel)⟩
theorem lw_p42 : lw_okq (⟨"ShadowPool$Swapper", "reach", "(III)V"⟩, 5) := ⟨⟨by decide +kernel, by decide +kernel⟩, List.mem_of_getElem? (i := 494) (by decide +kernel), List.mem_of_getElem? (i := 1102) (by decide +kernel), List.mem_of_getElem? (i := 1103) (by decide +kernel)⟩
theorem lw_p43 : lw_okq (⟨"ShadowPool", "agrees", "()Z"⟩, 16) := ⟨⟨by decide +kernel, by decide +kernel⟩, List.mem_of_getElem? (i := 26) (by decide +kernel), List.mem_of_getElem? (i := 1168) (by decide +kernel), List.mem_of_getElem? (i := 1169) (by decide +kernel)⟩
theorem lw_p44 : lw_okq (⟨"ShadowPool$Memory", "isKnown", "(I)Z"⟩, 6) := ⟨⟨by decide +kernel, by decide +kernel⟩, List.mem_of_getElem? (i := 516) (by decide +kernel), List.mem_of_getElem? (i := 1176) (by decide +kernel), List.mem_of_getElem? (i := 1177) (by decide +kernel)⟩
theorem lw_p45 : lw_okq (⟨"ShadowPool$Finder", "isRest", "(II)Z"⟩, 13) := ⟨⟨by decide +kernel, by decide +kernel⟩, List.mem_of_getElem? (i := 318) (by decide +kernel), List.mem_of_getElem? (i := 1197) (by decide +kernel), List.mem_of_getElem? (i := 1198) (by decide +kernel)⟩
theorem lw_p46 : lw_okq (⟨"ShadowPool", "weightOf", "(II)J"⟩, 16) := ⟨⟨by decide +kernel, by decide +kernel⟩, List.mem_of_getElem? (i := 26) (by decide +kernel), List.mem_of_getElem? (i := 1234) (by decide +kernel), List.mem_of_getElem? (i := 1235) (by decide +kernel)⟩
theorem lw_p47 : lw_okq (⟨"ShadowPool", "endsWithOwn", "(III)Z"⟩, 16) := ⟨⟨by decide +kernel, by decide +kernel⟩, List.mem_of_getElem? (i := 26) (by decide +kernel), List.mem_of_getElem? (i := 1238) (by decide +kernel), List.mem_of_getElem? (i := 1239) (by decide +kernel)⟩
def lw_privs_3 : List (MethodName × Nat) := [(⟨"ShadowPool$Day", "light", "(LShadowPool$Scene;I)V"⟩, 4), (⟨"ShadowPool$Day", "nextAt", "(LShadowPool$Scene;I)I"⟩, 4), (⟨"ShadowPool$Day", "choose", "(LShadowPool$Scene;I)I"⟩, 4), (⟨"ShadowPool$Day", "greatest", "(LShadowPool$Scene;)I"⟩, 4), (⟨"ShadowPool$Finder", "prepare", "(LShadowPool$Scene;)V"⟩, 13), (⟨"ShadowPool$Finder", "tryOrder", "()V"⟩, 13), (⟨"ShadowPool$Finder", "goToNextOrder", "()Z"⟩, 13), (⟨"ShadowPool$Finder", "exchangeInOrder", "(II)V"⟩, 13), (⟨"ShadowPool$Finder", "tryHang", "(II)V"⟩, 13), (⟨"ShadowPool$Swapper", "traceBack", "(I)I"⟩, 5), (⟨"ShadowPool$Swapper", "reach", "(III)V"⟩, 5), (⟨"ShadowPool", "agrees", "()Z"⟩, 16), (⟨"ShadowPool$Memory", "isKnown", "(I)Z"⟩, 6), (⟨"ShadowPool$Finder", "isRest", "(II)Z"⟩, 13), (⟨"ShadowPool", "weightOf", "(II)J"⟩, 16), (⟨"ShadowPool", "endsWithOwn", "(III)Z"⟩, 16)]
theorem lw_r3 : ∀ q ∈ lw_privs_3, lw_okq q := List.forall_mem_cons.mpr ⟨lw_p32, List.forall_mem_cons.mpr ⟨lw_p33, List.forall_mem_cons.mpr ⟨lw_p34, List.forall_mem_cons.mpr ⟨lw_p35, List.forall_mem_cons.mpr ⟨lw_p36, List.forall_mem_cons.mpr ⟨lw_p37, List.forall_mem_cons.mpr ⟨lw_p38, List.forall_mem_cons.mpr ⟨lw_p39, List.forall_mem_cons.mpr ⟨lw_p40, List.forall_mem_cons.mpr ⟨lw_p41, List.forall_mem_cons.mpr ⟨lw_p42, List.forall_mem_cons.mpr ⟨lw_p43, List.forall_mem_cons.mpr ⟨lw_p44, List.forall_mem_cons.mpr ⟨lw_p45, List.forall_mem_cons.mpr ⟨lw_p46, List.forall_mem_cons.mpr ⟨lw_p47, fun _ h => absurd h List.not_mem_nil⟩⟩⟩⟩⟩⟩⟩⟩⟩⟩⟩⟩⟩⟩⟩⟩
theorem lw_p48 : lw_okq (⟨"ShadowPool", "canBeTried", "(II)Z"⟩, 16) := ⟨⟨by decide +kernel, by decide +kernel⟩, List.mem_of_getElem? (i := 26) (by decide +kernel), List.mem_of_getElem? (i := 1254) (by decide +kernel), List.mem_of_getElem? (i := 1255) (by decide +kernel)⟩
theorem lw_p49 : lw_okq (⟨"java/lang/Throwable", "fillInStackTrace", "(I)Ljava/lang/Throwable;"⟩, 6) := ⟨⟨by decide +kernel, by decide +kernel⟩, List.mem_of_getElem? (i := 1341) (by decide +kernel), List.mem_of_getElem? (i := 1339) (by decide +kernel), List.mem_of_getElem? (i := 1340) (by decide +kernel)⟩
theorem lw_p50 : lw_okq (⟨"ShadowPoolModel", "plain", "()V"⟩, 93) := ⟨⟨by decide +kernel, by decide +kernel⟩, List.mem_of_getElem? (i := 1386) (by decide +kernel), List.mem_of_getElem? (i := 1392) (by decide +kernel), List.mem_of_getElem? (i := 1393) (by decide +kernel)⟩
theorem lw_p51 : lw_okq (⟨"ShadowPoolModel", "keepText", "()V"⟩, 93) := ⟨⟨by decide +kernel, by decide +kernel⟩, List.mem_of_getElem? (i := 1386) (by decide +kernel), List.mem_of_getElem? (i := 1396) (by decide +kernel), List.mem_of_getElem? (i := 1397) (by decide +kernel)⟩
theorem lw_p52 : lw_okq (⟨"ShadowPoolModel", "begin", "()V"⟩, 93) := ⟨⟨by decide +kernel, by decide +kernel⟩, List.mem_of_getElem? (i := 1386) (by decide +kernel), List.mem_of_getElem? (i := 1403) (by decide +kernel), List.mem_of_getElem? (i := 1404) (by decide +kernel)⟩
theorem lw_p53 : lw_okq (⟨"ShadowPoolModel", "plainTried", "()V"⟩, 93) := ⟨⟨by decide +kernel, by decide +kernel⟩, List.mem_of_getElem? (i := 1386) (by decide +kernel), List.mem_of_getElem? (i := 1407) (by decide +kernel), List.mem_of_getElem? (i := 1408) (by decide +kernel)⟩
theorem lw_p54 : lw_okq (⟨"ShadowPoolModel", "token", "()V"⟩, 93) := ⟨⟨by decide +kernel, by decide +kernel⟩, List.mem_of_getElem? (i := 1386) (by decide +kernel), List.mem_of_getElem? (i := 1703) (by decide +kernel), List.mem_of_getElem? (i := 1704) (by decide +kernel)⟩
theorem lw_p55 : lw_okq (⟨"ShadowPoolModel", "isSmall", "(I)Z"⟩, 93) := ⟨⟨by decide +kernel, by decide +kernel⟩, List.mem_of_getElem? (i := 1386) (by decide +kernel), List.mem_of_getElem? (i := 1707) (by decide +kernel), List.mem_of_getElem? (i := 1708) (by decide +kernel)⟩
theorem lw_p56 : lw_okq (⟨"ShadowPoolModel", "wordAt", "(II)I"⟩, 93) := ⟨⟨by decide +kernel, by decide +kernel⟩, List.mem_of_getElem? (i := 1386) (by decide +kernel), List.mem_of_getElem? (i := 1711) (by decide +kernel), List.mem_of_getElem? (i := 1712) (by decide +kernel)⟩
theorem lw_p57 : lw_okq (⟨"ShadowPoolModel", "packed", "(II)I"⟩, 93) := ⟨⟨by decide +kernel, by decide +kernel⟩, List.mem_of_getElem? (i := 1386) (by decide +kernel), List.mem_of_getElem? (i := 1715) (by decide +kernel), List.mem_of_getElem? (i := 1716) (by decide +kernel)⟩
theorem lw_p58 : lw_okq (⟨"ShadowPoolModel", "isDigit", "(I)Z"⟩, 93) := ⟨⟨by decide +kernel, by decide +kernel⟩, List.mem_of_getElem? (i := 1386) (by decide +kernel), List.mem_of_getElem? (i := 1719) (by decide +kernel), List.mem_of_getElem? (i := 1720) (by decide +kernel)⟩
theorem lw_p59 : lw_okq (⟨"ShadowPoolModel", "signToken", "()V"⟩, 93) := ⟨⟨by decide +kernel, by decide +kernel⟩, List.mem_of_getElem? (i := 1386) (by decide +kernel), List.mem_of_getElem? (i := 1724) (by decide +kernel), List.mem_of_getElem? (i := 1725) (by decide +kernel)⟩
theorem lw_p60 : lw_okq (⟨"ShadowPoolModel", "lineRead", "()Z"⟩, 93) := ⟨⟨by decide +kernel, by decide +kernel⟩, List.mem_of_getElem? (i := 1386) (by decide +kernel), List.mem_of_getElem? (i := 1728) (by decide +kernel), List.mem_of_getElem? (i := 1729) (by decide +kernel)⟩
theorem lw_p61 : lw_okq (⟨"ShadowPoolModel", "wrong", "(I)Z"⟩, 93) := ⟨⟨by decide +kernel, by decide +kernel⟩, List.mem_of_getElem? (i := 1386) (by decide +kernel), List.mem_of_getElem? (i := 1732) (by decide +kernel), List.mem_of_getElem? (i := 1733) (by decide +kernel)⟩
theorem lw_p62 : lw_okq (⟨"ShadowPoolModel", "thingLine", "()Z"⟩, 93) := ⟨⟨by decide +kernel, by decide +kernel⟩, List.mem_of_getElem? (i := 1386) (by decide +kernel), List.mem_of_getElem? (i := 1736) (by decide +kernel), List.mem_of_getElem? (i := 1737) (by decide +kernel)⟩
theorem lw_p63 : lw_okq (⟨"ShadowPoolModel", "number", "(II)Z"⟩, 93) := ⟨⟨by decide +kernel, by decide +kernel⟩, List.mem_of_getElem? (i := 1386) (by decide +kernel), List.mem_of_getElem? (i := 1743) (by decide +kernel), List.mem_of_getElem? (i := 1744) (by decide +kernel)⟩
def lw_privs_4 : List (MethodName × Nat) := [(⟨"ShadowPool", "canBeTried", "(II)Z"⟩, 16), (⟨"java/lang/Throwable", "fillInStackTrace", "(I)Ljava/lang/Throwable;"⟩, 6), (⟨"ShadowPoolModel", "plain", "()V"⟩, 93), (⟨"ShadowPoolModel", "keepText", "()V"⟩, 93), (⟨"ShadowPoolModel", "begin", "()V"⟩, 93), (⟨"ShadowPoolModel", "plainTried", "()V"⟩, 93), (⟨"ShadowPoolModel", "token", "()V"⟩, 93), (⟨"ShadowPoolModel", "isSmall", "(I)Z"⟩, 93), (⟨"ShadowPoolModel", "wordAt", "(II)I"⟩, 93), (⟨"ShadowPoolModel", "packed", "(II)I"⟩, 93), (⟨"ShadowPoolModel", "isDigit", "(I)Z"⟩, 93), (⟨"ShadowPoolModel", "signToken", "()V"⟩, 93), (⟨"ShadowPoolModel", "lineRead", "()Z"⟩, 93), (⟨"ShadowPoolModel", "wrong", "(I)Z"⟩, 93), (⟨"ShadowPoolModel", "thingLine", "()Z"⟩, 93), (⟨"ShadowPoolModel", "number", "(II)Z"⟩, 93)]
theorem lw_r4 : ∀ q ∈ lw_privs_4, lw_okq q := List.forall_mem_cons.mpr ⟨lw_p48, List.forall_mem_cons.mpr ⟨lw_p49, List.forall_mem_cons.mpr ⟨lw_p50, List.forall_mem_cons.mpr ⟨lw_p51, List.forall_mem_cons.mpr ⟨lw_p52, List.forall_mem_cons.mpr ⟨lw_p53, List.forall_mem_cons.mpr ⟨lw_p54, List.forall_mem_cons.mpr ⟨lw_p55, List.forall_mem_cons.mpr ⟨lw_p56, List.forall_mem_cons.mpr ⟨lw_p57, List.forall_mem_cons.mpr ⟨lw_p58, List.forall_mem_cons.mpr ⟨lw_p59, List.forall_mem_cons.mpr ⟨lw_p60, List.forall_mem_cons.mpr ⟨lw_p61, List.forall_mem_cons.mpr ⟨lw_p62, List.forall_mem_cons.mpr ⟨lw_p63, fun _ h => absurd h List.not_mem_nil⟩⟩⟩⟩⟩⟩⟩⟩⟩⟩⟩⟩⟩⟩⟩⟩
theorem lw_p64 : lw_okq (⟨"ShadowPoolModel", "isKey", "(I)Z"⟩, 93) := ⟨⟨by decide +kernel, by decide +kernel⟩, List.mem_of_getElem? (i := 1386) (by decide +kernel), List.mem_of_getElem? (i := 1750) (by decide +kernel), List.mem_of_getElem? (i := 1751) (by decide +kernel)⟩
theorem lw_p65 : lw_okq (⟨"ShadowPoolModel", "lampLine", "()Z"⟩, 93) := ⟨⟨by decide +kernel, by decide +kernel⟩, List.mem_of_getElem? (i := 1386) (by decide +kernel), List.mem_of_getElem? (i := 1754) (by decide +kernel), List.mem_of_getElem? (i := 1755) (by decide +kernel)⟩
theorem lw_p66 : lw_okq (⟨"ShadowPoolModel", "meetLine", "()Z"⟩, 93) := ⟨⟨by decide +kernel, by decide +kernel⟩, List.mem_of_getElem? (i := 1386) (by decide +kernel), List.mem_of_getElem? (i := 1758) (by decide +kernel), List.mem_of_getElem? (i := 1759) (by decide +kernel)⟩
theorem lw_p67 : lw_okq (⟨"ShadowPoolModel", "thingRead", "()Z"⟩, 93) := ⟨⟨by decide +kernel, by decide +kernel⟩, List.mem_of_getElem? (i := 1386) (by decide +kernel), List.mem_of_getElem? (i := 1762) (by decide +kernel), List.mem_of_getElem? (i := 1763) (by decide +kernel)⟩
theorem lw_p68 : lw_okq (⟨"ShadowPoolModel", "isOnce", "(I)Z"⟩, 93) := ⟨⟨by decide +kernel, by decide +kernel⟩, List.mem_of_getElem? (i := 1386) (by decide +kernel), List.mem_of_getElem? (i := 1766) (by decide +kernel), List.mem_of_getElem? (i := 1767) (by decide +kernel)⟩
theorem lw_p69 : lw_okq (⟨"ShadowPoolModel", "sumRead", "()Z"⟩, 93) := ⟨⟨by decide +kernel, by decide +kernel⟩, List.mem_of_getElem? (i := 1386) (by decide +kernel), List.mem_of_getElem? (i := 1770) (by decide +kernel), List.mem_of_getElem? (i := 1771) (by decide +kernel)⟩
theorem lw_p70 : lw_okq (⟨"ShadowPoolModel", "isSign", "(I)Z"⟩, 93) := ⟨⟨by decide +kernel, by decide +kernel⟩, List.mem_of_getElem? (i := 1386) (by decide +kernel), List.mem_of_getElem? (i := 1774) (by decide +kernel), List.mem_of_getElem? (i := 1775) (by decide +kernel)⟩
theorem lw_p71 : lw_okq (⟨"ShadowPoolModel", "leafRead", "()Z"⟩, 93) := ⟨⟨by decide +kernel, by decide +kernel⟩, List.mem_of_getElem? (i := 1386) (by decide +kernel), List.mem_of_getElem? (i := 1778) (by decide +kernel), List.mem_of_getElem? (i := 1779) (by decide +kernel)⟩
theorem lw_p72 : lw_okq (⟨"ShadowPoolModel", "waitsFor", "(I)V"⟩, 93) := ⟨⟨by decide +kernel, by decide +kernel⟩, List.mem_of_getElem? (i := 1386) (by decide +kernel), List.mem_of_getElem? (i := 1782) (by decide +kernel), List.mem_of_getElem? (i := 1783) (by decide +kernel)⟩
theorem lw_p73 : lw_okq (⟨"ShadowPoolModel", "isCounted", "()Z"⟩, 93) := ⟨⟨by decide +kernel, by decide +kernel⟩, List.mem_of_getElem? (i := 1386) (by decide +kernel), List.mem_of_getElem? (i := 1786) (by decide +kernel), List.mem_of_getElem? (i := 1787) (by decide +kernel)⟩
theorem lw_p74 : lw_okq (⟨"ShadowPoolModel", "nameMet", "()I"⟩, 93) := ⟨⟨by decide +kernel, by decide +kernel⟩, List.mem_of_getElem? (i := 1386) (by decide +kernel), List.mem_of_getElem? (i := 1790) (by decide +kernel), List.mem_of_getElem? (i := 1791) (by decide +kernel)⟩
theorem lw_p75 : lw_okq (⟨"ShadowPoolModel", "grown", "(III)V"⟩, 93) := ⟨⟨by decide +kernel, by decide +kernel⟩, List.mem_of_getElem? (i := 1386) (by decide +kernel), List.mem_of_getElem? (i := 1794) (by decide +kernel), List.mem_of_getElem? (i := 1795) (by decide +kernel)⟩
theorem lw_p76 : lw_okq (⟨"ShadowPoolModel", "signs", "()Z"⟩, 93) := ⟨⟨by decide +kernel, by decide +kernel⟩, List.mem_of_getElem? (i := 1386) (by decide +kernel), List.mem_of_getElem? (i := 1798) (by decide +kernel), List.mem_of_getElem? (i := 1799) (by decide +kernel)⟩
theorem lw_p77 : lw_okq (⟨"ShadowPoolModel", "bind", "(I)V"⟩, 93) := ⟨⟨by decide +kernel, by decide +kernel⟩, List.mem_of_getElem? (i := 1386) (by decide +kernel), List.mem_of_getElem? (i := 1802) (by decide +kernel), List.mem_of_getElem? (i := 1803) (by decide +kernel)⟩
theorem lw_p78 : lw_okq (⟨"ShadowPoolModel", "dropHeld", "()I"⟩, 93) := ⟨⟨by decide +kernel, by decide +kernel⟩, List.mem_of_getElem? (i := 1386) (by decide +kernel), List.mem_of_getElem? (i := 1809) (by decide +kernel), List.mem_of_getElem? (i := 1810) (by decide +kernel)⟩
theorem lw_p79 : lw_okq (⟨"ShadowPoolModel", "isThing", "(I)Z"⟩, 93) := ⟨⟨by decide +kernel, by decide +kernel⟩, List.mem_of_getElem? (i := 1386) (by decide +kernel), List.mem_of_getElem? (i := 1825) (by decide +kernel), List.mem_of_getElem? (i := 1826) (by decide +kernel)⟩
def lw_privs_5 : List (MethodName × Nat) := [(⟨"ShadowPoolModel", "isKey", "(I)Z"⟩, 93), (⟨"ShadowPoolModel", "lampLine", "()Z"⟩, 93), (⟨"ShadowPoolModel", "meetLine", "()Z"⟩, 93), (⟨"ShadowPoolModel", "thingRead", "()Z"⟩, 93), (⟨"ShadowPoolModel", "isOnce", "(I)Z"⟩, 93), (⟨"ShadowPoolModel", "sumRead", "()Z"⟩, 93), (⟨"ShadowPoolModel", "isSign", "(I)Z"⟩, 93), (⟨"ShadowPoolModel", "leafRead", "()Z"⟩, 93), (⟨"ShadowPoolModel", "waitsFor", "(I)V"⟩, 93), (⟨"ShadowPoolModel", "isCounted", "()Z"⟩, 93), (⟨"ShadowPoolModel", "nameMet", "()I"⟩, 93), (⟨"ShadowPoolModel", "grown", "(III)V"⟩, 93), (⟨"ShadowPoolModel", "signs", "()Z"⟩, 93), (⟨"ShadowPoolModel", "bind", "(I)V"⟩, 93), (⟨"ShadowPoolModel", "dropHeld", "()I"⟩, 93), (⟨"ShadowPoolModel", "isThing", "(I)Z"⟩, 93)]
theorem lw_r5 : ∀ q ∈ lw_privs_5, lw_okq q := List.forall_mem_cons.mpr ⟨lw_p64, List.forall_mem_cons.mpr ⟨lw_p65, List.forall_mem_cons.mpr ⟨lw_p66, List.forall_mem_cons.mpr ⟨lw_p67, List.forall_mem_cons.mpr ⟨lw_p68, List.forall_mem_cons.mpr ⟨lw_p69, List.forall_mem_cons.mpr ⟨lw_p70, List.forall_mem_cons.mpr ⟨lw_p71, List.forall_mem_cons.mpr ⟨lw_p72, List.forall_mem_cons.mpr ⟨lw_p73, List.forall_mem_cons.mpr ⟨lw_p74, List.forall_mem_cons.mpr ⟨lw_p75, List.forall_mem_cons.mpr ⟨lw_p76, List.forall_mem_cons.mpr ⟨lw_p77, List.forall_mem_cons.mpr ⟨lw_p78, List.forall_mem_cons.mpr ⟨lw_p79, fun _ h => absurd h List.not_mem_nil⟩⟩⟩⟩⟩⟩⟩⟩⟩⟩⟩⟩⟩⟩⟩⟩
theorem lw_p80 : lw_okq (⟨"ShadowPoolModel", "fails", "(I)I"⟩, 93) := ⟨⟨by decide +kernel, by decide +kernel⟩, List.mem_of_getElem? (i := 1386) (by decide +kernel), List.mem_of_getElem? (i := 1829) (by decide +kernel), List.mem_of_getElem? (i := 1830) (by decide +kernel)⟩
theorem lw_p81 : lw_okq (⟨"ShadowPoolModel", "isLamp", "(I)Z"⟩, 93) := ⟨⟨by decide +kernel, by decide +kernel⟩, List.mem_of_getElem? (i := 1386) (by decide +kernel), List.mem_of_getElem? (i := 1837) (by decide +kernel), List.mem_of_getElem? (i := 1838) (by decide +kernel)⟩
theorem lw_p82 : lw_okq (⟨"ShadowPoolModel", "layNames", "(IIIII)V"⟩, 93) := ⟨⟨by decide +kernel, by decide +kernel⟩, List.mem_of_getElem? (i := 1386) (by decide +kernel), List.mem_of_getElem? (i := 1853) (by decide +kernel), List.mem_of_getElem? (i := 1854) (by decide +kernel)⟩
theorem lw_p83 : lw_okq (⟨"ShadowPoolModel", "howOf", "(I)I"⟩, 93) := ⟨⟨by decide +kernel, by decide +kernel⟩, List.mem_of_getElem? (i := 1386) (by decide +kernel), List.mem_of_getElem? (i := 1857) (by decide +kernel), List.mem_of_getElem? (i := 1858) (by decide +kernel)⟩
theorem lw_p84 : lw_okq (⟨"ShadowPoolModel", "sizeHad", "(II)I"⟩, 93) := ⟨⟨by decide +kernel, by decide +kernel⟩, List.mem_of_getElem? (i := 1386) (by decide +kernel), List.mem_of_getElem? (i := 1861) (by decide +kernel), List.mem_of_getElem? (i := 1862) (by decide +kernel)⟩
theorem lw_p85 : lw_okq (⟨"ShadowPoolModel", "lawOf", "(I)J"⟩, 93) := ⟨⟨by decide +kernel, by decide +kernel⟩, List.mem_of_getElem? (i := 1386) (by decide +kernel), List.mem_of_getElem? (i := 1865) (by decide +kernel), List.mem_of_getElem? (i := 1866) (by decide +kernel)⟩
theorem lw_p86 : lw_okq (⟨"ShadowPoolModel", "valueOf", "(I)J"⟩, 93) := ⟨⟨by decide +kernel, by decide +kernel⟩, List.mem_of_getElem? (i := 1386) (by decide +kernel), List.mem_of_getElem? (i := 1869) (by decide +kernel), List.mem_of_getElem? (i := 1870) (by decide +kernel)⟩
theorem lw_p87 : lw_okq (⟨"ShadowPoolModel", "bounded", "(J)J"⟩, 93) := ⟨⟨by decide +kernel, by decide +kernel⟩, List.mem_of_getElem? (i := 1386) (by decide +kernel), List.mem_of_getElem? (i := 1873) (by decide +kernel), List.mem_of_getElem? (i := 1874) (by decide +kernel)⟩
theorem lw_p88 : lw_okq (⟨"ShadowPoolModel", "times", "(JJ)J"⟩, 93) := ⟨⟨by decide +kernel, by decide +kernel⟩, List.mem_of_getElem? (i := 1386) (by decide +kernel), List.mem_of_getElem? (i := 1879) (by decide +kernel), List.mem_of_getElem? (i := 1880) (by decide +kernel)⟩
theorem lw_p89 : lw_okq (⟨"ShadowPoolModel", "remember", "()V"⟩, 93) := ⟨⟨by decide +kernel, by decide +kernel⟩, List.mem_of_getElem? (i := 1386) (by decide +kernel), List.mem_of_getElem? (i := 1890) (by decide +kernel), List.mem_of_getElem? (i := 1891) (by decide +kernel)⟩
theorem lw_p90 : lw_okq (⟨"ShadowPoolModel", "put", "([II)V"⟩, 93) := ⟨⟨by decide +kernel, by decide +kernel⟩, List.mem_of_getElem? (i := 1386) (by decide +kernel), List.mem_of_getElem? (i := 1894) (by decide +kernel), List.mem_of_getElem? (i := 1895) (by decide +kernel)⟩
theorem lw_p91 : lw_okq (⟨"ShadowPoolModel", "meetingOf", "(II)I"⟩, 93) := ⟨⟨by decide +kernel, by decide +kernel⟩, List.mem_of_getElem? (i := 1386) (by decide +kernel), List.mem_of_getElem? (i := 1910) (by decide +kernel), List.mem_of_getElem? (i := 1911) (by decide +kernel)⟩
theorem lw_p92 : lw_okq (⟨"ShadowPoolModel", "isFog", "()Z"⟩, 93) := ⟨⟨by decide +kernel, by decide +kernel⟩, List.mem_of_getElem? (i := 1386) (by decide +kernel), List.mem_of_getElem? (i := 1922) (by decide +kernel), List.mem_of_getElem? (i := 1923) (by decide +kernel)⟩
theorem lw_p93 : lw_okq (⟨"ShadowPoolModel", "number1", "(I)I"⟩, 93) := ⟨⟨by decide +kernel, by decide +kernel⟩, List.mem_of_getElem? (i := 1386) (by decide +kernel), List.mem_of_getElem? (i := 1926) (by decide +kernel), List.mem_of_getElem? (i := 1927) (by decide +kernel)⟩
theorem lw_p94 : lw_okq (⟨"ShadowPoolModel", "goOn", "(IZ)V"⟩, 93) := ⟨⟨by decide +kernel, by decide +kernel⟩, List.mem_of_getElem? (i := 1386) (by decide +kernel), List.mem_of_getElem? (i := 1934) (by decide +kernel), List.mem_of_getElem? (i := 1935) (by decide +kernel)⟩
theorem lw_p95 : lw_okq (⟨"ShadowPoolModel", "dusk", "(I)V"⟩, 93) := ⟨⟨by decide +kernel, by decide +kernel⟩, List.mem_of_getElem? (i := 1386) (by decide +kernel), List.mem_of_getElem? (i := 1938) (by decide +kernel), List.mem_of_getElem? (i := 1939) (by decide +kernel)⟩
def lw_privs_6 : List (MethodName × Nat) := [(⟨"ShadowPoolModel", "fails", "(I)I"⟩, 93), (⟨"ShadowPoolModel", "isLamp", "(I)Z"⟩, 93), (⟨"ShadowPoolModel", "layNames", "(IIIII)V"⟩, 93), (⟨"ShadowPoolModel", "howOf", "(I)I"⟩, 93), (⟨"ShadowPoolModel", "sizeHad", "(II)I"⟩, 93), (⟨"ShadowPoolModel", "lawOf", "(I)J"⟩, 93), (⟨"ShadowPoolModel", "valueOf", "(I)J"⟩, 93), (⟨"ShadowPoolModel", "bounded", "(J)J"⟩, 93), (⟨"ShadowPoolModel", "times", "(JJ)J"⟩, 93), (⟨"ShadowPoolModel", "remember", "()V"⟩, 93), (⟨"ShadowPoolModel", "put", "([II)V"⟩, 93), (⟨"ShadowPoolModel", "meetingOf", "(II)I"⟩, 93), (⟨"ShadowPoolModel", "isFog", "()Z"⟩, 93), (⟨"ShadowPoolModel", "number1", "(I)I"⟩, 93), (⟨"ShadowPoolModel", "goOn", "(IZ)V"⟩, 93), (⟨"ShadowPoolModel", "dusk", "(I)V"⟩, 93)]
theorem lw_r6 : ∀ q ∈ lw_privs_6, lw_okq q := List.forall_mem_cons.mpr ⟨lw_p80, List.forall_mem_cons.mpr ⟨lw_p81, List.forall_mem_cons.mpr ⟨lw_p82, List.forall_mem_cons.mpr ⟨lw_p83, List.forall_mem_cons.mpr ⟨lw_p84, List.forall_mem_cons.mpr ⟨lw_p85, List.forall_mem_cons.mpr ⟨lw_p86, List.forall_mem_cons.mpr ⟨lw_p87, List.forall_mem_cons.mpr ⟨lw_p88, List.forall_mem_cons.mpr ⟨lw_p89, List.forall_mem_cons.mpr ⟨lw_p90, List.forall_mem_cons.mpr ⟨lw_p91, List.forall_mem_cons.mpr ⟨lw_p92, List.forall_mem_cons.mpr ⟨lw_p93, List.forall_mem_cons.mpr ⟨lw_p94, List.forall_mem_cons.mpr ⟨lw_p95, fun _ h => absurd h List.not_mem_nil⟩⟩⟩⟩⟩⟩⟩⟩⟩⟩⟩⟩⟩⟩⟩⟩
theorem lw_p96 : lw_okq (⟨"ShadowPoolModel", "lateOf", "(II)J"⟩, 93) := ⟨⟨by decide +kernel, by decide +kernel⟩, List.mem_of_getElem? (i := 1386) (by decide +kernel), List.mem_of_getElem? (i := 1942) (by decide +kernel), List.mem_of_getElem? (i := 1943) (by decide +kernel)⟩
theorem lw_p97 : lw_okq (⟨"ShadowPoolModel", "lights", "(II)V"⟩, 93) := ⟨⟨by decide +kernel, by decide +kernel⟩, List.mem_of_getElem? (i := 1386) (by decide +kernel), List.mem_of_getElem? (i := 1946) (by decide +kernel), List.mem_of_getElem? (i := 1947) (by decide +kernel)⟩
theorem lw_p98 : lw_okq (⟨"ShadowPoolModel", "placeOf", "(I)I"⟩, 93) := ⟨⟨by decide +kernel, by decide +kernel⟩, List.mem_of_getElem? (i := 1386) (by decide +kernel), List.mem_of_getElem? (i := 1950) (by decide +kernel), List.mem_of_getElem? (i := 1951) (by decide +kernel)⟩
theorem lw_p99 : lw_okq (⟨"ShadowPoolModel", "nearOf", "(III)J"⟩, 93) := ⟨⟨by decide +kernel, by decide +kernel⟩, List.mem_of_getElem? (i := 1386) (by decide +kernel), List.mem_of_getElem? (i := 1954) (by decide +kernel), List.mem_of_getElem? (i := 1955) (by decide +kernel)⟩
theorem lw_p100 : lw_okq (⟨"ShadowPoolModel", "givenTo", "(II)I"⟩, 93) := ⟨⟨by decide +kernel, by decide +kernel⟩, List.mem_of_getElem? (i := 1386) (by decide +kernel), List.mem_of_getElem? (i := 1958) (by decide +kernel), List.mem_of_getElem? (i := 1959) (by decide +kernel)⟩
theorem lw_p101 : lw_okq (⟨"ShadowPoolModel", "taken", "(II)I"⟩, 93) := ⟨⟨by decide +kernel, by decide +kernel⟩, List.mem_of_getElem? (i := 1386) (by decide +kernel), List.mem_of_getElem? (i := 1962) (by decide +kernel), List.mem_of_getElem? (i := 1963) (by decide +kernel)⟩
theorem lw_p102 : lw_okq (⟨"ShadowPoolModel", "thieves", "(I)V"⟩, 93) := ⟨⟨by decide +kernel, by decide +kernel⟩, List.mem_of_getElem? (i := 1386) (by decide +kernel), List.mem_of_getElem? (i := 1966) (by decide +kernel), List.mem_of_getElem? (i := 1967) (by decide +kernel)⟩
theorem lw_p103 : lw_okq (⟨"ShadowPoolModel", "noon", "(I)V"⟩, 93) := ⟨⟨by decide +kernel, by decide +kernel⟩, List.mem_of_getElem? (i := 1386) (by decide +kernel), List.mem_of_getElem? (i := 1970) (by decide +kernel), List.mem_of_getElem? (i := 1971) (by decide +kernel)⟩
theorem lw_p104 : lw_okq (⟨"ShadowPoolModel", "ownIn", "(I)I"⟩, 93) := ⟨⟨by decide +kernel, by decide +kernel⟩, List.mem_of_getElem? (i := 1386) (by decide +kernel), List.mem_of_getElem? (i := 1978) (by decide +kernel), List.mem_of_getElem? (i := 1979) (by decide +kernel)⟩
theorem lw_p105 : lw_okq (⟨"ShadowPoolModel", "layOrder", "(II)Z"⟩, 93) := ⟨⟨by decide +kernel, by decide +kernel⟩, List.mem_of_getElem? (i := 1386) (by decide +kernel), List.mem_of_getElem? (i := 1986) (by decide +kernel), List.mem_of_getElem? (i := 1987) (by decide +kernel)⟩
theorem lw_p106 : lw_okq (⟨"ShadowPoolModel", "layTried", "()V"⟩, 93) := ⟨⟨by decide +kernel, by decide +kernel⟩, List.mem_of_getElem? (i := 1386) (by decide +kernel), List.mem_of_getElem? (i := 1993) (by decide +kernel), List.mem_of_getElem? (i := 1994) (by decide +kernel)⟩
theorem lw_p107 : lw_okq (⟨"ShadowPoolModel", "isOrder", "(I)Z"⟩, 93) := ⟨⟨by decide +kernel, by decide +kernel⟩, List.mem_of_getElem? (i := 1386) (by decide +kernel), List.mem_of_getElem? (i := 1997) (by decide +kernel), List.mem_of_getElem? (i := 1998) (by decide +kernel)⟩
theorem lw_p108 : lw_okq (⟨"ShadowPoolModel", "laySwaps", "()V"⟩, 93) := ⟨⟨by decide +kernel, by decide +kernel⟩, List.mem_of_getElem? (i := 1386) (by decide +kernel), List.mem_of_getElem? (i := 2013) (by decide +kernel), List.mem_of_getElem? (i := 2014) (by decide +kernel)⟩
theorem lw_p109 : lw_okq (⟨"ShadowPoolModel", "rowNow", "()I"⟩, 93) := ⟨⟨by decide +kernel, by decide +kernel⟩, List.mem_of_getElem? (i := 1386) (by decide +kernel), List.mem_of_getElem? (i := 2017) (by decide +kernel), List.mem_of_getElem? (i := 2018) (by decide +kernel)⟩
theorem lw_p110 : lw_okq (⟨"ShadowPoolModel", "meetsRow", "(III)V"⟩, 93) := ⟨⟨by decide +kernel, by decide +kernel⟩, List.mem_of_getElem? (i := 1386) (by decide +kernel), List.mem_of_getElem? (i := 2021) (by decide +kernel), List.mem_of_getElem? (i := 2022) (by decide +kernel)⟩
theorem lw_p111 : lw_okq (⟨"ShadowPoolModel", "isHome", "(I)Z"⟩, 93) := ⟨⟨by decide +kernel, by decide +kernel⟩, List.mem_of_getElem? (i := 1386) (by decide +kernel), List.mem_of_getElem? (i := 2025) (by decide +kernel), List.mem_of_getElem? (i := 2026) (by decide +kernel)⟩
def lw_privs_7 : List (MethodName × Nat) := [(⟨"ShadowPoolModel", "lateOf", "(II)J"⟩, 93), (⟨"ShadowPoolModel", "lights", "(II)V"⟩, 93), (⟨"ShadowPoolModel", "placeOf", "(I)I"⟩, 93), (⟨"ShadowPoolModel", "nearOf", "(III)J"⟩, 93), (⟨"ShadowPoolModel", "givenTo", "(II)I"⟩, 93), (⟨"ShadowPoolModel", "taken", "(II)I"⟩, 93), (⟨"ShadowPoolModel", "thieves", "(I)V"⟩, 93), (⟨"ShadowPoolModel", "noon", "(I)V"⟩, 93), (⟨"ShadowPoolModel", "ownIn", "(I)I"⟩, 93), (⟨"ShadowPoolModel", "layOrder", "(II)Z"⟩, 93), (⟨"ShadowPoolModel", "layTried", "()V"⟩, 93), (⟨"ShadowPoolModel", "isOrder", "(I)Z"⟩, 93), (⟨"ShadowPoolModel", "laySwaps", "()V"⟩, 93), (⟨"ShadowPoolModel", "rowNow", "()I"⟩, 93), (⟨"ShadowPoolModel", "meetsRow", "(III)V"⟩, 93), (⟨"ShadowPoolModel", "isHome", "(I)Z"⟩, 93)]
theorem lw_r7 : ∀ q ∈ lw_privs_7, lw_okq q := List.forall_mem_cons.mpr ⟨lw_p96, List.forall_mem_cons.mpr ⟨lw_p97, List.forall_mem_cons.mpr ⟨lw_p98, List.forall_mem_cons.mpr ⟨lw_p99, List.forall_mem_cons.mpr ⟨lw_p100, List.forall_mem_cons.mpr ⟨lw_p101, List.forall_mem_cons.mpr ⟨lw_p102, List.forall_mem_cons.mpr ⟨lw_p103, List.forall_mem_cons.mpr ⟨lw_p104, List.forall_mem_cons.mpr ⟨lw_p105, List.forall_mem_cons.mpr ⟨lw_p106, List.forall_mem_cons.mpr ⟨lw_p107, List.forall_mem_cons.mpr ⟨lw_p108, List.forall_mem_cons.mpr ⟨lw_p109, List.forall_mem_cons.mpr ⟨lw_p110, List.forall_mem_cons.mpr ⟨lw_p111, fun _ h => absurd h List.not_mem_nil⟩⟩⟩⟩⟩⟩⟩⟩⟩⟩⟩⟩⟩⟩⟩⟩
theorem lw_p112 : lw_okq (⟨"ShadowPoolModel", "ofLook", "(I)I"⟩, 93) := ⟨⟨by decide +kernel, by decide +kernel⟩, List.mem_of_getElem? (i := 1386) (by decide +kernel), List.mem_of_getElem? (i := 2056) (by decide +kernel), List.mem_of_getElem? (i := 2057) (by decide +kernel)⟩
theorem lw_p113 : lw_okq (⟨"ShadowPoolModel", "noted", "(III)I"⟩, 93) := ⟨⟨by decide +kernel, by decide +kernel⟩, List.mem_of_getElem? (i := 1386) (by decide +kernel), List.mem_of_getElem? (i := 2072) (by decide +kernel), List.mem_of_getElem? (i := 2073) (by decide +kernel)⟩
theorem lw_p114 : lw_okq (⟨"ShadowPoolModel", "knownBy", "()I"⟩, 93) := ⟨⟨by decide +kernel, by decide +kernel⟩, List.mem_of_getElem? (i := 1386) (by decide +kernel), List.mem_of_getElem? (i := 2088) (by decide +kernel), List.mem_of_getElem? (i := 2089) (by decide +kernel)⟩
theorem lw_p115 : lw_okq (⟨"ShadowPoolModel", "keepsAll", "()V"⟩, 93) := ⟨⟨by decide +kernel, by decide +kernel⟩, List.mem_of_getElem? (i := 1386) (by decide +kernel), List.mem_of_getElem? (i := 2092) (by decide +kernel), List.mem_of_getElem? (i := 2093) (by decide +kernel)⟩
theorem lw_p116 : lw_okq (⟨"ShadowPoolModel", "layTextTried", "()V"⟩, 93) := ⟨⟨by decide +kernel, by decide +kernel⟩, List.mem_of_getElem? (i := 1386) (by decide +kernel), List.mem_of_getElem? (i := 2096) (by decide +kernel), List.mem_of_getElem? (i := 2097) (by decide +kernel)⟩
theorem lw_p117 : lw_okq (⟨"ShadowPoolModel", "isSo", "(I)Z"⟩, 93) := ⟨⟨by decide +kernel, by decide +kernel⟩, List.mem_of_getElem? (i := 1386) (by decide +kernel), List.mem_of_getElem? (i := 2100) (by decide +kernel), List.mem_of_getElem? (i := 2101) (by decide +kernel)⟩
theorem lw_p118 : lw_okq (⟨"ShadowPoolModel", "takesAll", "()V"⟩, 93) := ⟨⟨by decide +kernel, by decide +kernel⟩, List.mem_of_getElem? (i := 1386) (by decide +kernel), List.mem_of_getElem? (i := 2104) (by decide +kernel), List.mem_of_getElem? (i := 2105) (by decide +kernel)⟩
theorem lw_p119 : lw_okq (⟨"ShadowPoolModel", "restAt", "(III)I"⟩, 93) := ⟨⟨by decide +kernel, by decide +kernel⟩, List.mem_of_getElem? (i := 1386) (by decide +kernel), List.mem_of_getElem? (i := 2112) (by decide +kernel), List.mem_of_getElem? (i := 2113) (by decide +kernel)⟩
theorem lw_p120 : lw_okq (⟨"ShadowPoolModel", "priceOf", "(II)I"⟩, 93) := ⟨⟨by decide +kernel, by decide +kernel⟩, List.mem_of_getElem? (i := 1386) (by decide +kernel), List.mem_of_getElem? (i := 2124) (by decide +kernel), List.mem_of_getElem? (i := 2125) (by decide +kernel)⟩
theorem lw_p121 : lw_okq (⟨"ShadowPoolModel", "take", "([II)V"⟩, 93) := ⟨⟨by decide +kernel, by decide +kernel⟩, List.mem_of_getElem? (i := 1386) (by decide +kernel), List.mem_of_getElem? (i := 2155) (by decide +kernel), List.mem_of_getElem? (i := 2156) (by decide +kernel)⟩
def lw_privs_8 : List (MethodName × Nat) := [(⟨"ShadowPoolModel", "ofLook", "(I)I"⟩, 93), (⟨"ShadowPoolModel", "noted", "(III)I"⟩, 93), (⟨"ShadowPoolModel", "knownBy", "()I"⟩, 93), (⟨"ShadowPoolModel", "keepsAll", "()V"⟩, 93), (⟨"ShadowPoolModel", "layTextTried", "()V"⟩, 93), (⟨"ShadowPoolModel", "isSo", "(I)Z"⟩, 93), (⟨"ShadowPoolModel", "takesAll", "()V"⟩, 93), (⟨"ShadowPoolModel", "restAt", "(III)I"⟩, 93), (⟨"ShadowPoolModel", "priceOf", "(II)I"⟩, 93), (⟨"ShadowPoolModel", "take", "([II)V"⟩, 93)]
theorem lw_r8 : ∀ q ∈ lw_privs_8, lw_okq q := List.forall_mem_cons.mpr ⟨lw_p112, List.forall_mem_cons.mpr ⟨lw_p113, List.forall_mem_cons.mpr ⟨lw_p114, List.forall_mem_cons.mpr ⟨lw_p115, List.forall_mem_cons.mpr ⟨lw_p116, List.forall_mem_cons.mpr ⟨lw_p117, List.forall_mem_cons.mpr ⟨lw_p118, List.forall_mem_cons.mpr ⟨lw_p119, List.forall_mem_cons.mpr ⟨lw_p120, List.forall_mem_cons.mpr ⟨lw_p121, fun _ h => absurd h List.not_mem_nil⟩⟩⟩⟩⟩⟩⟩⟩⟩⟩
def lw_privs : List (MethodName × Nat) := lw_privs_1 ++ (lw_privs_2 ++ (lw_privs_3 ++ (lw_privs_4 ++ (lw_privs_5 ++ (lw_privs_6 ++ (lw_privs_7 ++ (lw_privs_8)))))))
def lw_tbl : List Cond := k2_sels lw_privs ++ tables_1
theorem lw_privs_ok : ∀ q ∈ lw_privs, lw_okq q := by
  show ∀ q ∈ lw_privs_1 ++ (lw_privs_2 ++ (lw_privs_3 ++ (lw_privs_4 ++ (lw_privs_5 ++ (lw_privs_6 ++ (lw_privs_7 ++ (lw_privs_8))))))), lw_okq q
  exact List.forall_mem_append.mpr ⟨lw_r1, List.forall_mem_append.mpr ⟨lw_r2, List.forall_mem_append.mpr ⟨lw_r3, List.forall_mem_append.mpr ⟨lw_r4, List.forall_mem_append.mpr ⟨lw_r5, List.forall_mem_append.mpr ⟨lw_r6, List.forall_mem_append.mpr ⟨lw_r7, lw_r8⟩⟩⟩⟩⟩⟩⟩
def RX0 : String := "ShadowPool$Day"
def TX0 : u_T := fun k => match k with
  | 0 => ("ShadowPool$Day", "told", "LShadowPool$Told;", true)
  | 1 => ("ShadowPool$Day", "ways", "LShadowPool$Ways;", true)
  | 2 => ("ShadowPool$Day", "late", "[J", true)
  | _ => ("ShadowPool$Day", "near", "[J", true)
def tyX0 : Nat → FieldType := fun k => match k with
  | 0 => .object "ShadowPool$Told"
  | 1 => .object "ShadowPool$Ways"
  | 2 => .array .long
  | _ => .array .long
abbrev wsX00 : List Cond := u_ws RX0 TX0 4
theorem nmX0 : ∀ a, a < 4 → ∀ b, b < 4 → a ≠ b → (TX0 a).2.1 ≠ (TX0 b).2.1 := by decide +kernel
theorem tyX0_ok : ∀ k, k < 4 → parseFieldDescriptor (TX0 k).2.2.1 = some (tyX0 k) := by decide +kernel
def RX1 : String := "ShadowPool$Deeds"
def TX1 : u_T := fun k => match k with
  | 0 => ("ShadowPool$Deeds", "kinds", "[I", true)
  | 1 => ("ShadowPool$Deeds", "ones", "[I", true)
  | 2 => ("ShadowPool$Deeds", "others", "[I", true)
  | 3 => ("ShadowPool$Deeds", "places", "[I", true)
  | _ => ("ShadowPool$Deeds", "size", "I", false)
def tyX1 : Nat → FieldType := fun k => match k with
  | 0 => .array .int
  | 1 => .array .int
  | 2 => .array .int
  | 3 => .array .int
  | _ => .int
abbrev wsX10 : List Cond := u_ws RX1 TX1 5
theorem nmX1 : ∀ a, a < 5 → ∀ b, b < 5 → a ≠ b → (TX1 a).2.1 ≠ (TX1 b).2.1 := by decide +kernel
theorem tyX1_ok : ∀ k, k < 5 → parseFieldDescriptor (TX1 k).2.2.1 = some (tyX1 k) := by decide +kernel
def RX2 : String := "ShadowPool$Finder"
def TX2 : u_T := fun k => match k with
  | 0 => ("ShadowPool$Finder", "day", "LShadowPool$Day;", true)
  | 1 => ("ShadowPool$Finder", "told", "LShadowPool$Told;", true)
  | 2 => ("ShadowPool$Finder", "ways", "LShadowPool$Ways;", true)
  | 3 => ("ShadowPool$Finder", "start", "LShadowPool$Scene;", true)
  | 4 => ("ShadowPool$Finder", "trial", "LShadowPool$Scene;", true)
  | 5 => ("ShadowPool$Finder", "order", "[I", true)
  | 6 => ("ShadowPool$Finder", "found", "[I", true)
  | 7 => ("ShadowPool$Finder", "hangLamp", "I", false)
  | 8 => ("ShadowPool$Finder", "hangPlace", "I", false)
  | 9 => ("ShadowPool$Finder", "hangOwn", "I", false)
  | 10 => ("ShadowPool$Finder", "gains", "[I", true)
  | 11 => ("ShadowPool$Finder", "otherGains", "[I", true)
  | _ => ("ShadowPool$Finder", "restList", "[I", true)
def tyX2 : Nat → FieldType := fun k => match k with
  | 0 => .object "ShadowPool$Day"
  | 1 => .object "ShadowPool$Told"
  | 2 => .object "ShadowPool$Ways"
  | 3 => .object "ShadowPool$Scene"
  | 4 => .object "ShadowPool$Scene"
  | 5 => .array .int
  | 6 => .array .int
  | 7 => .int
  | 8 => .int
  | 9 => .int
  | 10 => .array .int
  | 11 => .array .int
  | _ => .array .int
abbrev wsX20 : List Cond := u_ws RX2 TX2 13
theorem nmX2 : ∀ a, a < 13 → ∀ b, b < 13 → a ≠ b → (TX2 a).2.1 ≠ (TX2 b).2.1 := by decide +kernel
theorem tyX2_ok : ∀ k, k < 13 → parseFieldDescriptor (TX2 k).2.2.1 = some (tyX2 k) := by decide +kernel
def RX3 : String := "ShadowPool$Laws"
def TX3 : u_T := fun k => match k with
  | 0 => ("ShadowPool$Laws", "kind", "[I", true)
  | 1 => ("ShadowPool$Laws", "value", "[I", true)
  | 2 => ("ShadowPool$Laws", "knots", "I", false)
  | 3 => ("ShadowPool$Laws", "from", "[I", true)
  | 4 => ("ShadowPool$Laws", "to", "[I", true)
  | 5 => ("ShadowPool$Laws", "names", "[J", true)
  | _ => ("ShadowPool$Laws", "stack", "[J", true)
def tyX3 : Nat → FieldType := fun k => match k with
  | 0 => .array .int
  | 1 => .array .int
  | 2 => .int
  | 3 => .array .int
  | 4 => .array .int
  | 5 => .array .long
  | _ => .array .long
abbrev wsX30 : List Cond := u_ws RX3 TX3 7
theorem nmX3 : ∀ a, a < 7 → ∀ b, b < 7 → a ≠ b → (TX3 a).2.1 ≠ (TX3 b).2.1 := by decide +kernel
theorem tyX3_ok : ∀ k, k < 7 → parseFieldDescriptor (TX3 k).2.2.1 = some (tyX3 k) := by decide +kernel
def RX4 : String := "ShadowPool$Memory"
def TX4 : u_T := fun k => match k with
  | 0 => ("ShadowPool$Memory", "days", "[I", true)
  | 1 => ("ShadowPool$Memory", "things", "[I", true)
  | 2 => ("ShadowPool$Memory", "whats", "[I", true)
  | 3 => ("ShadowPool$Memory", "struck", "[Z", true)
  | 4 => ("ShadowPool$Memory", "size", "I", false)
  | _ => ("ShadowPool$Memory", "by", "I", false)
def tyX4 : Nat → FieldType := fun k => match k with
  | 0 => .array .int
  | 1 => .array .int
  | 2 => .array .int
  | 3 => .array .boolean
  | 4 => .int
  | _ => .int
abbrev wsX40 : List Cond := u_ws RX4 TX4 6
theorem nmX4 : ∀ a, a < 6 → ∀ b, b < 6 → a ≠ b → (TX4 a).2.1 ≠ (TX4 b).2.1 := by decide +kernel
theorem tyX4_ok : ∀ k, k < 6 → parseFieldDescriptor (TX4 k).2.2.1 = some (tyX4 k) := by decide +kernel
def RX5 : String := "ShadowPool$Reader"
def TX5 : u_T := fun k => match k with
  | 0 => ("ShadowPool$Reader", "scan", "LShadowPool$Scanner;", true)
  | 1 => ("ShadowPool$Reader", "draft", "LShadowPool$Told;", true)
  | 2 => ("ShadowPool$Reader", "waiting", "[I", true)
  | 3 => ("ShadowPool$Reader", "waits", "I", false)
  | 4 => ("ShadowPool$Reader", "counted", "I", false)
  | 5 => ("ShadowPool$Reader", "open", "I", false)
  | 6 => ("ShadowPool$Reader", "operandDue", "Z", false)
  | 7 => ("ShadowPool$Reader", "notMayStand", "Z", false)
  | 8 => ("ShadowPool$Reader", "ruled", "Z", false)
  | 9 => ("ShadowPool$Reader", "fogged", "Z", false)
  | 10 => ("ShadowPool$Reader", "seeded", "Z", false)
  | 11 => ("ShadowPool$Reader", "taken", "I", false)
  | 12 => ("ShadowPool$Reader", "faultKind", "I", false)
  | _ => ("ShadowPool$Reader", "faultPlace", "I", false)
def tyX5 : Nat → FieldType := fun k => match k with
  | 0 => .object "ShadowPool$Scanner"
  | 1 => .object "ShadowPool$Told"
  | 2 => .array .int
  | 3 => .int
  | 4 => .int
  | 5 => .int
  | 6 => .boolean
  | 7 => .boolean
  | 8 => .boolean
  | 9 => .boolean
  | 10 => .boolean
  | 11 => .int
  | 12 => .int
  | _ => .int
abbrev wsX50 : List Cond := u_ws RX5 TX5 14
theorem nmX5 : ∀ a, a < 14 → ∀ b, b < 14 → a ≠ b → (TX5 a).2.1 ≠ (TX5 b).2.1 := by decide +kernel
theorem tyX5_ok : ∀ k, k < 14 → parseFieldDescriptor (TX5 k).2.2.1 = some (tyX5 k) := by decide +kernel
def RX6 : String := "ShadowPool$Scanner"
def TX6 : u_T := fun k => match k with
  | 0 => ("ShadowPool$Scanner", "bytes", "[B", true)
  | 1 => ("ShadowPool$Scanner", "language", "[I", true)
  | 2 => ("ShadowPool$Scanner", "length", "I", false)
  | 3 => ("ShadowPool$Scanner", "at", "I", false)
  | 4 => ("ShadowPool$Scanner", "kind", "I", false)
  | 5 => ("ShadowPool$Scanner", "place", "I", false)
  | 6 => ("ShadowPool$Scanner", "letters", "I", false)
  | _ => ("ShadowPool$Scanner", "value", "I", false)
def tyX6 : Nat → FieldType := fun k => match k with
  | 0 => .array .byte
  | 1 => .array .int
  | 2 => .int
  | 3 => .int
  | 4 => .int
  | 5 => .int
  | 6 => .int
  | _ => .int
abbrev wsX60 : List Cond := u_ws RX6 TX6 8
theorem nmX6 : ∀ a, a < 8 → ∀ b, b < 8 → a ≠ b → (TX6 a).2.1 ≠ (TX6 b).2.1 := by decide +kernel
theorem tyX6_ok : ∀ k, k < 8 → parseFieldDescriptor (TX6 k).2.2.1 = some (tyX6 k) := by decide +kernel
def RX7 : String := "ShadowPool$Scene"
def TX7 : u_T := fun k => match k with
  | 0 => ("ShadowPool$Scene", "things", "I", false)
  | 1 => ("ShadowPool$Scene", "has", "[I", true)
  | 2 => ("ShadowPool$Scene", "row", "[I", true)
  | 3 => ("ShadowPool$Scene", "rowLength", "I", false)
  | 4 => ("ShadowPool$Scene", "hung", "[I", true)
  | 5 => ("ShadowPool$Scene", "order", "[I", true)
  | 6 => ("ShadowPool$Scene", "lit", "I", false)
  | 7 => ("ShadowPool$Scene", "first", "[I", true)
  | 8 => ("ShadowPool$Scene", "second", "[I", true)
  | 9 => ("ShadowPool$Scene", "meetings", "I", false)
  | 10 => ("ShadowPool$Scene", "day", "I", false)
  | _ => ("ShadowPool$Scene", "number", "I", false)
def tyX7 : Nat → FieldType := fun k => match k with
  | 0 => .int
  | 1 => .array .int
  | 2 => .array .int
  | 3 => .int
  | 4 => .array .int
  | 5 => .array .int
  | 6 => .int
  | 7 => .array .int
  | 8 => .array .int
  | 9 => .int
  | 10 => .int
  | _ => .int
abbrev wsX70 : List Cond := u_ws RX7 TX7 12
theorem nmX7 : ∀ a, a < 12 → ∀ b, b < 12 → a ≠ b → (TX7 a).2.1 ≠ (TX7 b).2.1 := by decide +kernel
theorem tyX7_ok : ∀ k, k < 12 → parseFieldDescriptor (TX7 k).2.2.1 = some (tyX7 k) := by decide +kernel
def RX8 : String := "ShadowPool$Swapper"
def TX8 : u_T := fun k => match k with
  | 0 => ("ShadowPool$Swapper", "states", "[I", true)
  | 1 => ("ShadowPool$Swapper", "cameFrom", "[I", true)
  | 2 => ("ShadowPool$Swapper", "cameBy", "[I", true)
  | 3 => ("ShadowPool$Swapper", "way", "[I", true)
  | _ => ("ShadowPool$Swapper", "size", "I", false)
def tyX8 : Nat → FieldType := fun k => match k with
  | 0 => .array .int
  | 1 => .array .int
  | 2 => .array .int
  | 3 => .array .int
  | _ => .int
abbrev wsX80 : List Cond := u_ws RX8 TX8 5
theorem nmX8 : ∀ a, a < 5 → ∀ b, b < 5 → a ≠ b → (TX8 a).2.1 ≠ (TX8 b).2.1 := by decide +kernel
theorem tyX8_ok : ∀ k, k < 5 → parseFieldDescriptor (TX8 k).2.2.1 = some (tyX8 k) := by decide +kernel
def RX9 : String := "ShadowPool$Told"
def TX9 : u_T := fun k => match k with
  | 0 => ("ShadowPool$Told", "things", "I", false)
  | 1 => ("ShadowPool$Told", "letters", "[I", true)
  | 2 => ("ShadowPool$Told", "place", "[I", true)
  | 3 => ("ShadowPool$Told", "size", "[I", true)
  | 4 => ("ShadowPool$Told", "shape", "[I", true)
  | 5 => ("ShadowPool$Told", "looks", "[I", true)
  | 6 => ("ShadowPool$Told", "comes", "[I", true)
  | 7 => ("ShadowPool$Told", "how", "[I", true)
  | 8 => ("ShadowPool$Told", "lamps", "I", false)
  | 9 => ("ShadowPool$Told", "hung", "[I", true)
  | 10 => ("ShadowPool$Told", "reach", "[I", true)
  | 11 => ("ShadowPool$Told", "meetings", "I", false)
  | 12 => ("ShadowPool$Told", "first", "[I", true)
  | 13 => ("ShadowPool$Told", "second", "[I", true)
  | 14 => ("ShadowPool$Told", "rule", "I", false)
  | 15 => ("ShadowPool$Told", "fog", "I", false)
  | 16 => ("ShadowPool$Told", "seed", "I", false)
  | _ => ("ShadowPool$Told", "laws", "LShadowPool$Laws;", true)
def tyX9 : Nat → FieldType := fun k => match k with
  | 0 => .int
  | 1 => .array .int
  | 2 => .array .int
  | 3 => .array .int
  | 4 => .array .int
  | 5 => .array .int
  | 6 => .array .int
  | 7 => .array .int
  | 8 => .int
  | 9 => .array .int
  | 10 => .array .int
  | 11 => .int
  | 12 => .array .int
  | 13 => .array .int
  | 14 => .int
  | 15 => .int
  | 16 => .int
  | _ => .object "ShadowPool$Laws"
abbrev wsX90 : List Cond := u_ws RX9 TX9 18
theorem nmX9 : ∀ a, a < 18 → ∀ b, b < 18 → a ≠ b → (TX9 a).2.1 ≠ (TX9 b).2.1 := by decide +kernel
theorem tyX9_ok : ∀ k, k < 18 → parseFieldDescriptor (TX9 k).2.2.1 = some (tyX9 k) := by decide +kernel
def RX10 : String := "ShadowPool$Ways"
def TX10 : u_T := fun k => match k with
  | 0 => ("ShadowPool$Ways", "comes", "[I", true)
  | 1 => ("ShadowPool$Ways", "how", "[I", true)
  | 2 => ("ShadowPool$Ways", "reach", "[I", true)
  | _ => ("ShadowPool$Ways", "rule", "I", false)
def tyX10 : Nat → FieldType := fun k => match k with
  | 0 => .array .int
  | 1 => .array .int
  | 2 => .array .int
  | _ => .int
abbrev wsX100 : List Cond := u_ws RX10 TX10 4
theorem nmX10 : ∀ a, a < 4 → ∀ b, b < 4 → a ≠ b → (TX10 a).2.1 ≠ (TX10 b).2.1 := by decide +kernel
theorem tyX10_ok : ∀ k, k < 4 → parseFieldDescriptor (TX10 k).2.2.1 = some (tyX10 k) := by decide +kernel
def RX11 : String := "ShadowPool"
def TX11 : u_T := fun k => match k with
  | 0 => ("ShadowPool", "reader", "LShadowPool$Reader;", true)
  | 1 => ("ShadowPool", "tape", "[B", true)
  | 2 => ("ShadowPool", "taped", "I", false)
  | 3 => ("ShadowPool", "faultKind", "I", false)
  | 4 => ("ShadowPool", "faultPlace", "I", false)
  | 5 => ("ShadowPool", "finder", "LShadowPool$Finder;", true)
  | 6 => ("ShadowPool", "day", "LShadowPool$Day;", true)
  | 7 => ("ShadowPool", "told", "LShadowPool$Told;", true)
  | 8 => ("ShadowPool", "ways", "LShadowPool$Ways;", true)
  | 9 => ("ShadowPool", "now", "LShadowPool$Scene;", true)
  | 10 => ("ShadowPool", "image", "LShadowPool$Scene;", true)
  | 11 => ("ShadowPool", "imaged", "Z", false)
  | 12 => ("ShadowPool", "trial", "LShadowPool$Scene;", true)
  | 13 => ("ShadowPool", "swapper", "LShadowPool$Swapper;", true)
  | 14 => ("ShadowPool", "memory", "LShadowPool$Memory;", true)
  | _ => ("ShadowPool", "deeds", "LShadowPool$Deeds;", true)
def tyX11 : Nat → FieldType := fun k => match k with
  | 0 => .object "ShadowPool$Reader"
  | 1 => .array .byte
  | 2 => .int
  | 3 => .int
  | 4 => .int
  | 5 => .object "ShadowPool$Finder"
  | 6 => .object "ShadowPool$Day"
  | 7 => .object "ShadowPool$Told"
  | 8 => .object "ShadowPool$Ways"
  | 9 => .object "ShadowPool$Scene"
  | 10 => .object "ShadowPool$Scene"
  | 11 => .boolean
  | 12 => .object "ShadowPool$Scene"
  | 13 => .object "ShadowPool$Swapper"
  | 14 => .object "ShadowPool$Memory"
  | _ => .object "ShadowPool$Deeds"
abbrev wsX110 : List Cond := u_ws RX11 TX11 16
theorem nmX11 : ∀ a, a < 16 → ∀ b, b < 16 → a ≠ b → (TX11 a).2.1 ≠ (TX11 b).2.1 := by decide +kernel
theorem tyX11_ok : ∀ k, k < 16 → parseFieldDescriptor (TX11 k).2.2.1 = some (tyX11 k) := by decide +kernel
def RX12 : String := "ShadowPoolModel"
def TX12 : u_T := fun k => match k with
  | 0 => ("ShadowPoolModel", "tape", "[I", true)
  | 1 => ("ShadowPoolModel", "tapeSize", "I", false)
  | 2 => ("ShadowPoolModel", "thrown", "I", false)
  | 3 => ("ShadowPoolModel", "words", "[I", true)
  | 4 => ("ShadowPoolModel", "fault", "I", false)
  | 5 => ("ShadowPoolModel", "faultPlace", "I", false)
  | 6 => ("ShadowPoolModel", "stop", "I", false)
  | 7 => ("ShadowPoolModel", "next", "I", false)
  | 8 => ("ShadowPoolModel", "kind", "I", false)
  | 9 => ("ShadowPoolModel", "which", "I", false)
  | 10 => ("ShadowPoolModel", "at", "I", false)
  | 11 => ("ShadowPoolModel", "got", "I", false)
  | 12 => ("ShadowPoolModel", "things", "I", false)
  | 13 => ("ShadowPoolModel", "lamps", "I", false)
  | 14 => ("ShadowPoolModel", "meetsTold", "I", false)
  | 15 => ("ShadowPoolModel", "knots", "I", false)
  | 16 => ("ShadowPoolModel", "thingsRead", "I", false)
  | 17 => ("ShadowPoolModel", "lampsRead", "I", false)
  | 18 => ("ShadowPoolModel", "meetsRead", "I", false)
  | 19 => ("ShadowPoolModel", "knotsRead", "I", false)
  | 20 => ("ShadowPoolModel", "onceTold", "[Z", true)
  | 21 => ("ShadowPoolModel", "once", "[I", true)
  | 22 => ("ShadowPoolModel", "thingName", "[I", true)
  | 23 => ("ShadowPoolModel", "thingPlace", "[I", true)
  | 24 => ("ShadowPoolModel", "thingSize", "[I", true)
  | 25 => ("ShadowPoolModel", "thingShape", "[I", true)
  | 26 => ("ShadowPoolModel", "thingComes", "[I", true)
  | 27 => ("ShadowPoolModel", "thingHow", "[I", true)
  | 28 => ("ShadowPoolModel", "lampTold", "[I", true)
  | 29 => ("ShadowPoolModel", "lampReach", "[I", true)
  | 30 => ("ShadowPoolModel", "meetOne", "[I", true)
  | 31 => ("ShadowPoolModel", "meetTwo", "[I", true)
  | 32 => ("ShadowPoolModel", "lawTold", "[Z", true)
  | 33 => ("ShadowPoolModel", "first", "[I", true)
  | 34 => ("ShadowPoolModel", "last", "[I", true)
  | 35 => ("ShadowPoolModel", "knot", "[I", true)
  | 36 => ("ShadowPoolModel", "part", "[I", true)
  | 37 => ("ShadowPoolModel", "other", "[I", true)
  | 38 => ("ShadowPoolModel", "wait", "[I", true)
  | 39 => ("ShadowPoolModel", "held", "[I", true)
  | 40 => ("ShadowPoolModel", "waits", "I", false)
  | 41 => ("ShadowPoolModel", "helds", "I", false)
  | 42 => ("ShadowPoolModel", "brackets", "I", false)
  | 43 => ("ShadowPoolModel", "counted", "I", false)
  | 44 => ("ShadowPoolModel", "wants", "Z", false)
  | 45 => ("ShadowPoolModel", "mayNot", "Z", false)
  | 46 => ("ShadowPoolModel", "names", "[J", true)
  | 47 => ("ShadowPoolModel", "value", "[J", true)
  | 48 => ("ShadowPoolModel", "isError", "Z", false)
  | 49 => ("ShadowPoolModel", "has", "[I", true)
  | 50 => ("ShadowPoolModel", "wall", "[I", true)
  | 51 => ("ShadowPoolModel", "walls", "[I", true)
  | 52 => ("ShadowPoolModel", "day", "[I", true)
  | 53 => ("ShadowPoolModel", "lampAt", "[I", true)
  | 54 => ("ShadowPoolModel", "order", "[I", true)
  | 55 => ("ShadowPoolModel", "meetings", "I", false)
  | 56 => ("ShadowPoolModel", "one", "[I", true)
  | 57 => ("ShadowPoolModel", "two", "[I", true)
  | 58 => ("ShadowPoolModel", "drawn", "J", false)
  | 59 => ("ShadowPoolModel", "ruleBy", "I", false)
  | 60 => ("ShadowPoolModel", "noMeets", "Z", false)
  | 61 => ("ShadowPoolModel", "allReach", "Z", false)
  | 62 => ("ShadowPoolModel", "noneShy", "Z", false)
  | 63 => ("ShadowPoolModel", "thief", "I", false)
  | 64 => ("ShadowPoolModel", "lampOut", "I", false)
  | 65 => ("ShadowPoolModel", "lampMoved", "I", false)
  | 66 => ("ShadowPoolModel", "movedTo", "I", false)
  | 67 => ("ShadowPoolModel", "comes", "[I", true)
  | 68 => ("ShadowPoolModel", "lates", "[J", true)
  | 69 => ("ShadowPoolModel", "rowBest", "[I", true)
  | 70 => ("ShadowPoolModel", "rowOwn", "I", false)
  | 71 => ("ShadowPoolModel", "rowAt", "[I", true)
  | 72 => ("ShadowPoolModel", "rowFrom", "[I", true)
  | 73 => ("ShadowPoolModel", "rowBy", "[I", true)
  | 74 => ("ShadowPoolModel", "isMet", "[Z", true)
  | 75 => ("ShadowPoolModel", "rowsMet", "I", false)
  | 76 => ("ShadowPoolModel", "swapBy", "[I", true)
  | 77 => ("ShadowPoolModel", "swapMany", "I", false)
  | 78 => ("ShadowPoolModel", "seenMany", "I", false)
  | 79 => ("ShadowPoolModel", "knownTold", "I", false)
  | 80 => ("ShadowPoolModel", "seen", "[I", true)
  | 81 => ("ShadowPoolModel", "counts", "[Z", true)
  | 82 => ("ShadowPoolModel", "kept", "[I", true)
  | 83 => ("ShadowPoolModel", "hasOne", "[I", true)
  | 84 => ("ShadowPoolModel", "hasTwo", "[I", true)
  | 85 => ("ShadowPoolModel", "undos", "I", false)
  | 86 => ("ShadowPoolModel", "undo", "[I", true)
  | 87 => ("ShadowPoolModel", "hasImage", "Z", false)
  | 88 => ("ShadowPoolModel", "image", "[I", true)
  | 89 => ("ShadowPoolModel", "imageWall", "[I", true)
  | 90 => ("ShadowPoolModel", "imageWalls", "I", false)
  | 91 => ("ShadowPoolModel", "imageDay", "I", false)
  | _ => ("ShadowPoolModel", "imageDrawn", "J", false)
def tyX12 : Nat → FieldType := fun k => match k with
  | 0 => .array .int
  | 1 => .int
  | 2 => .int
  | 3 => .array .int
  | 4 => .int
  | 5 => .int
  | 6 => .int
  | 7 => .int
  | 8 => .int
  | 9 => .int
  | 10 => .int
  | 11 => .int
  | 12 => .int
  | 13 => .int
  | 14 => .int
  | 15 => .int
  | 16 => .int
  | 17 => .int
  | 18 => .int
  | 19 => .int
  | 20 => .array .boolean
  | 21 => .array .int
  | 22 => .array .int
  | 23 => .array .int
  | 24 => .array .int
  | 25 => .array .int
  | 26 => .array .int
  | 27 => .array .int
  | 28 => .array .int
  | 29 => .array .int
  | 30 => .array .int
  | 31 => .array .int
  | 32 => .array .boolean
  | 33 => .array .int
  | 34 => .array .int
  | 35 => .array .int
  | 36 => .array .int
  | 37 => .array .int
  | 38 => .array .int
  | 39 => .array .int
  | 40 => .int
  | 41 => .int
  | 42 => .int
  | 43 => .int
  | 44 => .boolean
  | 45 => .boolean
  | 46 => .array .long
  | 47 => .array .long
  | 48 => .boolean
  | 49 => .array .int
  | 50 => .array .int
  | 51 => .array .int
  | 52 => .array .int
  | 53 => .array .int
  | 54 => .array .int
  | 55 => .int
  | 56 => .array .int
  | 57 => .array .int
  | 58 => .long
  | 59 => .int
  | 60 => .boolean
  | 61 => .boolean
  | 62 => .boolean
  | 63 => .int
  | 64 => .int
  | 65 => .int
  | 66 => .int
  | 67 => .array .int
  | 68 => .array .long
  | 69 => .array .int
  | 70 => .int
  | 71 => .array .int
  | 72 => .array .int
  | 73 => .array .int
  | 74 => .array .boolean
  | 75 => .int
  | 76 => .array .int
  | 77 => .int
  | 78 => .int
  | 79 => .int
  | 80 => .array .int
  | 81 => .array .boolean
  | 82 => .array .int
  | 83 => .array .int
  | 84 => .array .int
  | 85 => .int
  | 86 => .array .int
  | 87 => .boolean
  | 88 => .array .int
  | 89 => .array .int
  | 90 => .int
  | 91 => .int
  | _ => .long
abbrev wsX120 : List Cond := u_ws RX12 TX12 93
theorem nmX12 : ∀ a, a < 93 → ∀ b, b < 93 → a ≠ b → (TX12 a).2.1 ≠ (TX12 b).2.1 := by decide +kernel
theorem tyX12_ok : ∀ k, k < 93 → parseFieldDescriptor (TX12 k).2.2.1 = some (tyX12 k) := by decide +kernel
abbrev vwCl : List vw_C := [(RX0, TX0, 4), (RX1, TX1, 5), (RX2, TX2, 13), (RX3, TX3, 7), (RX4, TX4, 6), (RX5, TX5, 14), (RX6, TX6, 8), (RX7, TX7, 12), (RX8, TX8, 5), (RX9, TX9, 18), (RX10, TX10, 4), (RX11, TX11, 16), (RX12, TX12, 93)]
