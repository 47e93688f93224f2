-- ===== PART A: goes FIRST, ahead of the names: the tables' words, and 'selects' of the private methods out of them =====
/-- a private method of a class that the tables say can be made, by its rows of tables_1 -/
def lw_okq (q : MethodName × Nat) : Prop := (q.1.cls ≠ "java/lang/invoke/MethodHandle" ∧ q.1.cls ≠ "java/lang/invoke/VarHandle") ∧ Cond.instantiable q.1.cls q.2 ∈ tables_1 ∧ Cond.privateMethod q.1 ∈ tables_1 ∧ Cond.instanceMethod q.1 ∈ tables_1
theorem lw_p0 : lw_okq (⟨"OtherwiseCourt$Law", "goesOn", "(I)Z"⟩, 19) := ⟨⟨by decide +kernel, by decide +kernel⟩, List.mem_of_getElem? (i := 108) (by decide +kernel), List.mem_of_getElem? (i := 384) (by decide +kernel), List.mem_of_getElem? (i := 385) (by decide +kernel)⟩
theorem lw_p1 : lw_okq (⟨"OtherwiseCourt$Law", "beginsClause", "(I)Z"⟩, 19) := ⟨⟨by decide +kernel, by decide +kernel⟩, List.mem_of_getElem? (i := 108) (by decide +kernel), List.mem_of_getElem? (i := 388) (by decide +kernel), List.mem_of_getElem? (i := 389) (by decide +kernel)⟩
theorem lw_p2 : lw_okq (⟨"OtherwiseCourt$Law", "goesOnWord", "(I)Z"⟩, 19) := ⟨⟨by decide +kernel, by decide +kernel⟩, List.mem_of_getElem? (i := 108) (by decide +kernel), List.mem_of_getElem? (i := 392) (by decide +kernel), List.mem_of_getElem? (i := 393) (by decide +kernel)⟩
theorem lw_p3 : lw_okq (⟨"OtherwiseCourt$Law", "beginNumber", "(I)V"⟩, 19) := ⟨⟨by decide +kernel, by decide +kernel⟩, List.mem_of_getElem? (i := 108) (by decide +kernel), List.mem_of_getElem? (i := 447) (by decide +kernel), List.mem_of_getElem? (i := 448) (by decide +kernel)⟩
theorem lw_p4 : lw_okq (⟨"OtherwiseCourt$Law", "isDigit", "(I)Z"⟩, 19) := ⟨⟨by decide +kernel, by decide +kernel⟩, List.mem_of_getElem? (i := 108) (by decide +kernel), List.mem_of_getElem? (i := 451) (by decide +kernel), List.mem_of_getElem? (i := 452) (by decide +kernel)⟩
theorem lw_p5 : lw_okq (⟨"OtherwiseCourt$Law", "endsAmount", "(I)Z"⟩, 19) := ⟨⟨by decide +kernel, by decide +kernel⟩, List.mem_of_getElem? (i := 108) (by decide +kernel), List.mem_of_getElem? (i := 455) (by decide +kernel), List.mem_of_getElem? (i := 456) (by decide +kernel)⟩
theorem lw_p6 : lw_okq (⟨"OtherwiseCourt$Law", "beginsFactor", "(I)Z"⟩, 19) := ⟨⟨by decide +kernel, by decide +kernel⟩, List.mem_of_getElem? (i := 108) (by decide +kernel), List.mem_of_getElem? (i := 459) (by decide +kernel), List.mem_of_getElem? (i := 460) (by decide +kernel)⟩
theorem lw_p7 : lw_okq (⟨"OtherwiseCourt$Law", "compares", "(I)Z"⟩, 19) := ⟨⟨by decide +kernel, by decide +kernel⟩, List.mem_of_getElem? (i := 108) (by decide +kernel), List.mem_of_getElem? (i := 463) (by decide +kernel), List.mem_of_getElem? (i := 464) (by decide +kernel)⟩
theorem lw_p8 : lw_okq (⟨"OtherwiseCourt$Law", "endsTest", "(I)Z"⟩, 19) := ⟨⟨by decide +kernel, by decide +kernel⟩, List.mem_of_getElem? (i := 108) (by decide +kernel), List.mem_of_getElem? (i := 467) (by decide +kernel), List.mem_of_getElem? (i := 468) (by decide +kernel)⟩
theorem lw_p9 : lw_okq (⟨"OtherwiseCourt$Law", "endFactor", "(I)V"⟩, 19) := ⟨⟨by decide +kernel, by decide +kernel⟩, List.mem_of_getElem? (i := 108) (by decide +kernel), List.mem_of_getElem? (i := 471) (by decide +kernel), List.mem_of_getElem? (i := 472) (by decide +kernel)⟩
theorem lw_p10 : lw_okq (⟨"OtherwiseCourt$Law", "goesBehind", "(I)Z"⟩, 19) := ⟨⟨by decide +kernel, by decide +kernel⟩, List.mem_of_getElem? (i := 108) (by decide +kernel), List.mem_of_getElem? (i := 475) (by decide +kernel), List.mem_of_getElem? (i := 476) (by decide +kernel)⟩
theorem lw_p11 : lw_okq (⟨"OtherwiseCourt$Law", "grow", "([II)V"⟩, 19) := ⟨⟨by decide +kernel, by decide +kernel⟩, List.mem_of_getElem? (i := 108) (by decide +kernel), List.mem_of_getElem? (i := 479) (by decide +kernel), List.mem_of_getElem? (i := 480) (by decide +kernel)⟩
theorem lw_p12 : lw_okq (⟨"OtherwiseCourt", "openFor", "(I)V"⟩, 8) := ⟨⟨by decide +kernel, by decide +kernel⟩, List.mem_of_getElem? (i := 18) (by decide +kernel), List.mem_of_getElem? (i := 529) (by decide +kernel), List.mem_of_getElem? (i := 530) (by decide +kernel)⟩
theorem lw_p13 : lw_okq (⟨"OtherwiseCourt$Sitting", "rowTells", "(I)I"⟩, 11) := ⟨⟨by decide +kernel, by decide +kernel⟩, List.mem_of_getElem? (i := 178) (by decide +kernel), List.mem_of_getElem? (i := 591) (by decide +kernel), List.mem_of_getElem? (i := 592) (by decide +kernel)⟩
theorem lw_p14 : lw_okq (⟨"OtherwiseCourt$Sitting", "wasFor", "(I)Z"⟩, 11) := ⟨⟨by decide +kernel, by decide +kernel⟩, List.mem_of_getElem? (i := 178) (by decide +kernel), List.mem_of_getElem? (i := 605) (by decide +kernel), List.mem_of_getElem? (i := 606) (by decide +kernel)⟩
theorem lw_p15 : lw_okq (⟨"OtherwiseCourt$Search", "prepareSuits", "(LOtherwiseCourt$Hall;)V"⟩, 7) := ⟨⟨by decide +kernel, by decide +kernel⟩, List.mem_of_getElem? (i := 264) (by decide +kernel), List.mem_of_getElem? (i := 655) (by decide +kernel), List.mem_of_getElem? (i := 656) (by decide +kernel)⟩
def lw_privs_1 : List (MethodName × Nat) := [(⟨"OtherwiseCourt$Law", "goesOn", "(I)Z"⟩, 19), (⟨"OtherwiseCourt$Law", "beginsClause", "(I)Z"⟩, 19), (⟨"OtherwiseCourt$Law", "goesOnWord", "(I)Z"⟩, 19), (⟨"OtherwiseCourt$Law", "beginNumber", "(I)V"⟩, 19), (⟨"OtherwiseCourt$Law", "isDigit", "(I)Z"⟩, 19), (⟨"OtherwiseCourt$Law", "endsAmount", "(I)Z"⟩, 19), (⟨"OtherwiseCourt$Law", "beginsFactor", "(I)Z"⟩, 19), (⟨"OtherwiseCourt$Law", "compares", "(I)Z"⟩, 19), (⟨"OtherwiseCourt$Law", "endsTest", "(I)Z"⟩, 19), (⟨"OtherwiseCourt$Law", "endFactor", "(I)V"⟩, 19), (⟨"OtherwiseCourt$Law", "goesBehind", "(I)Z"⟩, 19), (⟨"OtherwiseCourt$Law", "grow", "([II)V"⟩, 19), (⟨"OtherwiseCourt", "openFor", "(I)V"⟩, 8), (⟨"OtherwiseCourt$Sitting", "rowTells", "(I)I"⟩, 11), (⟨"OtherwiseCourt$Sitting", "wasFor", "(I)Z"⟩, 11), (⟨"OtherwiseCourt$Search", "prepareSuits", "(LOtherwiseCourt$Hall;)V"⟩, 7)]
theorem lw_r1 : ∀ q ∈ lw_privs_1, lw_okq q := List.forall_mem_cons.mpr ⟨lw_p0, List.forall_mem_cons.mpr ⟨lw_p1, List.forall_mem_cons.mpr ⟨lw_p2, List.forall_mem_cons.mpr ⟨lw_p3, List.forall_mem_cons.mpr ⟨lw_p4, List.forall_mem_cons.mpr ⟨lw_p5, List.forall_mem_cons.mpr ⟨lw_p6, List.forall_mem_cons.mpr ⟨lw_p7, List.forall_mem_cons.mpr ⟨lw_p8, List.forall_mem_cons.mpr ⟨lw_p9, List.forall_mem_cons.mpr ⟨lw_p10, List.forall_mem_cons.mpr ⟨lw_p11, List.forall_mem_cons.mpr ⟨lw_p12, List.forall_mem_cons.mpr ⟨lw_p13, List.forall_mem_cons.mpr ⟨lw_p14, List.forall_mem_cons.mpr ⟨lw_p15, fun _ h => absurd h List.not_mem_nil⟩⟩⟩⟩⟩⟩⟩⟩⟩⟩⟩⟩⟩⟩⟩⟩
theorem lw_p16 : lw_okq (⟨"OtherwiseCourt$Search", "bring", "(III)V"⟩, 7) := ⟨⟨by decide +kernel, by decide +kernel⟩, List.mem_of_getElem? (i := 264) (by decide +kernel), List.mem_of_getElem? (i := 663) (by decide +kernel), List.mem_of_getElem? (i := 664) (by decide +kernel)⟩
theorem lw_p17 : lw_okq (⟨"OtherwiseCourt$Search", "winsBehind", "(I)Z"⟩, 7) := ⟨⟨by decide +kernel, by decide +kernel⟩, List.mem_of_getElem? (i := 264) (by decide +kernel), List.mem_of_getElem? (i := 696) (by decide +kernel), List.mem_of_getElem? (i := 697) (by decide +kernel)⟩
theorem lw_p18 : lw_okq (⟨"OtherwiseCourt$Search", "turns", "(IIZI)I"⟩, 7) := ⟨⟨by decide +kernel, by decide +kernel⟩, List.mem_of_getElem? (i := 264) (by decide +kernel), List.mem_of_getElem? (i := 712) (by decide +kernel), List.mem_of_getElem? (i := 713) (by decide +kernel)⟩
theorem lw_p19 : lw_okq (⟨"OtherwiseCourt$Coins", "come", "(III)V"⟩, 3) := ⟨⟨by decide +kernel, by decide +kernel⟩, List.mem_of_getElem? (i := 298) (by decide +kernel), List.mem_of_getElem? (i := 771) (by decide +kernel), List.mem_of_getElem? (i := 772) (by decide +kernel)⟩
theorem lw_p20 : lw_okq (⟨"OtherwiseCourt$Coins", "settle", "(IIIZ)V"⟩, 3) := ⟨⟨by decide +kernel, by decide +kernel⟩, List.mem_of_getElem? (i := 298) (by decide +kernel), List.mem_of_getElem? (i := 780) (by decide +kernel), List.mem_of_getElem? (i := 781) (by decide +kernel)⟩
theorem lw_p21 : lw_okq (⟨"OtherwiseCourt$Deeds", "run", "(IIII)I"⟩, 5) := ⟨⟨by decide +kernel, by decide +kernel⟩, List.mem_of_getElem? (i := 317) (by decide +kernel), List.mem_of_getElem? (i := 802) (by decide +kernel), List.mem_of_getElem? (i := 803) (by decide +kernel)⟩
theorem lw_p22 : lw_okq (⟨"OtherwiseCourt$Deeds", "note", "(I)V"⟩, 5) := ⟨⟨by decide +kernel, by decide +kernel⟩, List.mem_of_getElem? (i := 317) (by decide +kernel), List.mem_of_getElem? (i := 813) (by decide +kernel), List.mem_of_getElem? (i := 814) (by decide +kernel)⟩
theorem lw_p23 : lw_okq (⟨"OtherwiseCourtModel", "clauseHere", "()V"⟩, 31) := ⟨⟨by decide +kernel, by decide +kernel⟩, List.mem_of_getElem? (i := 843) (by decide +kernel), List.mem_of_getElem? (i := 953) (by decide +kernel), List.mem_of_getElem? (i := 954) (by decide +kernel)⟩
theorem lw_p24 : lw_okq (⟨"OtherwiseCourtModel", "here", "()I"⟩, 31) := ⟨⟨by decide +kernel, by decide +kernel⟩, List.mem_of_getElem? (i := 843) (by decide +kernel), List.mem_of_getElem? (i := 957) (by decide +kernel), List.mem_of_getElem? (i := 958) (by decide +kernel)⟩
theorem lw_p25 : lw_okq (⟨"OtherwiseCourtModel", "much", "(ILjava/lang/String;)V"⟩, 31) := ⟨⟨by decide +kernel, by decide +kernel⟩, List.mem_of_getElem? (i := 843) (by decide +kernel), List.mem_of_getElem? (i := 962) (by decide +kernel), List.mem_of_getElem? (i := 963) (by decide +kernel)⟩
theorem lw_p26 : lw_okq (⟨"OtherwiseCourtModel", "spells", "(Ljava/lang/String;)V"⟩, 31) := ⟨⟨by decide +kernel, by decide +kernel⟩, List.mem_of_getElem? (i := 843) (by decide +kernel), List.mem_of_getElem? (i := 966) (by decide +kernel), List.mem_of_getElem? (i := 967) (by decide +kernel)⟩
theorem lw_p27 : lw_okq (⟨"OtherwiseCourtModel", "must", "(I)V"⟩, 31) := ⟨⟨by decide +kernel, by decide +kernel⟩, List.mem_of_getElem? (i := 843) (by decide +kernel), List.mem_of_getElem? (i := 972) (by decide +kernel), List.mem_of_getElem? (i := 973) (by decide +kernel)⟩
theorem lw_p28 : lw_okq (⟨"OtherwiseCourtModel", "figures", "()I"⟩, 31) := ⟨⟨by decide +kernel, by decide +kernel⟩, List.mem_of_getElem? (i := 843) (by decide +kernel), List.mem_of_getElem? (i := 976) (by decide +kernel), List.mem_of_getElem? (i := 977) (by decide +kernel)⟩
theorem lw_p29 : lw_okq (⟨"OtherwiseCourtModel", "some", "()V"⟩, 31) := ⟨⟨by decide +kernel, by decide +kernel⟩, List.mem_of_getElem? (i := 843) (by decide +kernel), List.mem_of_getElem? (i := 980) (by decide +kernel), List.mem_of_getElem? (i := 981) (by decide +kernel)⟩
theorem lw_p30 : lw_okq (⟨"OtherwiseCourtModel", "every", "()V"⟩, 31) := ⟨⟨by decide +kernel, by decide +kernel⟩, List.mem_of_getElem? (i := 843) (by decide +kernel), List.mem_of_getElem? (i := 984) (by decide +kernel), List.mem_of_getElem? (i := 985) (by decide +kernel)⟩
theorem lw_p31 : lw_okq (⟨"OtherwiseCourtModel", "factor", "()V"⟩, 31) := ⟨⟨by decide +kernel, by decide +kernel⟩, List.mem_of_getElem? (i := 843) (by decide +kernel), List.mem_of_getElem? (i := 988) (by decide +kernel), List.mem_of_getElem? (i := 989) (by decide +kernel)⟩
def lw_privs_2 : List (MethodName × Nat) := [(⟨"OtherwiseCourt$Search", "bring", "(III)V"⟩, 7), (⟨"OtherwiseCourt$Search", "winsBehind", "(I)Z"⟩, 7), (⟨"OtherwiseCourt$Search", "turns", "(IIZI)I"⟩, 7), (⟨"OtherwiseCourt$Coins", "come", "(III)V"⟩, 3), (⟨"OtherwiseCourt$Coins", "settle", "(IIIZ)V"⟩, 3), (⟨"OtherwiseCourt$Deeds", "run", "(IIII)I"⟩, 5), (⟨"OtherwiseCourt$Deeds", "note", "(I)V"⟩, 5), (⟨"OtherwiseCourtModel", "clauseHere", "()V"⟩, 31), (⟨"OtherwiseCourtModel", "here", "()I"⟩, 31), (⟨"OtherwiseCourtModel", "much", "(ILjava/lang/String;)V"⟩, 31), (⟨"OtherwiseCourtModel", "spells", "(Ljava/lang/String;)V"⟩, 31), (⟨"OtherwiseCourtModel", "must", "(I)V"⟩, 31), (⟨"OtherwiseCourtModel", "figures", "()I"⟩, 31), (⟨"OtherwiseCourtModel", "some", "()V"⟩, 31), (⟨"OtherwiseCourtModel", "every", "()V"⟩, 31), (⟨"OtherwiseCourtModel", "factor", "()V"⟩, 31)]
theorem lw_r2 : ∀ q ∈ lw_privs_2, lw_okq q := List.forall_mem_cons.mpr ⟨lw_p16, List.forall_mem_cons.mpr ⟨lw_p17, List.forall_mem_cons.mpr ⟨lw_p18, List.forall_mem_cons.mpr ⟨lw_p19, List.forall_mem_cons.mpr ⟨lw_p20, List.forall_mem_cons.mpr ⟨lw_p21, List.forall_mem_cons.mpr ⟨lw_p22, List.forall_mem_cons.mpr ⟨lw_p23, List.forall_mem_cons.mpr ⟨lw_p24, List.forall_mem_cons.mpr ⟨lw_p25, List.forall_mem_cons.mpr ⟨lw_p26, List.forall_mem_cons.mpr ⟨lw_p27, List.forall_mem_cons.mpr ⟨lw_p28, List.forall_mem_cons.mpr ⟨lw_p29, List.forall_mem_cons.mpr ⟨lw_p30, List.forall_mem_cons.mpr ⟨lw_p31, fun _ h => absurd h List.not_mem_nil⟩⟩⟩⟩⟩⟩⟩⟩⟩⟩⟩⟩⟩⟩⟩⟩
theorem lw_p32 : lw_okq (⟨"OtherwiseCourtModel", "emits", "(I)V"⟩, 31) := ⟨⟨by decide +kernel, by decide +kernel⟩, List.mem_of_getElem? (i := 843) (by decide +kernel), List.mem_of_getElem? (i := 992) (by decide +kernel), List.mem_of_getElem? (i := 993) (by decide +kernel)⟩
theorem lw_p33 : lw_okq (⟨"OtherwiseCourtModel", "among", "(Ljava/lang/String;)I"⟩, 31) := ⟨⟨by decide +kernel, by decide +kernel⟩, List.mem_of_getElem? (i := 843) (by decide +kernel), List.mem_of_getElem? (i := 997) (by decide +kernel), List.mem_of_getElem? (i := 998) (by decide +kernel)⟩
theorem lw_p34 : lw_okq (⟨"OtherwiseCourtModel", "barNow", "()I"⟩, 31) := ⟨⟨by decide +kernel, by decide +kernel⟩, List.mem_of_getElem? (i := 843) (by decide +kernel), List.mem_of_getElem? (i := 1012) (by decide +kernel), List.mem_of_getElem? (i := 1013) (by decide +kernel)⟩
theorem lw_p35 : lw_okq (⟨"OtherwiseCourtModel", "isSuit", "(I)Z"⟩, 31) := ⟨⟨by decide +kernel, by decide +kernel⟩, List.mem_of_getElem? (i := 843) (by decide +kernel), List.mem_of_getElem? (i := 1024) (by decide +kernel), List.mem_of_getElem? (i := 1025) (by decide +kernel)⟩
theorem lw_p36 : lw_okq (⟨"OtherwiseCourtModel", "isJudge", "(I)Z"⟩, 31) := ⟨⟨by decide +kernel, by decide +kernel⟩, List.mem_of_getElem? (i := 843) (by decide +kernel), List.mem_of_getElem? (i := 1036) (by decide +kernel), List.mem_of_getElem? (i := 1037) (by decide +kernel)⟩
theorem lw_p37 : lw_okq (⟨"OtherwiseCourtModel", "looks", "(II)V"⟩, 31) := ⟨⟨by decide +kernel, by decide +kernel⟩, List.mem_of_getElem? (i := 843) (by decide +kernel), List.mem_of_getElem? (i := 1044) (by decide +kernel), List.mem_of_getElem? (i := 1045) (by decide +kernel)⟩
theorem lw_p38 : lw_okq (⟨"OtherwiseCourtModel", "looksFor", "(I)V"⟩, 31) := ⟨⟨by decide +kernel, by decide +kernel⟩, List.mem_of_getElem? (i := 843) (by decide +kernel), List.mem_of_getElem? (i := 1053) (by decide +kernel), List.mem_of_getElem? (i := 1054) (by decide +kernel)⟩
theorem lw_p39 : lw_okq (⟨"OtherwiseCourtModel", "scoreOf", "(II)I"⟩, 31) := ⟨⟨by decide +kernel, by decide +kernel⟩, List.mem_of_getElem? (i := 843) (by decide +kernel), List.mem_of_getElem? (i := 1057) (by decide +kernel), List.mem_of_getElem? (i := 1058) (by decide +kernel)⟩
theorem lw_p40 : lw_okq (⟨"OtherwiseCourtModel", "opens", "()V"⟩, 31) := ⟨⟨by decide +kernel, by decide +kernel⟩, List.mem_of_getElem? (i := 843) (by decide +kernel), List.mem_of_getElem? (i := 1065) (by decide +kernel), List.mem_of_getElem? (i := 1066) (by decide +kernel)⟩
theorem lw_p41 : lw_okq (⟨"OtherwiseCourtModel", "writes", "(IZ)V"⟩, 31) := ⟨⟨by decide +kernel, by decide +kernel⟩, List.mem_of_getElem? (i := 843) (by decide +kernel), List.mem_of_getElem? (i := 1069) (by decide +kernel), List.mem_of_getElem? (i := 1070) (by decide +kernel)⟩
theorem lw_p42 : lw_okq (⟨"OtherwiseCourtModel", "isForIt", "(II)Z"⟩, 31) := ⟨⟨by decide +kernel, by decide +kernel⟩, List.mem_of_getElem? (i := 843) (by decide +kernel), List.mem_of_getElem? (i := 1073) (by decide +kernel), List.mem_of_getElem? (i := 1074) (by decide +kernel)⟩
theorem lw_p43 : lw_okq (⟨"OtherwiseCourtModel", "decidesBy", "(II)I"⟩, 31) := ⟨⟨by decide +kernel, by decide +kernel⟩, List.mem_of_getElem? (i := 843) (by decide +kernel), List.mem_of_getElem? (i := 1077) (by decide +kernel), List.mem_of_getElem? (i := 1078) (by decide +kernel)⟩
theorem lw_p44 : lw_okq (⟨"OtherwiseCourtModel", "isLike", "(II)Z"⟩, 31) := ⟨⟨by decide +kernel, by decide +kernel⟩, List.mem_of_getElem? (i := 843) (by decide +kernel), List.mem_of_getElem? (i := 1084) (by decide +kernel), List.mem_of_getElem? (i := 1085) (by decide +kernel)⟩
theorem lw_p45 : lw_okq (⟨"OtherwiseCourtModel", "decidesMost", "(II)I"⟩, 31) := ⟨⟨by decide +kernel, by decide +kernel⟩, List.mem_of_getElem? (i := 843) (by decide +kernel), List.mem_of_getElem? (i := 1088) (by decide +kernel), List.mem_of_getElem? (i := 1089) (by decide +kernel)⟩
theorem lw_p46 : lw_okq (⟨"OtherwiseCourtModel", "likeOne", "(II)I"⟩, 31) := ⟨⟨by decide +kernel, by decide +kernel⟩, List.mem_of_getElem? (i := 843) (by decide +kernel), List.mem_of_getElem? (i := 1092) (by decide +kernel), List.mem_of_getElem? (i := 1093) (by decide +kernel)⟩
theorem lw_p47 : lw_okq (⟨"OtherwiseCourtModel", "enters", "(IZ)I"⟩, 31) := ⟨⟨by decide +kernel, by decide +kernel⟩, List.mem_of_getElem? (i := 843) (by decide +kernel), List.mem_of_getElem? (i := 1100) (by decide +kernel), List.mem_of_getElem? (i := 1101) (by decide +kernel)⟩
def lw_privs_3 : List (MethodName × Nat) := [(⟨"OtherwiseCourtModel", "emits", "(I)V"⟩, 31), (⟨"OtherwiseCourtModel", "among", "(Ljava/lang/String;)I"⟩, 31), (⟨"OtherwiseCourtModel", "barNow", "()I"⟩, 31), (⟨"OtherwiseCourtModel", "isSuit", "(I)Z"⟩, 31), (⟨"OtherwiseCourtModel", "isJudge", "(I)Z"⟩, 31), (⟨"OtherwiseCourtModel", "looks", "(II)V"⟩, 31), (⟨"OtherwiseCourtModel", "looksFor", "(I)V"⟩, 31), (⟨"OtherwiseCourtModel", "scoreOf", "(II)I"⟩, 31), (⟨"OtherwiseCourtModel", "opens", "()V"⟩, 31), (⟨"OtherwiseCourtModel", "writes", "(IZ)V"⟩, 31), (⟨"OtherwiseCourtModel", "isForIt", "(II)Z"⟩, 31), (⟨"OtherwiseCourtModel", "decidesBy", "(II)I"⟩, 31), (⟨"OtherwiseCourtModel", "isLike", "(II)Z"⟩, 31), (⟨"OtherwiseCourtModel", "decidesMost", "(II)I"⟩, 31), (⟨"OtherwiseCourtModel", "likeOne", "(II)I"⟩, 31), (⟨"OtherwiseCourtModel", "enters", "(IZ)I"⟩, 31)]
theorem lw_r3 : ∀ q ∈ lw_privs_3, lw_okq q := List.forall_mem_cons.mpr ⟨lw_p32, List.forall_mem_cons.mpr ⟨lw_p33, List.forall_mem_cons.mpr ⟨lw_p34, List.forall_mem_cons.mpr ⟨lw_p35, List.forall_mem_cons.mpr ⟨lw_p36, List.forall_mem_cons.mpr ⟨lw_p37, List.forall_mem_cons.mpr ⟨lw_p38, List.forall_mem_cons.mpr ⟨lw_p39, List.forall_mem_cons.mpr ⟨lw_p40, List.forall_mem_cons.mpr ⟨lw_p41, List.forall_mem_cons.mpr ⟨lw_p42, List.forall_mem_cons.mpr ⟨lw_p43, List.forall_mem_cons.mpr ⟨lw_p44, List.forall_mem_cons.mpr ⟨lw_p45, List.forall_mem_cons.mpr ⟨lw_p46, List.forall_mem_cons.mpr ⟨lw_p47, fun _ h => absurd h List.not_mem_nil⟩⟩⟩⟩⟩⟩⟩⟩⟩⟩⟩⟩⟩⟩⟩⟩
theorem lw_p48 : lw_okq (⟨"OtherwiseCourtModel", "isSet", "(I)Z"⟩, 31) := ⟨⟨by decide +kernel, by decide +kernel⟩, List.mem_of_getElem? (i := 843) (by decide +kernel), List.mem_of_getElem? (i := 1116) (by decide +kernel), List.mem_of_getElem? (i := 1117) (by decide +kernel)⟩
theorem lw_p49 : lw_okq (⟨"OtherwiseCourtModel", "ordersFrom", "(IIII)V"⟩, 31) := ⟨⟨by decide +kernel, by decide +kernel⟩, List.mem_of_getElem? (i := 843) (by decide +kernel), List.mem_of_getElem? (i := 1121) (by decide +kernel), List.mem_of_getElem? (i := 1122) (by decide +kernel)⟩
theorem lw_p50 : lw_okq (⟨"OtherwiseCourtModel", "hears", "(II)Z"⟩, 31) := ⟨⟨by decide +kernel, by decide +kernel⟩, List.mem_of_getElem? (i := 843) (by decide +kernel), List.mem_of_getElem? (i := 1125) (by decide +kernel), List.mem_of_getElem? (i := 1126) (by decide +kernel)⟩
theorem lw_p51 : lw_okq (⟨"OtherwiseCourtModel", "looksForShams", "(II)I"⟩, 31) := ⟨⟨by decide +kernel, by decide +kernel⟩, List.mem_of_getElem? (i := 843) (by decide +kernel), List.mem_of_getElem? (i := 1133) (by decide +kernel), List.mem_of_getElem? (i := 1134) (by decide +kernel)⟩
theorem lw_p52 : lw_okq (⟨"OtherwiseCourtModel", "rivals", "(IIIZZ)I"⟩, 31) := ⟨⟨by decide +kernel, by decide +kernel⟩, List.mem_of_getElem? (i := 843) (by decide +kernel), List.mem_of_getElem? (i := 1145) (by decide +kernel), List.mem_of_getElem? (i := 1146) (by decide +kernel)⟩
theorem lw_p53 : lw_okq (⟨"OtherwiseCourtModel", "firstUnlawful", "(II)I"⟩, 31) := ⟨⟨by decide +kernel, by decide +kernel⟩, List.mem_of_getElem? (i := 843) (by decide +kernel), List.mem_of_getElem? (i := 1161) (by decide +kernel), List.mem_of_getElem? (i := 1162) (by decide +kernel)⟩
theorem lw_p54 : lw_okq (⟨"OtherwiseCourtModel", "falls", "(IIII)J"⟩, 31) := ⟨⟨by decide +kernel, by decide +kernel⟩, List.mem_of_getElem? (i := 843) (by decide +kernel), List.mem_of_getElem? (i := 1182) (by decide +kernel), List.mem_of_getElem? (i := 1183) (by decide +kernel)⟩
theorem lw_p55 : lw_okq (⟨"OtherwiseCourtModel", "hearsActs", "(I)I"⟩, 31) := ⟨⟨by decide +kernel, by decide +kernel⟩, List.mem_of_getElem? (i := 843) (by decide +kernel), List.mem_of_getElem? (i := 1198) (by decide +kernel), List.mem_of_getElem? (i := 1199) (by decide +kernel)⟩
theorem lw_p56 : lw_okq (⟨"OtherwiseCourtModel", "ranBody", "(I)V"⟩, 31) := ⟨⟨by decide +kernel, by decide +kernel⟩, List.mem_of_getElem? (i := 843) (by decide +kernel), List.mem_of_getElem? (i := 1205) (by decide +kernel), List.mem_of_getElem? (i := 1206) (by decide +kernel)⟩
theorem lw_p57 : lw_okq (⟨"OtherwiseCourtModel", "plainHears", "(I)I"⟩, 31) := ⟨⟨by decide +kernel, by decide +kernel⟩, List.mem_of_getElem? (i := 843) (by decide +kernel), List.mem_of_getElem? (i := 1209) (by decide +kernel), List.mem_of_getElem? (i := 1210) (by decide +kernel)⟩
theorem lw_p58 : lw_okq (⟨"OtherwiseCourtModel", "weighsActs", "(I)I"⟩, 31) := ⟨⟨by decide +kernel, by decide +kernel⟩, List.mem_of_getElem? (i := 843) (by decide +kernel), List.mem_of_getElem? (i := 1213) (by decide +kernel), List.mem_of_getElem? (i := 1214) (by decide +kernel)⟩
theorem lw_p59 : lw_okq (⟨"OtherwiseCourtModel", "plainWeighs", "(I)I"⟩, 31) := ⟨⟨by decide +kernel, by decide +kernel⟩, List.mem_of_getElem? (i := 843) (by decide +kernel), List.mem_of_getElem? (i := 1217) (by decide +kernel), List.mem_of_getElem? (i := 1218) (by decide +kernel)⟩
theorem lw_p60 : lw_okq (⟨"OtherwiseCourtModel", "saysActs", "(I)I"⟩, 31) := ⟨⟨by decide +kernel, by decide +kernel⟩, List.mem_of_getElem? (i := 843) (by decide +kernel), List.mem_of_getElem? (i := 1221) (by decide +kernel), List.mem_of_getElem? (i := 1222) (by decide +kernel)⟩
theorem lw_p61 : lw_okq (⟨"OtherwiseCourtModel", "plainSays", "(I)I"⟩, 31) := ⟨⟨by decide +kernel, by decide +kernel⟩, List.mem_of_getElem? (i := 843) (by decide +kernel), List.mem_of_getElem? (i := 1225) (by decide +kernel), List.mem_of_getElem? (i := 1226) (by decide +kernel)⟩
def lw_privs_4 : List (MethodName × Nat) := [(⟨"OtherwiseCourtModel", "isSet", "(I)Z"⟩, 31), (⟨"OtherwiseCourtModel", "ordersFrom", "(IIII)V"⟩, 31), (⟨"OtherwiseCourtModel", "hears", "(II)Z"⟩, 31), (⟨"OtherwiseCourtModel", "looksForShams", "(II)I"⟩, 31), (⟨"OtherwiseCourtModel", "rivals", "(IIIZZ)I"⟩, 31), (⟨"OtherwiseCourtModel", "firstUnlawful", "(II)I"⟩, 31), (⟨"OtherwiseCourtModel", "falls", "(IIII)J"⟩, 31), (⟨"OtherwiseCourtModel", "hearsActs", "(I)I"⟩, 31), (⟨"OtherwiseCourtModel", "ranBody", "(I)V"⟩, 31), (⟨"OtherwiseCourtModel", "plainHears", "(I)I"⟩, 31), (⟨"OtherwiseCourtModel", "weighsActs", "(I)I"⟩, 31), (⟨"OtherwiseCourtModel", "plainWeighs", "(I)I"⟩, 31), (⟨"OtherwiseCourtModel", "saysActs", "(I)I"⟩, 31), (⟨"OtherwiseCourtModel", "plainSays", "(I)I"⟩, 31)]
theorem lw_r4 : ∀ q ∈ lw_privs_4, lw_okq q := List.forall_mem_cons.mpr ⟨lw_p48, List.forall_mem_cons.mpr ⟨lw_p49, List.forall_mem_cons.mpr ⟨lw_p50, List.forall_mem_cons.mpr ⟨lw_p51, List.forall_mem_cons.mpr ⟨lw_p52, List.forall_mem_cons.mpr ⟨lw_p53, List.forall_mem_cons.mpr ⟨lw_p54, List.forall_mem_cons.mpr ⟨lw_p55, List.forall_mem_cons.mpr ⟨lw_p56, List.forall_mem_cons.mpr ⟨lw_p57, List.forall_mem_cons.mpr ⟨lw_p58, List.forall_mem_cons.mpr ⟨lw_p59, List.forall_mem_cons.mpr ⟨lw_p60, List.forall_mem_cons.mpr ⟨lw_p61, fun _ h => absurd h List.not_mem_nil⟩⟩⟩⟩⟩⟩⟩⟩⟩⟩⟩⟩⟩⟩
def lw_privs : List (MethodName × Nat) := lw_privs_1 ++ (lw_privs_2 ++ (lw_privs_3 ++ (lw_privs_4)))
def lw_tbl : List Cond := k2_sels lw_privs ++ tables_1
theorem lw_privs_ok : ∀ q ∈ lw_privs, lw_okq q := by
  show ∀ q ∈ lw_privs_1 ++ (lw_privs_2 ++ (lw_privs_3 ++ (lw_privs_4))), lw_okq q
  exact List.forall_mem_append.mpr ⟨lw_r1, List.forall_mem_append.mpr ⟨lw_r2, List.forall_mem_append.mpr ⟨lw_r3, lw_r4⟩⟩⟩
-- names
def RX0 : String := "OtherwiseCourt$Coins"
def TX0 : u_T := fun k => match k with
  | 0 => ("OtherwiseCourt$Coins", "sitting", "LOtherwiseCourt$Sitting;", true)
  | 1 => ("OtherwiseCourt$Coins", "tallies", "[LOtherwiseCourt$Tally;", true)
  | _ => ("OtherwiseCourt$Coins", "chances", "[I", true)
def tyX0 : Nat → FieldType := fun k => match k with
  | 0 => .object "OtherwiseCourt$Sitting"
  | 1 => .array (.object "OtherwiseCourt$Tally")
  | _ => .array .int
def RX1 : String := "OtherwiseCourt$Deeds"
def TX1 : u_T := fun k => match k with
  | 0 => ("OtherwiseCourt$Deeds", "bodies", "[I", true)
  | 1 => ("OtherwiseCourt$Deeds", "ran", "I", false)
  | 2 => ("OtherwiseCourt$Deeds", "judge", "I", false)
  | 3 => ("OtherwiseCourt$Deeds", "kind", "I", false)
  | _ => ("OtherwiseCourt$Deeds", "number", "I", false)
def tyX1 : Nat → FieldType := fun k => match k with
  | 0 => .array .int
  | 1 => .int
  | 2 => .int
  | 3 => .int
  | _ => .int
def RX2 : String := "OtherwiseCourt$Hall"
def TX2 : u_T := fun k => match k with
  | 0 => ("OtherwiseCourt$Hall", "day", "I", false)
  | 1 => ("OtherwiseCourt$Hall", "suits", "I", false)
  | 2 => ("OtherwiseCourt$Hall", "points", "[I", true)
  | 3 => ("OtherwiseCourt$Hall", "worths", "[I", true)
  | 4 => ("OtherwiseCourt$Hall", "judges", "I", false)
  | 5 => ("OtherwiseCourt$Hall", "kinds", "[I", true)
  | 6 => ("OtherwiseCourt$Hall", "numbers", "[I", true)
  | 7 => ("OtherwiseCourt$Hall", "rows", "[I", true)
  | 8 => ("OtherwiseCourt$Hall", "entries", "I", false)
  | 9 => ("OtherwiseCourt$Hall", "book", "[I", true)
  | 10 => ("OtherwiseCourt$Hall", "queued", "I", false)
  | 11 => ("OtherwiseCourt$Hall", "queue", "[I", true)
  | 12 => ("OtherwiseCourt$Hall", "signs", "I", false)
  | 13 => ("OtherwiseCourt$Hall", "tape", "[B", true)
  | 14 => ("OtherwiseCourt$Hall", "courts", "I", false)
  | 15 => ("OtherwiseCourt$Hall", "lawSize", "I", false)
  | _ => ("OtherwiseCourt$Hall", "law", "[B", true)
def tyX2 : Nat → FieldType := fun k => match k with
  | 0 => .int
  | 1 => .int
  | 2 => .array .int
  | 3 => .array .int
  | 4 => .int
  | 5 => .array .int
  | 6 => .array .int
  | 7 => .array .int
  | 8 => .int
  | 9 => .array .int
  | 10 => .int
  | 11 => .array .int
  | 12 => .int
  | 13 => .array .byte
  | 14 => .int
  | 15 => .int
  | _ => .array .byte
def RX3 : String := "OtherwiseCourt$Law"
def TX3 : u_T := fun k => match k with
  | 0 => ("OtherwiseCourt$Law", "weights", "[I", true)
  | 1 => ("OtherwiseCourt$Law", "clashes", "[I", true)
  | 2 => ("OtherwiseCourt$Law", "bar", "I", false)
  | 3 => ("OtherwiseCourt$Law", "kind", "I", false)
  | 4 => ("OtherwiseCourt$Law", "number", "I", false)
  | 5 => ("OtherwiseCourt$Law", "day", "I", false)
  | 6 => ("OtherwiseCourt$Law", "state", "I", false)
  | 7 => ("OtherwiseCourt$Law", "verb", "I", false)
  | 8 => ("OtherwiseCourt$Law", "letter", "I", false)
  | 9 => ("OtherwiseCourt$Law", "clauses", "I", false)
  | 10 => ("OtherwiseCourt$Law", "amount", "I", false)
  | 11 => ("OtherwiseCourt$Law", "digits", "I", false)
  | 12 => ("OtherwiseCourt$Law", "times", "I", false)
  | 13 => ("OtherwiseCourt$Law", "of", "I", false)
  | 14 => ("OtherwiseCourt$Law", "how", "I", false)
  | 15 => ("OtherwiseCourt$Law", "open", "I", false)
  | 16 => ("OtherwiseCourt$Law", "openers", "[I", true)
  | 17 => ("OtherwiseCourt$Law", "terms", "[I", true)
  | _ => ("OtherwiseCourt$Law", "factors", "[I", true)
def tyX3 : Nat → FieldType := fun k => match k with
  | 0 => .array .int
  | 1 => .array .int
  | 2 => .int
  | 3 => .int
  | 4 => .int
  | 5 => .int
  | 6 => .int
  | 7 => .int
  | 8 => .int
  | 9 => .int
  | 10 => .int
  | 11 => .int
  | 12 => .int
  | 13 => .int
  | 14 => .int
  | 15 => .int
  | 16 => .array .int
  | 17 => .array .int
  | _ => .array .int
def RX4 : String := "OtherwiseCourt$Search"
def TX4 : u_T := fun k => match k with
  | 0 => ("OtherwiseCourt$Search", "sitting", "LOtherwiseCourt$Sitting;", true)
  | 1 => ("OtherwiseCourt$Search", "tallies", "[LOtherwiseCourt$Tally;", true)
  | 2 => ("OtherwiseCourt$Search", "worths", "[I", true)
  | 3 => ("OtherwiseCourt$Search", "tried", "[I", true)
  | 4 => ("OtherwiseCourt$Search", "row", "[I", true)
  | 5 => ("OtherwiseCourt$Search", "most", "I", false)
  | _ => ("OtherwiseCourt$Search", "first", "I", false)
def tyX4 : Nat → FieldType := fun k => match k with
  | 0 => .object "OtherwiseCourt$Sitting"
  | 1 => .array (.object "OtherwiseCourt$Tally")
  | 2 => .array .int
  | 3 => .array .int
  | 4 => .array .int
  | 5 => .int
  | _ => .int
def RX5 : String := "OtherwiseCourt$Sitting"
def TX5 : u_T := fun k => match k with
  | 0 => ("OtherwiseCourt$Sitting", "kind", "I", false)
  | 1 => ("OtherwiseCourt$Sitting", "number", "I", false)
  | 2 => ("OtherwiseCourt$Sitting", "bar", "I", false)
  | 3 => ("OtherwiseCourt$Sitting", "row", "[I", true)
  | 4 => ("OtherwiseCourt$Sitting", "weightOf", "[I", true)
  | 5 => ("OtherwiseCourt$Sitting", "clashOf", "[I", true)
  | 6 => ("OtherwiseCourt$Sitting", "heard", "I", false)
  | 7 => ("OtherwiseCourt$Sitting", "points", "[I", true)
  | 8 => ("OtherwiseCourt$Sitting", "fors", "[Z", true)
  | 9 => ("OtherwiseCourt$Sitting", "own", "LOtherwiseCourt$Tally;", true)
  | _ => ("OtherwiseCourt$Sitting", "passing", "LOtherwiseCourt$Tally;", true)
def tyX5 : Nat → FieldType := fun k => match k with
  | 0 => .int
  | 1 => .int
  | 2 => .int
  | 3 => .array .int
  | 4 => .array .int
  | 5 => .array .int
  | 6 => .int
  | 7 => .array .int
  | 8 => .array .boolean
  | 9 => .object "OtherwiseCourt$Tally"
  | _ => .object "OtherwiseCourt$Tally"
def RX6 : String := "OtherwiseCourt$Tally"
def TX6 : u_T := fun k => match k with
  | 0 => ("OtherwiseCourt$Tally", "points", "I", false)
  | 1 => ("OtherwiseCourt$Tally", "seen", "I", false)
  | 2 => ("OtherwiseCourt$Tally", "earliest", "I", false)
  | 3 => ("OtherwiseCourt$Tally", "latest", "I", false)
  | 4 => ("OtherwiseCourt$Tally", "nearest", "I", false)
  | 5 => ("OtherwiseCourt$Tally", "nearness", "I", false)
  | 6 => ("OtherwiseCourt$Tally", "wins", "I", false)
  | _ => ("OtherwiseCourt$Tally", "losses", "I", false)
def tyX6 : Nat → FieldType := fun k => match k with
  | 0 => .int
  | 1 => .int
  | 2 => .int
  | 3 => .int
  | 4 => .int
  | 5 => .int
  | 6 => .int
  | _ => .int
def RX7 : String := "OtherwiseCourt"
def TX7 : u_T := fun k => match k with
  | 0 => ("OtherwiseCourt", "hall", "LOtherwiseCourt$Hall;", true)
  | 1 => ("OtherwiseCourt", "kept", "LOtherwiseCourt$Hall;", true)
  | 2 => ("OtherwiseCourt", "imaged", "Z", false)
  | 3 => ("OtherwiseCourt", "law", "LOtherwiseCourt$Law;", true)
  | 4 => ("OtherwiseCourt", "sitting", "LOtherwiseCourt$Sitting;", true)
  | 5 => ("OtherwiseCourt", "search", "LOtherwiseCourt$Search;", true)
  | 6 => ("OtherwiseCourt", "coins", "LOtherwiseCourt$Coins;", true)
  | _ => ("OtherwiseCourt", "deeds", "LOtherwiseCourt$Deeds;", true)
def tyX7 : Nat → FieldType := fun k => match k with
  | 0 => .object "OtherwiseCourt$Hall"
  | 1 => .object "OtherwiseCourt$Hall"
  | 2 => .boolean
  | 3 => .object "OtherwiseCourt$Law"
  | 4 => .object "OtherwiseCourt$Sitting"
  | 5 => .object "OtherwiseCourt$Search"
  | 6 => .object "OtherwiseCourt$Coins"
  | _ => .object "OtherwiseCourt$Deeds"
def RX8 : String := "OtherwiseCourtModel"
def TX8 : u_T := fun k => match k with
  | 0 => ("OtherwiseCourtModel", "thrown", "I", false)
  | 1 => ("OtherwiseCourtModel", "s", "[I", true)
  | 2 => ("OtherwiseCourtModel", "image", "[I", true)
  | 3 => ("OtherwiseCourtModel", "hasImage", "Z", false)
  | 4 => ("OtherwiseCourtModel", "act", "I", false)
  | 5 => ("OtherwiseCourtModel", "spot", "I", false)
  | 6 => ("OtherwiseCourtModel", "end", "I", false)
  | 7 => ("OtherwiseCourtModel", "isWrong", "Z", false)
  | 8 => ("OtherwiseCourtModel", "open", "I", false)
  | 9 => ("OtherwiseCourtModel", "by", "[I", true)
  | 10 => ("OtherwiseCourtModel", "truths", "[Z", true)
  | 11 => ("OtherwiseCourtModel", "weighing", "I", false)
  | 12 => ("OtherwiseCourtModel", "clashing", "I", false)
  | 13 => ("OtherwiseCourtModel", "weights", "[I", true)
  | 14 => ("OtherwiseCourtModel", "clashes", "[I", true)
  | 15 => ("OtherwiseCourtModel", "bar", "I", false)
  | 16 => ("OtherwiseCourtModel", "points", "[I", true)
  | 17 => ("OtherwiseCourtModel", "isFor", "[Z", true)
  | 18 => ("OtherwiseCourtModel", "many", "I", false)
  | 19 => ("OtherwiseCourtModel", "byWhich", "I", false)
  | 20 => ("OtherwiseCourtModel", "likes", "I", false)
  | 21 => ("OtherwiseCourtModel", "order", "[I", true)
  | 22 => ("OtherwiseCourtModel", "bestOrder", "[I", true)
  | 23 => ("OtherwiseCourtModel", "bestSum", "I", false)
  | 24 => ("OtherwiseCourtModel", "shamPoints", "[I", true)
  | 25 => ("OtherwiseCourtModel", "firstOfOurs", "I", false)
  | 26 => ("OtherwiseCourtModel", "bodies", "[I", true)
  | 27 => ("OtherwiseCourtModel", "ran", "I", false)
  | 28 => ("OtherwiseCourtModel", "kind", "I", false)
  | 29 => ("OtherwiseCourtModel", "number", "I", false)
  | _ => ("OtherwiseCourtModel", "tellsV", "I", false)
def tyX8 : Nat → FieldType := fun k => match k with
  | 0 => .int
  | 1 => .array .int
  | 2 => .array .int
  | 3 => .boolean
  | 4 => .int
  | 5 => .int
  | 6 => .int
  | 7 => .boolean
  | 8 => .int
  | 9 => .array .int
  | 10 => .array .boolean
  | 11 => .int
  | 12 => .int
  | 13 => .array .int
  | 14 => .array .int
  | 15 => .int
  | 16 => .array .int
  | 17 => .array .boolean
  | 18 => .int
  | 19 => .int
  | 20 => .int
  | 21 => .array .int
  | 22 => .array .int
  | 23 => .int
  | 24 => .array .int
  | 25 => .int
  | 26 => .array .int
  | 27 => .int
  | 28 => .int
  | 29 => .int
  | _ => .int
theorem nmX0 : ∀ a, a < 3 → ∀ b, b < 3 → a ≠ b → (TX0 a).2.1 ≠ (TX0 b).2.1 := by decide +kernel
theorem tyX0_ok : ∀ k, k < 3 → parseFieldDescriptor (TX0 k).2.2.1 = some (tyX0 k) := by decide +kernel
theorem nmX1 : ∀ a, a < 5 → ∀ b, b < 5 → a ≠ b → (TX1 a).2.1 ≠ (TX1 b).2.1 := by decide +kernel
theorem tyX1_ok : ∀ k, k < 5 → parseFieldDescriptor (TX1 k).2.2.1 = some (tyX1 k) := by decide +kernel
theorem nmX2 : ∀ a, a < 17 → ∀ b, b < 17 → a ≠ b → (TX2 a).2.1 ≠ (TX2 b).2.1 := by decide +kernel
theorem tyX2_ok : ∀ k, k < 17 → parseFieldDescriptor (TX2 k).2.2.1 = some (tyX2 k) := by decide +kernel
theorem nmX3 : ∀ a, a < 19 → ∀ b, b < 19 → a ≠ b → (TX3 a).2.1 ≠ (TX3 b).2.1 := by decide +kernel
theorem tyX3_ok : ∀ k, k < 19 → parseFieldDescriptor (TX3 k).2.2.1 = some (tyX3 k) := by decide +kernel
theorem nmX4 : ∀ a, a < 7 → ∀ b, b < 7 → a ≠ b → (TX4 a).2.1 ≠ (TX4 b).2.1 := by decide +kernel
theorem tyX4_ok : ∀ k, k < 7 → parseFieldDescriptor (TX4 k).2.2.1 = some (tyX4 k) := by decide +kernel
theorem nmX5 : ∀ a, a < 11 → ∀ b, b < 11 → a ≠ b → (TX5 a).2.1 ≠ (TX5 b).2.1 := by decide +kernel
theorem tyX5_ok : ∀ k, k < 11 → parseFieldDescriptor (TX5 k).2.2.1 = some (tyX5 k) := by decide +kernel
theorem nmX6 : ∀ a, a < 8 → ∀ b, b < 8 → a ≠ b → (TX6 a).2.1 ≠ (TX6 b).2.1 := by decide +kernel
theorem tyX6_ok : ∀ k, k < 8 → parseFieldDescriptor (TX6 k).2.2.1 = some (tyX6 k) := by decide +kernel
theorem nmX7 : ∀ a, a < 8 → ∀ b, b < 8 → a ≠ b → (TX7 a).2.1 ≠ (TX7 b).2.1 := by decide +kernel
theorem tyX7_ok : ∀ k, k < 8 → parseFieldDescriptor (TX7 k).2.2.1 = some (tyX7 k) := by decide +kernel
theorem nmX8 : ∀ a, a < 31 → ∀ b, b < 31 → a ≠ b → (TX8 a).2.1 ≠ (TX8 b).2.1 := by decide +kernel
theorem tyX8_ok : ∀ k, k < 31 → parseFieldDescriptor (TX8 k).2.2.1 = some (tyX8 k) := by decide +kernel
abbrev cX0_init : ByteArray := prog_2_method_1_code
def yX0_init : MethodName := ⟨RX0, "<init>", "(LOtherwiseCourt$Sitting;)V"⟩
abbrev cX0_fall : ByteArray := prog_2_method_2_code
def yX0_fall : MethodName := ⟨RX0, "fall", "(LOtherwiseCourt$Hall;)V"⟩
abbrev cX0_come : ByteArray := prog_2_method_3_code
def yX0_come : MethodName := ⟨RX0, "come", "(III)V"⟩
abbrev cX0_settle : ByteArray := prog_2_method_4_code
def yX0_settle : MethodName := ⟨RX0, "settle", "(IIIZ)V"⟩
abbrev cX0_part : ByteArray := prog_2_method_5_code
def yX0_part : MethodName := ⟨RX0, "part", "(II)J"⟩
abbrev cX1_init : ByteArray := prog_3_method_1_code
def yX1_init : MethodName := ⟨RX1, "<init>", "()V"⟩
abbrev cX1_perform : ByteArray := prog_3_method_2_code
def yX1_perform : MethodName := ⟨RX1, "perform", "(IIIII)I"⟩
abbrev cX1_run : ByteArray := prog_3_method_3_code
def yX1_run : MethodName := ⟨RX1, "run", "(IIII)I"⟩
abbrev cX1_holderFrom : ByteArray := prog_3_method_4_code
def yX1_holderFrom : MethodName := ⟨RX1, "holderFrom", "(II)I"⟩
abbrev cX1_note : ByteArray := prog_3_method_5_code
def yX1_note : MethodName := ⟨RX1, "note", "(I)V"⟩
abbrev cX2_init : ByteArray := prog_4_method_1_code
def yX2_init : MethodName := ⟨RX2, "<init>", "()V"⟩
abbrev cX2_hasSuit : ByteArray := prog_4_method_2_code
def yX2_hasSuit : MethodName := ⟨RX2, "hasSuit", "(I)Z"⟩
abbrev cX2_hasSuits : ByteArray := prog_4_method_3_code
def yX2_hasSuits : MethodName := ⟨RX2, "hasSuits", "(I)Z"⟩
abbrev cX2_hasJudge : ByteArray := prog_4_method_4_code
def yX2_hasJudge : MethodName := ⟨RX2, "hasJudge", "(I)Z"⟩
abbrev cX2_pointsOf : ByteArray := prog_4_method_5_code
def yX2_pointsOf : MethodName := ⟨RX2, "pointsOf", "(I)I"⟩
abbrev cX2_worthOf : ByteArray := prog_4_method_6_code
def yX2_worthOf : MethodName := ⟨RX2, "worthOf", "(I)I"⟩
abbrev cX2_kindOf : ByteArray := prog_4_method_7_code
def yX2_kindOf : MethodName := ⟨RX2, "kindOf", "(I)I"⟩
abbrev cX2_numberOf : ByteArray := prog_4_method_8_code
def yX2_numberOf : MethodName := ⟨RX2, "numberOf", "(I)I"⟩
abbrev cX2_write : ByteArray := prog_4_method_9_code
def yX2_write : MethodName := ⟨RX2, "write", "(IZ)V"⟩
abbrev cX2_become : ByteArray := prog_4_method_10_code
def yX2_become : MethodName := ⟨RX2, "become", "(LOtherwiseCourt$Hall;)V"⟩
abbrev cX3_init : ByteArray := prog_5_method_1_code
def yX3_init : MethodName := ⟨RX3, "<init>", "()V"⟩
abbrev cX3_learn : ByteArray := prog_5_method_2_code
def yX3_learn : MethodName := ⟨RX3, "learn", "([BIIII)I"⟩
abbrev cX3_goesOn : ByteArray := prog_5_method_3_code
def yX3_goesOn : MethodName := ⟨RX3, "goesOn", "(I)Z"⟩
abbrev cX3_beginsClause : ByteArray := prog_5_method_4_code
def yX3_beginsClause : MethodName := ⟨RX3, "beginsClause", "(I)Z"⟩
abbrev cX3_goesOnWord : ByteArray := prog_5_method_5_code
def yX3_goesOnWord : MethodName := ⟨RX3, "goesOnWord", "(I)Z"⟩
abbrev cX3_beginNumber : ByteArray := prog_5_method_6_code
def yX3_beginNumber : MethodName := ⟨RX3, "beginNumber", "(I)V"⟩
abbrev cX3_isDigit : ByteArray := prog_5_method_7_code
def yX3_isDigit : MethodName := ⟨RX3, "isDigit", "(I)Z"⟩
abbrev cX3_endsAmount : ByteArray := prog_5_method_8_code
def yX3_endsAmount : MethodName := ⟨RX3, "endsAmount", "(I)Z"⟩
abbrev cX3_beginsFactor : ByteArray := prog_5_method_9_code
def yX3_beginsFactor : MethodName := ⟨RX3, "beginsFactor", "(I)Z"⟩
abbrev cX3_compares : ByteArray := prog_5_method_10_code
def yX3_compares : MethodName := ⟨RX3, "compares", "(I)Z"⟩
abbrev cX3_endsTest : ByteArray := prog_5_method_11_code
def yX3_endsTest : MethodName := ⟨RX3, "endsTest", "(I)Z"⟩
abbrev cX3_endFactor : ByteArray := prog_5_method_12_code
def yX3_endFactor : MethodName := ⟨RX3, "endFactor", "(I)V"⟩
abbrev cX3_goesBehind : ByteArray := prog_5_method_13_code
def yX3_goesBehind : MethodName := ⟨RX3, "goesBehind", "(I)Z"⟩
abbrev cX3_grow : ByteArray := prog_5_method_14_code
def yX3_grow : MethodName := ⟨RX3, "grow", "([II)V"⟩
abbrev cX4_init : ByteArray := prog_6_method_1_code
def yX4_init : MethodName := ⟨RX4, "<init>", "(LOtherwiseCourt$Sitting;)V"⟩
abbrev cX4_prepareSuits : ByteArray := prog_6_method_2_code
def yX4_prepareSuits : MethodName := ⟨RX4, "prepareSuits", "(LOtherwiseCourt$Hall;)V"⟩
abbrev cX4_order : ByteArray := prog_6_method_3_code
def yX4_order : MethodName := ⟨RX4, "order", "(LOtherwiseCourt$Hall;I)V"⟩
abbrev cX4_bring : ByteArray := prog_6_method_4_code
def yX4_bring : MethodName := ⟨RX4, "bring", "(III)V"⟩
abbrev cX4_against : ByteArray := prog_6_method_5_code
def yX4_against : MethodName := ⟨RX4, "against", "(LOtherwiseCourt$Hall;II)I"⟩
abbrev cX4_turns : ByteArray := prog_6_method_6_code
def yX4_turns : MethodName := ⟨RX4, "turns", "(IIZI)I"⟩
abbrev cX4_shamsAhead : ByteArray := prog_6_method_7_code
def yX4_shamsAhead : MethodName := ⟨RX4, "shamsAhead", "(I)I"⟩
abbrev cX4_winsBehind : ByteArray := prog_6_method_8_code
def yX4_winsBehind : MethodName := ⟨RX4, "winsBehind", "(I)Z"⟩
abbrev cX5_init : ByteArray := prog_7_method_1_code
def yX5_init : MethodName := ⟨RX5, "<init>", "()V"⟩
abbrev cX5_open : ByteArray := prog_7_method_2_code
def yX5_open : MethodName := ⟨RX5, "open", "(LOtherwiseCourt$Hall;LOtherwiseCourt$Law;I)V"⟩
abbrev cX5_addUp : ByteArray := prog_7_method_3_code
def yX5_addUp : MethodName := ⟨RX5, "addUp", "([I[I)V"⟩
abbrev cX5_setBar : ByteArray := prog_7_method_4_code
def yX5_setBar : MethodName := ⟨RX5, "setBar", "(I)V"⟩
abbrev cX5_alike : ByteArray := prog_7_method_5_code
def yX5_alike : MethodName := ⟨RX5, "alike", "(II)I"⟩
abbrev cX5_push : ByteArray := prog_7_method_6_code
def yX5_push : MethodName := ⟨RX5, "push", "(IZ)V"⟩
abbrev cX5_pop : ByteArray := prog_7_method_7_code
def yX5_pop : MethodName := ⟨RX5, "pop", "()V"⟩
abbrev cX5_turn : ByteArray := prog_7_method_8_code
def yX5_turn : MethodName := ⟨RX5, "turn", "(I)V"⟩
abbrev cX5_wasFor : ByteArray := prog_7_method_9_code
def yX5_wasFor : MethodName := ⟨RX5, "wasFor", "(I)Z"⟩
abbrev cX5_follow : ByteArray := prog_7_method_10_code
def yX5_follow : MethodName := ⟨RX5, "follow", "(LOtherwiseCourt$Tally;I)V"⟩
abbrev cX5_rowTells : ByteArray := prog_7_method_11_code
def yX5_rowTells : MethodName := ⟨RX5, "rowTells", "(I)I"⟩
abbrev cX5_isOpen : ByteArray := prog_7_method_12_code
def yX5_isOpen : MethodName := ⟨RX5, "isOpen", "(LOtherwiseCourt$Tally;)Z"⟩
abbrev cX5_isFor : ByteArray := prog_7_method_13_code
def yX5_isFor : MethodName := ⟨RX5, "isFor", "(LOtherwiseCourt$Tally;)Z"⟩
abbrev cX5_decidedBy : ByteArray := prog_7_method_14_code
def yX5_decidedBy : MethodName := ⟨RX5, "decidedBy", "(LOtherwiseCourt$Tally;)I"⟩
abbrev cX5_wins : ByteArray := prog_7_method_15_code
def yX5_wins : MethodName := ⟨RX5, "wins", "(I)Z"⟩
abbrev cX5_now : ByteArray := prog_7_method_16_code
def yX5_now : MethodName := ⟨RX5, "now", "(LOtherwiseCourt$Tally;)LOtherwiseCourt$Tally;"⟩
abbrev cX5_winsNow : ByteArray := prog_7_method_17_code
def yX5_winsNow : MethodName := ⟨RX5, "winsNow", "(LOtherwiseCourt$Tally;)Z"⟩
abbrev cX5_timesWon : ByteArray := prog_7_method_18_code
def yX5_timesWon : MethodName := ⟨RX5, "timesWon", "(II)I"⟩
abbrev cX5_firstTurn : ByteArray := prog_7_method_19_code
def yX5_firstTurn : MethodName := ⟨RX5, "firstTurn", "(I)I"⟩
abbrev cX5_firstUnlawful : ByteArray := prog_7_method_20_code
def yX5_firstUnlawful : MethodName := ⟨RX5, "firstUnlawful", "()I"⟩
abbrev cX6_init : ByteArray := prog_8_method_1_code
def yX6_init : MethodName := ⟨RX6, "<init>", "()V"⟩
abbrev cX6_begin : ByteArray := prog_8_method_2_code
def yX6_begin : MethodName := ⟨RX6, "begin", "(I)V"⟩
abbrev cX6_become : ByteArray := prog_8_method_3_code
def yX6_become : MethodName := ⟨RX6, "become", "(LOtherwiseCourt$Tally;)V"⟩
abbrev cX6_meet : ByteArray := prog_8_method_4_code
def yX6_meet : MethodName := ⟨RX6, "meet", "(IIZ)V"⟩
abbrev cX6_likes : ByteArray := prog_8_method_5_code
def yX6_likes : MethodName := ⟨RX6, "likes", "()I"⟩
abbrev cX6_torn : ByteArray := prog_8_method_6_code
def yX6_torn : MethodName := ⟨RX6, "torn", "()Z"⟩
abbrev cX7_init : ByteArray := prog_1_method_1_code
def yX7_init : MethodName := ⟨RX7, "<init>", "()V"⟩
abbrev cX7_feed : ByteArray := prog_1_method_2_code
def yX7_feed : MethodName := ⟨RX7, "feed", "(I)I"⟩
abbrev cX7_court : ByteArray := prog_1_method_3_code
def yX7_court : MethodName := ⟨RX7, "court", "()I"⟩
abbrev cX7_day : ByteArray := prog_1_method_4_code
def yX7_day : MethodName := ⟨RX7, "day", "(I)I"⟩
abbrev cX7_suit : ByteArray := prog_1_method_5_code
def yX7_suit : MethodName := ⟨RX7, "suit", "(II)I"⟩
abbrev cX7_of : ByteArray := prog_1_method_6_code
def yX7_of : MethodName := ⟨RX7, "of", "(II)I"⟩
abbrev cX7_judge : ByteArray := prog_1_method_7_code
def yX7_judge : MethodName := ⟨RX7, "judge", "(II)I"⟩
abbrev cX7_at : ByteArray := prog_1_method_8_code
def yX7_at : MethodName := ⟨RX7, "at", "(II)I"⟩
abbrev cX7_row : ByteArray := prog_1_method_9_code
def yX7_row : MethodName := ⟨RX7, "row", "(III)I"⟩
abbrev cX7_told : ByteArray := prog_1_method_10_code
def yX7_told : MethodName := ⟨RX7, "told", "(I)I"⟩
abbrev cX7_score : ByteArray := prog_1_method_11_code
def yX7_score : MethodName := ⟨RX7, "score", "(III)I"⟩
abbrev cX7_decides : ByteArray := prog_1_method_12_code
def yX7_decides : MethodName := ⟨RX7, "decides", "(III)I"⟩
abbrev cX7_hear : ByteArray := prog_1_method_13_code
def yX7_hear : MethodName := ⟨RX7, "hear", "(II)I"⟩
abbrev cX7_enter : ByteArray := prog_1_method_14_code
def yX7_enter : MethodName := ⟨RX7, "enter", "(IZ)I"⟩
abbrev cX7_entry : ByteArray := prog_1_method_15_code
def yX7_entry : MethodName := ⟨RX7, "entry", "(I)I"⟩
abbrev cX7_best : ByteArray := prog_1_method_16_code
def yX7_best : MethodName := ⟨RX7, "best", "(III)I"⟩
abbrev cX7_shams : ByteArray := prog_1_method_17_code
def yX7_shams : MethodName := ⟨RX7, "shams", "(III)I"⟩
abbrev cX7_point : ByteArray := prog_1_method_18_code
def yX7_point : MethodName := ⟨RX7, "point", "(III)I"⟩
abbrev cX7_rival : ByteArray := prog_1_method_19_code
def yX7_rival : MethodName := ⟨RX7, "rival", "(IIII)I"⟩
abbrev cX7_again : ByteArray := prog_1_method_20_code
def yX7_again : MethodName := ⟨RX7, "again", "(III)I"⟩
abbrev cX7_swing : ByteArray := prog_1_method_21_code
def yX7_swing : MethodName := ⟨RX7, "swing", "(II)I"⟩
abbrev cX7_unlawful : ByteArray := prog_1_method_22_code
def yX7_unlawful : MethodName := ⟨RX7, "unlawful", "(I)I"⟩
abbrev cX7_wrong : ByteArray := prog_1_method_23_code
def yX7_wrong : MethodName := ⟨RX7, "wrong", "(I)I"⟩
abbrev cX7_bars : ByteArray := prog_1_method_24_code
def yX7_bars : MethodName := ⟨RX7, "bars", "(II)I"⟩
abbrev cX7_queue : ByteArray := prog_1_method_25_code
def yX7_queue : MethodName := ⟨RX7, "queue", "(I)I"⟩
abbrev cX7_odds : ByteArray := prog_1_method_26_code
def yX7_odds : MethodName := ⟨RX7, "odds", "(III)J"⟩
abbrev cX7_expects : ByteArray := prog_1_method_27_code
def yX7_expects : MethodName := ⟨RX7, "expects", "(II)J"⟩
abbrev cX7_act : ByteArray := prog_1_method_28_code
def yX7_act : MethodName := ⟨RX7, "act", "(III)I"⟩
abbrev cX7_trace : ByteArray := prog_1_method_29_code
def yX7_trace : MethodName := ⟨RX7, "trace", "(I)I"⟩
abbrev cX7_as : ByteArray := prog_1_method_30_code
def yX7_as : MethodName := ⟨RX7, "as", "(II)I"⟩
abbrev cX7_image : ByteArray := prog_1_method_31_code
def yX7_image : MethodName := ⟨RX7, "image", "()I"⟩
abbrev cX7_undo : ByteArray := prog_1_method_32_code
def yX7_undo : MethodName := ⟨RX7, "undo", "()I"⟩
abbrev cX7_count : ByteArray := prog_1_method_33_code
def yX7_count : MethodName := ⟨RX7, "count", "(I)I"⟩
abbrev cX7_openFor : ByteArray := prog_1_method_34_code
def yX7_openFor : MethodName := ⟨RX7, "openFor", "(I)V"⟩
abbrev cX8_init : ByteArray := prog_10_method_1_code
def yX8_init : MethodName := ⟨RX8, "<init>", "()V"⟩
abbrev cX8_in : ByteArray := prog_10_method_3_code
def yX8_in : MethodName := ⟨RX8, "in", "(III)Z"⟩
abbrev cX8_isSuit : ByteArray := prog_10_method_4_code
def yX8_isSuit : MethodName := ⟨RX8, "isSuit", "(I)Z"⟩
abbrev cX8_isJudge : ByteArray := prog_10_method_5_code
def yX8_isJudge : MethodName := ⟨RX8, "isJudge", "(I)Z"⟩
abbrev cX8_count1 : ByteArray := prog_10_method_6_code
def yX8_count1 : MethodName := ⟨RX8, "count1", "(I)I"⟩
abbrev cX8_feed : ByteArray := prog_10_method_7_code
def yX8_feed : MethodName := ⟨RX8, "feed", "(I)I"⟩
abbrev cX8_here : ByteArray := prog_10_method_8_code
def yX8_here : MethodName := ⟨RX8, "here", "()I"⟩
abbrev cX8_must : ByteArray := prog_10_method_9_code
def yX8_must : MethodName := ⟨RX8, "must", "(I)V"⟩
abbrev cX8_spells : ByteArray := prog_10_method_10_code
def yX8_spells : MethodName := ⟨RX8, "spells", "(Ljava/lang/String;)V"⟩
abbrev cX8_figures : ByteArray := prog_10_method_11_code
def yX8_figures : MethodName := ⟨RX8, "figures", "()I"⟩
abbrev cX8_among : ByteArray := prog_10_method_12_code
def yX8_among : MethodName := ⟨RX8, "among", "(Ljava/lang/String;)I"⟩
abbrev cX8_emits : ByteArray := prog_10_method_13_code
def yX8_emits : MethodName := ⟨RX8, "emits", "(I)V"⟩
abbrev cX8_factor : ByteArray := prog_10_method_14_code
def yX8_factor : MethodName := ⟨RX8, "factor", "()V"⟩
abbrev cX8_every : ByteArray := prog_10_method_15_code
def yX8_every : MethodName := ⟨RX8, "every", "()V"⟩
abbrev cX8_some : ByteArray := prog_10_method_16_code
def yX8_some : MethodName := ⟨RX8, "some", "()V"⟩
abbrev cX8_much : ByteArray := prog_10_method_17_code
def yX8_much : MethodName := ⟨RX8, "much", "(ILjava/lang/String;)V"⟩
abbrev cX8_clauseHere : ByteArray := prog_10_method_18_code
def yX8_clauseHere : MethodName := ⟨RX8, "clauseHere", "()V"⟩
abbrev cX8_court : ByteArray := prog_10_method_19_code
def yX8_court : MethodName := ⟨RX8, "court", "()I"⟩
abbrev cX8_barNow : ByteArray := prog_10_method_20_code
def yX8_barNow : MethodName := ⟨RX8, "barNow", "()I"⟩
abbrev cX8_day : ByteArray := prog_10_method_21_code
def yX8_day : MethodName := ⟨RX8, "day", "(I)I"⟩
abbrev cX8_told : ByteArray := prog_10_method_22_code
def yX8_told : MethodName := ⟨RX8, "told", "(I)I"⟩
abbrev cX8_suit : ByteArray := prog_10_method_23_code
def yX8_suit : MethodName := ⟨RX8, "suit", "(II)I"⟩
abbrev cX8_of : ByteArray := prog_10_method_24_code
def yX8_of : MethodName := ⟨RX8, "of", "(II)I"⟩
abbrev cX8_judge : ByteArray := prog_10_method_25_code
def yX8_judge : MethodName := ⟨RX8, "judge", "(II)I"⟩
abbrev cX8_row : ByteArray := prog_10_method_26_code
def yX8_row : MethodName := ⟨RX8, "row", "(III)I"⟩
abbrev cX8_looks : ByteArray := prog_10_method_27_code
def yX8_looks : MethodName := ⟨RX8, "looks", "(II)V"⟩
abbrev cX8_looksFor : ByteArray := prog_10_method_28_code
def yX8_looksFor : MethodName := ⟨RX8, "looksFor", "(I)V"⟩
abbrev cX8_scoreOf : ByteArray := prog_10_method_29_code
def yX8_scoreOf : MethodName := ⟨RX8, "scoreOf", "(II)I"⟩
abbrev cX8_at : ByteArray := prog_10_method_30_code
def yX8_at : MethodName := ⟨RX8, "at", "(II)I"⟩
abbrev cX8_score : ByteArray := prog_10_method_31_code
def yX8_score : MethodName := ⟨RX8, "score", "(III)I"⟩
abbrev cX8_opens : ByteArray := prog_10_method_32_code
def yX8_opens : MethodName := ⟨RX8, "opens", "()V"⟩
abbrev cX8_writes : ByteArray := prog_10_method_33_code
def yX8_writes : MethodName := ⟨RX8, "writes", "(IZ)V"⟩
abbrev cX8_isLike : ByteArray := prog_10_method_34_code
def yX8_isLike : MethodName := ⟨RX8, "isLike", "(II)Z"⟩
abbrev cX8_likeOne : ByteArray := prog_10_method_35_code
def yX8_likeOne : MethodName := ⟨RX8, "likeOne", "(II)I"⟩
abbrev cX8_decidesMost : ByteArray := prog_10_method_36_code
def yX8_decidesMost : MethodName := ⟨RX8, "decidesMost", "(II)I"⟩
abbrev cX8_decidesBy : ByteArray := prog_10_method_37_code
def yX8_decidesBy : MethodName := ⟨RX8, "decidesBy", "(II)I"⟩
abbrev cX8_isForIt : ByteArray := prog_10_method_38_code
def yX8_isForIt : MethodName := ⟨RX8, "isForIt", "(II)Z"⟩
abbrev cX8_hears : ByteArray := prog_10_method_39_code
def yX8_hears : MethodName := ⟨RX8, "hears", "(II)Z"⟩
abbrev cX8_decides : ByteArray := prog_10_method_40_code
def yX8_decides : MethodName := ⟨RX8, "decides", "(III)I"⟩
abbrev cX8_enters : ByteArray := prog_10_method_41_code
def yX8_enters : MethodName := ⟨RX8, "enters", "(IZ)I"⟩
abbrev cX8_hear : ByteArray := prog_10_method_42_code
def yX8_hear : MethodName := ⟨RX8, "hear", "(II)I"⟩
abbrev cX8_enter : ByteArray := prog_10_method_43_code
def yX8_enter : MethodName := ⟨RX8, "enter", "(IZ)I"⟩
abbrev cX8_entry : ByteArray := prog_10_method_44_code
def yX8_entry : MethodName := ⟨RX8, "entry", "(I)I"⟩
abbrev cX8_ordersFrom : ByteArray := prog_10_method_45_code
def yX8_ordersFrom : MethodName := ⟨RX8, "ordersFrom", "(IIII)V"⟩
abbrev cX8_isSet : ByteArray := prog_10_method_46_code
def yX8_isSet : MethodName := ⟨RX8, "isSet", "(I)Z"⟩
abbrev cX8_best : ByteArray := prog_10_method_47_code
def yX8_best : MethodName := ⟨RX8, "best", "(III)I"⟩
abbrev cX8_looksForShams : ByteArray := prog_10_method_48_code
def yX8_looksForShams : MethodName := ⟨RX8, "looksForShams", "(II)I"⟩
abbrev cX8_shams : ByteArray := prog_10_method_49_code
def yX8_shams : MethodName := ⟨RX8, "shams", "(III)I"⟩
abbrev cX8_point : ByteArray := prog_10_method_50_code
def yX8_point : MethodName := ⟨RX8, "point", "(III)I"⟩
abbrev cX8_rivals : ByteArray := prog_10_method_51_code
def yX8_rivals : MethodName := ⟨RX8, "rivals", "(IIIZZ)I"⟩
abbrev cX8_rival : ByteArray := prog_10_method_52_code
def yX8_rival : MethodName := ⟨RX8, "rival", "(IIII)I"⟩
abbrev cX8_again : ByteArray := prog_10_method_53_code
def yX8_again : MethodName := ⟨RX8, "again", "(III)I"⟩
abbrev cX8_swing : ByteArray := prog_10_method_54_code
def yX8_swing : MethodName := ⟨RX8, "swing", "(II)I"⟩
abbrev cX8_firstUnlawful : ByteArray := prog_10_method_55_code
def yX8_firstUnlawful : MethodName := ⟨RX8, "firstUnlawful", "(II)I"⟩
abbrev cX8_unlawful : ByteArray := prog_10_method_56_code
def yX8_unlawful : MethodName := ⟨RX8, "unlawful", "(I)I"⟩
abbrev cX8_wrong : ByteArray := prog_10_method_57_code
def yX8_wrong : MethodName := ⟨RX8, "wrong", "(I)I"⟩
abbrev cX8_bars : ByteArray := prog_10_method_58_code
def yX8_bars : MethodName := ⟨RX8, "bars", "(II)I"⟩
abbrev cX8_queue : ByteArray := prog_10_method_59_code
def yX8_queue : MethodName := ⟨RX8, "queue", "(I)I"⟩
abbrev cX8_falls : ByteArray := prog_10_method_60_code
def yX8_falls : MethodName := ⟨RX8, "falls", "(IIII)J"⟩
abbrev cX8_lowest : ByteArray := prog_10_method_61_code
def yX8_lowest : MethodName := ⟨RX8, "lowest", "(JJI)J"⟩
abbrev cX8_odds : ByteArray := prog_10_method_62_code
def yX8_odds : MethodName := ⟨RX8, "odds", "(III)J"⟩
abbrev cX8_expects : ByteArray := prog_10_method_63_code
def yX8_expects : MethodName := ⟨RX8, "expects", "(II)J"⟩
abbrev cX8_ranBody : ByteArray := prog_10_method_64_code
def yX8_ranBody : MethodName := ⟨RX8, "ranBody", "(I)V"⟩
abbrev cX8_isUnder : ByteArray := prog_10_method_65_code
def yX8_isUnder : MethodName := ⟨RX8, "isUnder", "(II)Z"⟩
abbrev cX8_plainHears : ByteArray := prog_10_method_66_code
def yX8_plainHears : MethodName := ⟨RX8, "plainHears", "(I)I"⟩
abbrev cX8_hearsActs : ByteArray := prog_10_method_67_code
def yX8_hearsActs : MethodName := ⟨RX8, "hearsActs", "(I)I"⟩
abbrev cX8_plainWeighs : ByteArray := prog_10_method_68_code
def yX8_plainWeighs : MethodName := ⟨RX8, "plainWeighs", "(I)I"⟩
abbrev cX8_weighsActs : ByteArray := prog_10_method_69_code
def yX8_weighsActs : MethodName := ⟨RX8, "weighsActs", "(I)I"⟩
abbrev cX8_plainSays : ByteArray := prog_10_method_70_code
def yX8_plainSays : MethodName := ⟨RX8, "plainSays", "(I)I"⟩
abbrev cX8_saysActs : ByteArray := prog_10_method_71_code
def yX8_saysActs : MethodName := ⟨RX8, "saysActs", "(I)I"⟩
abbrev cX8_act : ByteArray := prog_10_method_72_code
def yX8_act : MethodName := ⟨RX8, "act", "(III)I"⟩
abbrev cX8_trace : ByteArray := prog_10_method_73_code
def yX8_trace : MethodName := ⟨RX8, "trace", "(I)I"⟩
abbrev cX8_as : ByteArray := prog_10_method_74_code
def yX8_as : MethodName := ⟨RX8, "as", "(II)I"⟩
abbrev cX8_image : ByteArray := prog_10_method_75_code
def yX8_image : MethodName := ⟨RX8, "image", "()I"⟩
abbrev cX8_undo : ByteArray := prog_10_method_76_code
def yX8_undo : MethodName := ⟨RX8, "undo", "()I"⟩
abbrev cX8_count : ByteArray := prog_10_method_77_code
def yX8_count : MethodName := ⟨RX8, "count", "(I)I"⟩
def RJ6 : String := "java/lang/Integer"
def RJ9 : String := "java/lang/Math"
def RJ0 : String := "java/lang/String"
def RJ1 : String := "java/lang/StringLatin1"
def RJ2 : String := "java/lang/StringUTF16"
def RJ10 : String := "java/lang/System"
def RJ3 : String := "jdk/internal/util/Preconditions"
abbrev cJ6_bitCount_0f7a4 : ByteArray := prog_11_method_49_code
def yJ6_bitCount_0f7a4 : MethodName := ⟨RJ6, "bitCount", "(I)I"⟩
abbrev cJ9_max_7cf53 : ByteArray := prog_12_method_65_code
def yJ9_max_7cf53 : MethodName := ⟨RJ9, "max", "(II)I"⟩
abbrev cJ9_min_7cf53 : ByteArray := prog_12_method_69_code
def yJ9_min_7cf53 : MethodName := ⟨RJ9, "min", "(II)I"⟩
abbrev cJ0_length_8abf5 : ByteArray := prog_13_method_54_code
def yJ0_length_8abf5 : MethodName := ⟨RJ0, "length", "()I"⟩
abbrev cJ0_charAt_5068e : ByteArray := prog_13_method_56_code
def yJ0_charAt_5068e : MethodName := ⟨RJ0, "charAt", "(I)C"⟩
abbrev cJ0_coder_7d493 : ByteArray := prog_13_method_152_code
def yJ0_coder_7d493 : MethodName := ⟨RJ0, "coder", "()B"⟩
abbrev cJ0_isLatin1_aae02 : ByteArray := prog_13_method_154_code
def yJ0_isLatin1_aae02 : MethodName := ⟨RJ0, "isLatin1", "()Z"⟩
abbrev cJ0_checkIndex_df160 : ByteArray := prog_13_method_155_code
def yJ0_checkIndex_df160 : MethodName := ⟨RJ0, "checkIndex", "(II)V"⟩
abbrev cJ1_charAt_3b067 : ByteArray := prog_14_method_2_code
def yJ1_charAt_3b067 : MethodName := ⟨RJ1, "charAt", "([BI)C"⟩
abbrev cJ2_getChar_3b067 : ByteArray := prog_15_method_5_code
def yJ2_getChar_3b067 : MethodName := ⟨RJ2, "getChar", "([BI)C"⟩
abbrev cJ2_length_9d52b : ByteArray := prog_15_method_6_code
def yJ2_length_9d52b : MethodName := ⟨RJ2, "length", "([B)I"⟩
abbrev cJ2_charAt_3b067 : ByteArray := prog_15_method_83_code
def yJ2_charAt_3b067 : MethodName := ⟨RJ2, "charAt", "([BI)C"⟩
abbrev cJ2_checkIndex_2214a : ByteArray := prog_15_method_91_code
def yJ2_checkIndex_2214a : MethodName := ⟨RJ2, "checkIndex", "(I[B)V"⟩
abbrev cJ3_checkIndex_8e157 : ByteArray := prog_17_method_11_code
def yJ3_checkIndex_8e157 : MethodName := ⟨RJ3, "checkIndex", "(IILjava/util/function/BiFunction;)I"⟩
def RL : String := "OtherwiseCourtLaw"
abbrev vwCl : List vw_C := [(RX0, TX0, 3), (RX1, TX1, 5), (RX2, TX2, 17), (RX3, TX3, 19), (RX4, TX4, 7), (RX5, TX5, 11), (RX6, TX6, 8), (RX7, TX7, 8), (RX8, TX8, 31)]
set_option maxRecDepth 20000 in
theorem inX0 : ∀ w ∈ u_ws RX0 TX0 3, w ∈ lw_tbl := by decide +kernel
set_option maxRecDepth 20000 in
theorem inX1 : ∀ w ∈ u_ws RX1 TX1 5, w ∈ lw_tbl := by decide +kernel
set_option maxRecDepth 20000 in
theorem inX2 : ∀ w ∈ u_ws RX2 TX2 17, w ∈ lw_tbl := by decide +kernel
set_option maxRecDepth 20000 in
theorem inX3 : ∀ w ∈ u_ws RX3 TX3 19, w ∈ lw_tbl := by decide +kernel
set_option maxRecDepth 20000 in
theorem inX4 : ∀ w ∈ u_ws RX4 TX4 7, w ∈ lw_tbl := by decide +kernel
set_option maxRecDepth 20000 in
theorem inX5 : ∀ w ∈ u_ws RX5 TX5 11, w ∈ lw_tbl := by decide +kernel
set_option maxRecDepth 20000 in
theorem inX6 : ∀ w ∈ u_ws RX6 TX6 8, w ∈ lw_tbl := by decide +kernel
set_option maxRecDepth 20000 in
theorem inX7 : ∀ w ∈ u_ws RX7 TX7 8, w ∈ lw_tbl := by decide +kernel
set_option maxRecDepth 20000 in
theorem inX8 : ∀ w ∈ u_ws RX8 TX8 31, w ∈ lw_tbl := by decide +kernel
