section
-- ===== PART A: goes FIRST, ahead of the names: the tables' words, and 'selects' of the private methods out of them =====
/-- a private method of a class that the tables say can be made, by its rows of tables_1 -/
def lw_okq (q : MethodName × Nat) : Prop := (q.1.cls ≠ "java/lang/invoke/MethodHandle" ∧ q.1.cls ≠ "java/lang/invoke/VarHandle") ∧ Cond.instantiable q.1.cls q.2 ∈ tables_1 ∧ Cond.privateMethod q.1 ∈ tables_1 ∧ Cond.instanceMethod q.1 ∈ tables_1
theorem lw_p0 : lw_okq (⟨"OtherwiseCourt$Law", "goesOn", "(I)Z"⟩, 19) := ⟨⟨by decide +kernel, by decide +kernel⟩, List.mem_of_getElem? (i := 108) (by decide +kernel), List.mem_of_getElem? (i := 384) (by decide +kernel), List.mem_of_getElem? (i := 385) (by decide +kernel)⟩
theorem lw_p1 : lw_okq (⟨"OtherwiseCourt$Law", "beginsClause", "(I)Z"⟩, 19) := ⟨⟨by decide +kernel, by decide +kernel⟩, List.mem_of_getElem? (i := 108) (by decide +kernel), List.mem_of_getElem? (i := 388) (by decide +kernel), List.mem_of_getElem? (i := 389) (by decide +kernel)⟩
theorem lw_p2 : lw_okq (⟨"OtherwiseCourt$Law", "goesOnWord", "(I)Z"⟩, 19) := ⟨⟨by decide +kernel, by decide +kernel⟩, List.mem_of_getElem? (i := 108) (by decide +kernel), List.mem_of_getElem? (i := 392) (by decide +kernel), List.mem_of_getElem? (i := 393) (by decide +kernel)⟩
theorem lw_p3 : lw_okq (⟨"OtherwiseCourt$Law", "beginNumber", "(I)V"⟩, 19) := ⟨⟨by decide +kernel, by decide +kernel⟩, List.mem_of_getElem? (i := 108) (by decide +kernel), List.mem_of_getElem? (i := 447) (by decide +kernel), List.mem_of_getElem? (i := 448) (by decide +kernel)⟩
theorem lw_p4 : lw_okq (⟨"OtherwiseCourt$Law", "isDigit", "(I)Z"⟩, 19) := ⟨⟨by decide +kernel, by decide +kernel⟩, List.mem_of_getElem? (i := 108) (by decide +kernel), List.mem_of_getElem? (i := 451) (by decide +kernel), List.mem_of_getElem? (i := 452) (by decide +kernel)⟩
theorem lw_p5 : lw_okq (⟨"OtherwiseCourt$Law", "endsAmount", "(I)Z"⟩, 19) := ⟨⟨by decide +kernel, by decide +kernel⟩, List.mem_of_getElem? (i := 108) (by decide +kernel), List.mem_of_getElem? (i := 455) (by decide +kernel), List.mem_of_getElem? (i := 456) (by decide +kernel)⟩
theorem lw_p6 : lw_okq (⟨"OtherwiseCourt$Law", "beginsFactor", "(I)Z"⟩, 19) := ⟨⟨by decide +kernel, by decide +kernel⟩, List.mem_of_getElem? (i := 108) (by decide +kernel), List.mem_of_getElem? (i := 459) (by decide +kernel), List.mem_of_getElem? (i := 460) (by decide +kernel)⟩
theorem lw_p7 : lw_okq (⟨"OtherwiseCourt$Law", "compares", "(I)Z"⟩, 19) := ⟨⟨by decide +kernel, by decide +kernel⟩, List.mem_of_getElem? (i := 108) (by decide +kernel), List.mem_of_getElem? (i := 463) (by decide +kernel), List.mem_of_getElem? (i := 464) (by decide +kernel)⟩
theorem lw_p8 : lw_okq (⟨"OtherwiseCourt$Law", "endsTest", "(I)Z"⟩, 19) := ⟨⟨by decide +kernel, by decide +kernel⟩, List.mem_of_getElem? (i := 108) (by decide +kernel), List.mem_of_getElem? (i := 467) (by decide +kernel), List.mem_of_getElem? (i := 468) (by decide +kernel)⟩
theorem lw_p9 : lw_okq (⟨"OtherwiseCourt$Law", "endFactor", "(I)V"⟩, 19) := ⟨⟨by decide +kernel, by decide +kernel⟩, List.mem_of_getElem? (i := 108) (by decide +kernel), List.mem_of_getElem? (i := 471) (by decide +kernel), List.mem_of_getElem? (i := 472) (by decide +kernel)⟩
theorem lw_p10 : lw_okq (⟨"OtherwiseCourt$Law", "goesBehind", "(I)Z"⟩, 19) := ⟨⟨by decide +kernel, by decide +kernel⟩, List.mem_of_getElem? (i := 108) (by decide +kernel), List.mem_of_getElem? (i := 475) (by decide +kernel), List.mem_of_getElem? (i := 476) (by decide +kernel)⟩
theorem lw_p11 : lw_okq (⟨"OtherwiseCourt$Law", "grow", "([II)V"⟩, 19) := ⟨⟨by decide +kernel, by decide +kernel⟩, List.mem_of_getElem? (i := 108) (by decide +kernel), List.mem_of_getElem? (i := 479) (by decide +kernel), List.mem_of_getElem? (i := 480) (by decide +kernel)⟩
theorem lw_p12 : lw_okq (⟨"OtherwiseCourt", "openFor", "(I)V"⟩, 8) := ⟨⟨by decide +kernel, by decide +kernel⟩, List.mem_of_getElem? (i := 18) (by decide +kernel), List.mem_of_getElem? (i := 529) (by decide +kernel), List.mem_of_getElem? (i := 530) (by decide +kernel)⟩
theorem lw_p13 : lw_okq (⟨"OtherwiseCourt$Sitting", "rowTells", "(I)I"⟩, 11) := ⟨⟨by decide +kernel, by decide +kernel⟩, List.mem_of_getElem? (i := 178) (by decide +kernel), List.mem_of_getElem? (i := 591) (by decide +kernel), List.mem_of_getElem? (i := 592) (by decide +kernel)⟩
theorem lw_p14 : lw_okq (⟨"OtherwiseCourt$Sitting", "wasFor", "(I)Z"⟩, 11) := ⟨⟨by decide +kernel, by decide +kernel⟩, List.mem_of_getElem? (i := 178) (by decide +kernel), List.mem_of_getElem? (i := 605) (by decide +kernel), List.mem_of_getElem? (i := 606) (by decide +kernel)⟩
theorem lw_p15 : lw_okq (⟨"OtherwiseCourt$Search", "prepareSuits", "(LOtherwiseCourt$Hall;)V"⟩, 7) := ⟨⟨by decide +kernel, by decide +kernel⟩, List.mem_of_getElem? (i := 264) (by decide +kernel), List.mem_of_getElem? (i := 655) (by decide +kernel), List.mem_of_getElem? (i := 656) (by decide +kernel)⟩
def lw_privs_1 : List (MethodName × Nat) := [(⟨"OtherwiseCourt$Law", "goesOn", "(I)Z"⟩, 19), (⟨"OtherwiseCourt$Law", "beginsClause", "(I)Z"⟩, 19), (⟨"OtherwiseCourt$Law", "goesOnWord", "(I)Z"⟩, 19), (⟨"OtherwiseCourt$Law", "beginNumber", "(I)V"⟩, 19), (⟨"OtherwiseCourt$Law", "isDigit", "(I)Z"⟩, 19), (⟨"OtherwiseCourt$Law", "endsAmount", "(I)Z"⟩, 19), (⟨"OtherwiseCourt$Law", "beginsFactor", "(I)Z"⟩, 19), (⟨"OtherwiseCourt$Law", "compares", "(I)Z"⟩, 19), (⟨"OtherwiseCourt$Law", "endsTest", "(I)Z"⟩, 19), (⟨"OtherwiseCourt$Law", "endFactor", "(I)V"⟩, 19), (⟨"OtherwiseCourt$Law", "goesBehind", "(I)Z"⟩, 19), (⟨"OtherwiseCourt$Law", "grow", "([II)V"⟩, 19), (⟨"OtherwiseCourt", "openFor", "(I)V"⟩, 8), (⟨"OtherwiseCourt$Sitting", "rowTells", "(I)I"⟩, 11), (⟨"OtherwiseCourt$Sitting", "wasFor", "(I)Z"⟩, 11), (⟨"OtherwiseCourt$Search", "prepareSuits", "(LOtherwiseCourt$Hall;)V"⟩, 7)]
theorem lw_r1 : ∀ q ∈ lw_privs_1, lw_okq q := List.forall_mem_cons.mpr ⟨lw_p0, List.forall_mem_cons.mpr ⟨lw_p1, List.forall_mem_cons.mpr ⟨lw_p2, List.forall_mem_cons.mpr ⟨lw_p3, List.forall_mem_cons.mpr ⟨lw_p4, List.forall_mem_cons.mpr ⟨lw_p5, List.forall_mem_cons.mpr ⟨lw_p6, List.forall_mem_cons.mpr ⟨lw_p7, List.forall_mem_cons.mpr ⟨lw_p8, List.forall_mem_cons.mpr ⟨lw_p9, List.forall_mem_cons.mpr ⟨lw_p10, List.forall_mem_cons.mpr ⟨lw_p11, List.forall_mem_cons.mpr ⟨lw_p12, List.forall_mem_cons.mpr ⟨lw_p13, List.forall_mem_cons.mpr ⟨lw_p14, List.forall_mem_cons.mpr ⟨lw_p15, fun _ h => absurd h List.not_mem_nil⟩⟩⟩⟩⟩⟩⟩⟩⟩⟩⟩⟩⟩⟩⟩⟩
theorem lw_p16 : lw_okq (⟨"OtherwiseCourt$Search", "bring", "(III)V"⟩, 7) := ⟨⟨by decide +kernel, by decide +kernel⟩, List.mem_of_getElem? (i := 264) (by decide +kernel), List.mem_of_getElem? (i := 663) (by decide +kernel), List.mem_of_getElem? (i := 664) (by decide +kernel)⟩
theorem lw_p17 : lw_okq (⟨"OtherwiseCourt$Search", "winsBehind", "(I)Z"⟩, 7) := ⟨⟨by decide +kernel, by decide +kernel⟩, List.mem_of_getElem? (i := 264) (by decide +kernel), List.mem_of_getElem? (i := 696) (by decide +kernel), List.mem_of_getElem? (i := 697) (by decide +kernel)⟩
theorem lw_p18 : lw_okq (⟨"OtherwiseCourt$Search", "turns", "(IIZI)I"⟩, 7) := ⟨⟨by decide +kernel, by decide +kernel⟩, List.mem_of_getElem? (i := 264) (by decide +kernel), List.mem_of_getElem? (i := 712) (by decide +kernel), List.mem_of_getElem? (i := 713) (by decide +kernel)⟩
theorem lw_p19 : lw_okq (⟨"OtherwiseCourt$Coins", "come", "(III)V"⟩, 3) := ⟨⟨by decide +kernel, by decide +kernel⟩, List.mem_of_getElem? (i := 298) (by decide +kernel), List.mem_of_getElem? (i := 771) (by decide +kernel), List.mem_of_getElem? (i := 772) (by decide +kernel)⟩
theorem lw_p20 : lw_okq (⟨"OtherwiseCourt$Coins", "settle", "(IIIZ)V"⟩, 3) := ⟨⟨by decide +kernel, by decide +kernel⟩, List.mem_of_getElem? (i := 298) (by decide +kernel), List.mem_of_getElem? (i := 780) (by decide +kernel), List.mem_of_getElem? (i := 781) (by decide +kernel)⟩
theorem lw_p21 : lw_okq (⟨"OtherwiseCourt$Deeds", "run", "(IIII)I"⟩, 5) := ⟨⟨by decide +kernel, by decide +kernel⟩, List.mem_of_getElem? (i := 317) (by decide +kernel), List.mem_of_getElem? (i := 802) (by decide +kernel), List.mem_of_getElem? (i := 803) (by decide +kernel)⟩
theorem lw_p22 : lw_okq (⟨"OtherwiseCourt$Deeds", "note", "(I)V"⟩, 5) := ⟨⟨by decide +kernel, by decide +kernel⟩, List.mem_of_getElem? (i := 317) (by decide +kernel), List.mem_of_getElem? (i := 813) (by decide +kernel), List.mem_of_getElem? (i := 814) (by decide +kernel)⟩
theorem lw_p23 : lw_okq (⟨"OtherwiseCourtModel", "clauseHere", "()V"⟩, 31) := ⟨⟨by decide +kernel, by decide +kernel⟩, List.mem_of_getElem? (i := 843) (by decide +kernel), List.mem_of_getElem? (i := 953) (by decide +kernel), List.mem_of_getElem? (i := 954) (by decide +kernel)⟩
theorem lw_p24 : lw_okq (⟨"OtherwiseCourtModel", "here", "()I"⟩, 31) := ⟨⟨by decide +kernel, by decide +kernel⟩, List.mem_of_getElem? (i := 843) (by decide +kernel), List.mem_of_getElem? (i := 957) (by decide +kernel), List.mem_of_getElem? (i := 958) (by decide +kernel)⟩
theorem lw_p25 : lw_okq (⟨"OtherwiseCourtModel", "much", "(ILjava/lang/String;)V"⟩, 31) := ⟨⟨by decide +kernel, by decide +kernel⟩, List.mem_of_getElem? (i := 843) (by decide +kernel), List.mem_of_getElem? (i := 962) (by decide +kernel), List.mem_of_getElem? (i := 963) (by decide +kernel)⟩
theorem lw_p26 : lw_okq (⟨"OtherwiseCourtModel", "spells", "(Ljava/lang/String;)V"⟩, 31) := ⟨⟨by decide +kernel, by decide +kernel⟩, List.mem_of_getElem? (i := 843) (by decide +kernel), List.mem_of_getElem? (i := 966) (by decide +kernel), List.mem_of_getElem? (i := 967) (by decide +kernel)⟩
theorem lw_p27 : lw_okq (⟨"OtherwiseCourtModel", "must", "(I)V"⟩, 31) := ⟨⟨by decide +kernel, by decide +kernel⟩, List.mem_of_getElem? (i := 843) (by decide +kernel), List.mem_of_getElem? (i := 972) (by decide +kernel), List.mem_of_getElem? (i := 973) (by decide +kernel)⟩
theorem lw_p28 : lw_okq (⟨"OtherwiseCourtModel", "figures", "()I"⟩, 31) := ⟨⟨by decide +kernel, by decide +kernel⟩, List.mem_of_getElem? (i := 843) (by decide +kernel), List.mem_of_getElem? (i := 976) (by decide +kernel), List.mem_of_getElem? (i := 977) (by decide +kernel)⟩
theorem lw_p29 : lw_okq (⟨"OtherwiseCourtModel", "some", "()V"⟩, 31) := ⟨⟨by decide +kernel, by decide +kernel⟩, List.mem_of_getElem? (i := 843) (by decide +kernel), List.mem_of_getElem? (i := 980) (by decide +kernel), List.mem_of_getElem? (i := 981) (by decide +kernel)⟩
theorem lw_p30 : lw_okq (⟨"OtherwiseCourtModel", "every", "()V"⟩, 31) := ⟨⟨by decide +kernel, by decide +kernel⟩, List.mem_of_getElem? (i := 843) (by decide +kernel), List.mem_of_getElem? (i := 984) (by decide +kernel), List.mem_of_getElem? (i := 985) (by decide +kernel)⟩
theorem lw_p31 : lw_okq (⟨"OtherwiseCourtModel", "factor", "()V"⟩, 31) := ⟨⟨by decide +kernel, by decide +kernel⟩, List.mem_of_getElem? (i := 843) (by decide +kernel), List.mem_of_getElem? (i := 988) (by decide +kernel), List.mem_of_getElem? (i := 989) (by decide +kernel)⟩
def lw_privs_2 : List (MethodName × Nat) := [(⟨"OtherwiseCourt$Search", "bring", "(III)V"⟩, 7), (⟨"OtherwiseCourt$Search", "winsBehind", "(I)Z"⟩, 7), (⟨"OtherwiseCourt$Search", "turns", "(IIZI)I"⟩, 7), (⟨"OtherwiseCourt$Coins", "come", "(III)V"⟩, 3), (⟨"OtherwiseCourt$Coins", "settle", "(IIIZ)V"⟩, 3), (⟨"OtherwiseCourt$Deeds", "run", "(IIII)I"⟩, 5), (⟨"OtherwiseCourt$Deeds", "note", "(I)V"⟩, 5), (⟨"OtherwiseCourtModel", "clauseHere", "()V"⟩, 31), (⟨"OtherwiseCourtModel", "here", "()I"⟩, 31), (⟨"OtherwiseCourtModel", "much", "(ILjava/lang/String;)V"⟩, 31), (⟨"OtherwiseCourtModel", "spells", "(Ljava/lang/String;)V"⟩, 31), (⟨"OtherwiseCourtModel", "must", "(I)V"⟩, 31), (⟨"OtherwiseCourtModel", "figures", "()I"⟩, 31), (⟨"OtherwiseCourtModel", "some", "()V"⟩, 31), (⟨"OtherwiseCourtModel", "every", "()V"⟩, 31), (⟨"OtherwiseCourtModel", "factor", "()V"⟩, 31)]
theorem lw_r2 : ∀ q ∈ lw_privs_2, lw_okq q := List.forall_mem_cons.mpr ⟨lw_p16, List.forall_mem_cons.mpr ⟨lw_p17, List.forall_mem_cons.mpr ⟨lw_p18, List.forall_mem_cons.mpr ⟨lw_p19, List.forall_mem_cons.mpr ⟨lw_p20, List.forall_mem_cons.mpr ⟨lw_p21, List.forall_mem_cons.mpr ⟨lw_p22, List.forall_mem_cons.mpr ⟨lw_p23, List.forall_mem_cons.mpr ⟨lw_p24, List.forall_mem_cons.mpr ⟨lw_p25, List.forall_mem_cons.mpr ⟨lw_p26, List.forall_mem_cons.mpr ⟨lw_p27, List.forall_mem_cons.mpr ⟨lw_p28, List.forall_mem_cons.mpr ⟨lw_p29, List.forall_mem_cons.mpr ⟨lw_p30, List.forall_mem_cons.mpr ⟨lw_p31, fun _ h => absurd h List.not_mem_nil⟩⟩⟩⟩⟩⟩⟩⟩⟩⟩⟩⟩⟩⟩⟩⟩
theorem lw_p32 : lw_okq (⟨"OtherwiseCourtModel", "emits", "(I)V"⟩, 31) := ⟨⟨by decide +kernel, by decide +kernel⟩, List.mem_of_getElem? (i := 843) (by decide +kernel), List.mem_of_getElem? (i := 992) (by decide +kernel), List.mem_of_getElem? (i := 993) (by decide +kernel)⟩
theorem lw_p33 : lw_okq (⟨"OtherwiseCourtModel", "among", "(Ljava/lang/String;)I"⟩, 31) := ⟨⟨by decide +kernel, by decide +kernel⟩, List.mem_of_getElem? (i := 843) (by decide +kernel), List.mem_of_getElem? (i := 997) (by decide +kernel), List.mem_of_getElem? (i := 998) (by decide +kernel)⟩
theorem lw_p34 : lw_okq (⟨"OtherwiseCourtModel", "barNow", "()I"⟩, 31) := ⟨⟨by decide +kernel, by decide +kernel⟩, List.mem_of_getElem? (i := 843) (by decide +kernel), List.mem_of_getElem? (i := 1012) (by decide +kernel), List.mem_of_getElem? (i := 1013) (by decide +kernel)⟩
theorem lw_p35 : lw_okq (⟨"OtherwiseCourtModel", "isSuit", "(I)Z"⟩, 31) := ⟨⟨by decide +kernel, by decide +kernel⟩, List.mem_of_getElem? (i := 843) (by decide +kernel), List.mem_of_getElem? (i := 1024) (by decide +kernel), List.mem_of_getElem? (i := 1025) (by decide +kernel)⟩
theorem lw_p36 : lw_okq (⟨"OtherwiseCourtModel", "isJudge", "(I)Z"⟩, 31) := ⟨⟨by decide +kernel, by decide +kernel⟩, List.mem_of_getElem? (i := 843) (by decide +kernel), List.mem_of_getElem? (i := 1036) (by decide +kernel), List.mem_of_getElem? (i := 1037) (by decide +kernel)⟩
theorem lw_p37 : lw_okq (⟨"OtherwiseCourtModel", "looks", "(II)V"⟩, 31) := ⟨⟨by decide +kernel, by decide +kernel⟩, List.mem_of_getElem? (i := 843) (by decide +kernel), List.mem_of_getElem? (i := 1044) (by decide +kernel), List.mem_of_getElem? (i := 1045) (by decide +kernel)⟩
theorem lw_p38 : lw_okq (⟨"OtherwiseCourtModel", "looksFor", "(I)V"⟩, 31) := ⟨⟨by decide +kernel, by decide +kernel⟩, List.mem_of_getElem? (i := 843) (by decide +kernel), List.mem_of_getElem? (i := 1053) (by decide +kernel), List.mem_of_getElem? (i := 1054) (by decide +kernel)⟩
theorem lw_p39 : lw_okq (⟨"OtherwiseCourtModel", "scoreOf", "(II)I"⟩, 31) := ⟨⟨by decide +kernel, by decide +kernel⟩, List.mem_of_getElem? (i := 843) (by decide +kernel), List.mem_of_getElem? (i := 1057) (by decide +kernel), List.mem_of_getElem? (i := 1058) (by decide +kernel)⟩
theorem lw_p40 : lw_okq (⟨"OtherwiseCourtModel", "opens", "()V"⟩, 31) := ⟨⟨by decide +kernel, by decide +kernel⟩, List.mem_of_getElem? (i := 843) (by decide +kernel), List.mem_of_getElem? (i := 1065) (by decide +kernel), List.mem_of_getElem? (i := 1066) (by decide +kernel)⟩
theorem lw_p41 : lw_okq (⟨"OtherwiseCourtModel", "writes", "(IZ)V"⟩, 31) := ⟨⟨by decide +kernel, by decide +kernel⟩, List.mem_of_getElem? (i := 843) (by decide +kernel), List.mem_of_getElem? (i := 1069) (by decide +kernel), List.mem_of_getElem? (i := 1070) (by decide +kernel)⟩
theorem lw_p42 : lw_okq (⟨"OtherwiseCourtModel", "isForIt", "(II)Z"⟩, 31) := ⟨⟨by decide +kernel, by decide +kernel⟩, List.mem_of_getElem? (i := 843) (by decide +kernel), List.mem_of_getElem? (i := 1073) (by decide +kernel), List.mem_of_getElem? (i := 1074) (by decide +kernel)⟩
theorem lw_p43 : lw_okq (⟨"OtherwiseCourtModel", "decidesBy", "(II)I"⟩, 31) := ⟨⟨by decide +kernel, by decide +kernel⟩, List.mem_of_getElem? (i := 843) (by decide +kernel), List.mem_of_getElem? (i := 1077) (by decide +kernel), List.mem_of_getElem? (i := 1078) (by decide +kernel)⟩
theorem lw_p44 : lw_okq (⟨"OtherwiseCourtModel", "isLike", "(II)Z"⟩, 31) := ⟨⟨by decide +kernel, by decide +kernel⟩, List.mem_of_getElem? (i := 843) (by decide +kernel), List.mem_of_getElem? (i := 1084) (by decide +kernel), List.mem_of_getElem? (i := 1085) (by decide +kernel)⟩
theorem lw_p45 : lw_okq (⟨"OtherwiseCourtModel", "decidesMost", "(II)I"⟩, 31) := ⟨⟨by decide +kernel, by decide +kernel⟩, List.mem_of_getElem? (i := 843) (by decide +kernel), List.mem_of_getElem? (i := 1088) (by decide +kernel), List.mem_of_getElem? (i := 1089) (by decide +kernel)⟩
theorem lw_p46 : lw_okq (⟨"OtherwiseCourtModel", "likeOne", "(II)I"⟩, 31) := ⟨⟨by decide +kernel, by decide +kernel⟩, List.mem_of_getElem? (i := 843) (by decide +kernel), List.mem_of_getElem? (i := 1092) (by decide +kernel), List.mem_of_getElem? (i := 1093) (by decide +kernel)⟩
theorem lw_p47 : lw_okq (⟨"OtherwiseCourtModel", "enters", "(IZ)I"⟩, 31) := ⟨⟨by decide +kernel, by decide +kernel⟩, List.mem_of_getElem? (i := 843) (by decide +kernel), List.mem_of_getElem? (i := 1100) (by decide +kernel), List.mem_of_getElem? (i := 1101) (by decide +kernel)⟩
def lw_privs_3 : List (MethodName × Nat) := [(⟨"OtherwiseCourtModel", "emits", "(I)V"⟩, 31), (⟨"OtherwiseCourtModel", "among", "(Ljava/lang/String;)I"⟩, 31), (⟨"OtherwiseCourtModel", "barNow", "()I"⟩, 31), (⟨"OtherwiseCourtModel", "isSuit", "(I)Z"⟩, 31), (⟨"OtherwiseCourtModel", "isJudge", "(I)Z"⟩, 31), (⟨"OtherwiseCourtModel", "looks", "(II)V"⟩, 31), (⟨"OtherwiseCourtModel", "looksFor", "(I)V"⟩, 31), (⟨"OtherwiseCourtModel", "scoreOf", "(II)I"⟩, 31), (⟨"OtherwiseCourtModel", "opens", "()V"⟩, 31), (⟨"OtherwiseCourtModel", "writes", "(IZ)V"⟩, 31), (⟨"OtherwiseCourtModel", "isForIt", "(II)Z"⟩, 31), (⟨"OtherwiseCourtModel", "decidesBy", "(II)I"⟩, 31), (⟨"OtherwiseCourtModel", "isLike", "(II)Z"⟩, 31), (⟨"OtherwiseCourtModel", "decidesMost", "(II)I"⟩, 31), (⟨"OtherwiseCourtModel", "likeOne", "(II)I"⟩, 31), (⟨"OtherwiseCourtModel", "enters", "(IZ)I"⟩, 31)]
theorem lw_r3 : ∀ q ∈ lw_privs_3, lw_okq q := List.forall_mem_cons.mpr ⟨lw_p32, List.forall_mem_cons.mpr ⟨lw_p33, List.forall_mem_cons.mpr ⟨lw_p34, List.forall_mem_cons.mpr ⟨lw_p35, List.forall_mem_cons.mpr ⟨lw_p36, List.forall_mem_cons.mpr ⟨lw_p37, List.forall_mem_cons.mpr ⟨lw_p38, List.forall_mem_cons.mpr ⟨lw_p39, List.forall_mem_cons.mpr ⟨lw_p40, List.forall_mem_cons.mpr ⟨lw_p41, List.forall_mem_cons.mpr ⟨lw_p42, List.forall_mem_cons.mpr ⟨lw_p43, List.forall_mem_cons.mpr ⟨lw_p44, List.forall_mem_cons.mpr ⟨lw_p45, List.forall_mem_cons.mpr ⟨lw_p46, List.forall_mem_cons.mpr ⟨lw_p47, fun _ h => absurd h List.not_mem_nil⟩⟩⟩⟩⟩⟩⟩⟩⟩⟩⟩⟩⟩⟩⟩⟩
theorem lw_p48 : lw_okq (⟨"OtherwiseCourtModel", "isSet", "(I)Z"⟩, 31) := ⟨⟨by decide +kernel, by decide +kernel⟩, List.mem_of_getElem? (i := 843) (by decide +kernel), List.mem_of_getElem? (i := 1116) (by decide +kernel), List.mem_of_getElem? (i := 1117) (by decide +kernel)⟩
theorem lw_p49 : lw_okq (⟨"OtherwiseCourtModel", "ordersFrom", "(IIII)V"⟩, 31) := ⟨⟨by decide +kernel, by decide +kernel⟩, List.mem_of_getElem? (i := 843) (by decide +kernel), List.mem_of_getElem? (i := 1121) (by decide +kernel), List.mem_of_getElem? (i := 1122) (by decide +kernel)⟩
theorem lw_p50 : lw_okq (⟨"OtherwiseCourtModel", "hears", "(II)Z"⟩, 31) := ⟨⟨by decide +kernel, by decide +kernel⟩, List.mem_of_getElem? (i := 843) (by decide +kernel), List.mem_of_getElem? (i := 1125) (by decide +kernel), List.mem_of_getElem? (i := 1126) (by decide +kernel)⟩
theorem lw_p51 : lw_okq (⟨"OtherwiseCourtModel", "looksForShams", "(II)I"⟩, 31) := ⟨⟨by decide +kernel, by decide +kernel⟩, List.mem_of_getElem? (i := 843) (by decide +kernel), List.mem_of_getElem? (i := 1133) (by decide +kernel), List.mem_of_getElem? (i := 1134) (by decide +kernel)⟩
theorem lw_p52 : lw_okq (⟨"OtherwiseCourtModel", "rivals", "(IIIZZ)I"⟩, 31) := ⟨⟨by decide +kernel, by decide +kernel⟩, List.mem_of_getElem? (i := 843) (by decide +kernel), List.mem_of_getElem? (i := 1145) (by decide +kernel), List.mem_of_getElem? (i := 1146) (by decide +kernel)⟩
theorem lw_p53 : lw_okq (⟨"OtherwiseCourtModel", "firstUnlawful", "(II)I"⟩, 31) := ⟨⟨by decide +kernel, by decide +kernel⟩, List.mem_of_getElem? (i := 843) (by decide +kernel), List.mem_of_getElem? (i := 1161) (by decide +kernel), List.mem_of_getElem? (i := 1162) (by decide +kernel)⟩
theorem lw_p54 : lw_okq (⟨"OtherwiseCourtModel", "falls", "(IIII)J"⟩, 31) := ⟨⟨by decide +kernel, by decide +kernel⟩, List.mem_of_getElem? (i := 843) (by decide +kernel), List.mem_of_getElem? (i := 1182) (by decide +kernel), List.mem_of_getElem? (i := 1183) (by decide +kernel)⟩
theorem lw_p55 : lw_okq (⟨"OtherwiseCourtModel", "hearsActs", "(I)I"⟩, 31) := ⟨⟨by decide +kernel, by decide +kernel⟩, List.mem_of_getElem? (i := 843) (by decide +kernel), List.mem_of_getElem? (i := 1198) (by decide +kernel), List.mem_of_getElem? (i := 1199) (by decide +kernel)⟩
theorem lw_p56 : lw_okq (⟨"OtherwiseCourtModel", "ranBody", "(I)V"⟩, 31) := ⟨⟨by decide +kernel, by decide +kernel⟩, List.mem_of_getElem? (i := 843) (by decide +kernel), List.mem_of_getElem? (i := 1205) (by decide +kernel), List.mem_of_getElem? (i := 1206) (by decide +kernel)⟩
theorem lw_p57 : lw_okq (⟨"OtherwiseCourtModel", "plainHears", "(I)I"⟩, 31) := ⟨⟨by decide +kernel, by decide +kernel⟩, List.mem_of_getElem? (i := 843) (by decide +kernel), List.mem_of_getElem? (i := 1209) (by decide +kernel), List.mem_of_getElem? (i := 1210) (by decide +kernel)⟩
theorem lw_p58 : lw_okq (⟨"OtherwiseCourtModel", "weighsActs", "(I)I"⟩, 31) := ⟨⟨by decide +kernel, by decide +kernel⟩, List.mem_of_getElem? (i := 843) (by decide +kernel), List.mem_of_getElem? (i := 1213) (by decide +kernel), List.mem_of_getElem? (i := 1214) (by decide +kernel)⟩
theorem lw_p59 : lw_okq (⟨"OtherwiseCourtModel", "plainWeighs", "(I)I"⟩, 31) := ⟨⟨by decide +kernel, by decide +kernel⟩, List.mem_of_getElem? (i := 843) (by decide +kernel), List.mem_of_getElem? (i := 1217) (by decide +kernel), List.mem_of_getElem? (i := 1218) (by decide +kernel)⟩
theorem lw_p60 : lw_okq (⟨"OtherwiseCourtModel", "saysActs", "(I)I"⟩, 31) := ⟨⟨by decide +kernel, by decide +kernel⟩, List.mem_of_getElem? (i := 843) (by decide +kernel), List.mem_of_getElem? (i := 1221) (by decide +kernel), List.mem_of_getElem? (i := 1222) (by decide +kernel)⟩
theorem lw_p61 : lw_okq (⟨"OtherwiseCourtModel", "plainSays", "(I)I"⟩, 31) := ⟨⟨by decide +kernel, by decide +kernel⟩, List.mem_of_getElem? (i := 843) (by decide +kernel), List.mem_of_getElem? (i := 1225) (by decide +kernel), List.mem_of_getElem? (i := 1226) (by decide +kernel)⟩
def lw_privs_4 : List (MethodName × Nat) := [(⟨"OtherwiseCourtModel", "isSet", "(I)Z"⟩, 31), (⟨"OtherwiseCourtModel", "ordersFrom", "(IIII)V"⟩, 31), (⟨"OtherwiseCourtModel", "hears", "(II)Z"⟩, 31), (⟨"OtherwiseCourtModel", "looksForShams", "(II)I"⟩, 31), (⟨"OtherwiseCourtModel", "rivals", "(IIIZZ)I"⟩, 31), (⟨"OtherwiseCourtModel", "firstUnlawful", "(II)I"⟩, 31), (⟨"OtherwiseCourtModel", "falls", "(IIII)J"⟩, 31), (⟨"OtherwiseCourtModel", "hearsActs", "(I)I"⟩, 31), (⟨"OtherwiseCourtModel", "ranBody", "(I)V"⟩, 31), (⟨"OtherwiseCourtModel", "plainHears", "(I)I"⟩, 31), (⟨"OtherwiseCourtModel", "weighsActs", "(I)I"⟩, 31), (⟨"OtherwiseCourtModel", "plainWeighs", "(I)I"⟩, 31), (⟨"OtherwiseCourtModel", "saysActs", "(I)I"⟩, 31), (⟨"OtherwiseCourtModel", "plainSays", "(I)I"⟩, 31)]
theorem lw_r4 : ∀ q ∈ lw_privs_4, lw_okq q := List.forall_mem_cons.mpr ⟨lw_p48, List.forall_mem_cons.mpr ⟨lw_p49, List.forall_mem_cons.mpr ⟨lw_p50, List.forall_mem_cons.mpr ⟨lw_p51, List.forall_mem_cons.mpr ⟨lw_p52, List.forall_mem_cons.mpr ⟨lw_p53, List.forall_mem_cons.mpr ⟨lw_p54, List.forall_mem_cons.mpr ⟨lw_p55, List.forall_mem_cons.mpr ⟨lw_p56, List.forall_mem_cons.mpr ⟨lw_p57, List.forall_mem_cons.mpr ⟨lw_p58, List.forall_mem_cons.mpr ⟨lw_p59, List.forall_mem_cons.mpr ⟨lw_p60, List.forall_mem_cons.mpr ⟨lw_p61, fun _ h => absurd h List.not_mem_nil⟩⟩⟩⟩⟩⟩⟩⟩⟩⟩⟩⟩⟩⟩
def lw_privs : List (MethodName × Nat) := lw_privs_1 ++ (lw_privs_2 ++ (lw_privs_3 ++ (lw_privs_4)))
def lw_tbl : List Cond := k2_sels lw_privs ++ tables_1
theorem lw_privs_ok : ∀ q ∈ lw_privs, lw_okq q := by
  show ∀ q ∈ lw_privs_1 ++ (lw_privs_2 ++ (lw_privs_3 ++ (lw_privs_4))), lw_okq q
  exact List.forall_mem_append.mpr ⟨lw_r1, List.forall_mem_append.mpr ⟨lw_r2, List.forall_mem_append.mpr ⟨lw_r3, lw_r4⟩⟩⟩
-- names
def RX0 : String := "OtherwiseCourt$Coins"
def TX0 : u_T := fun k => match k with
  | 0 => ("OtherwiseCourt$Coins", "sitting", "LOtherwiseCourt$Sitting;", true)
  | 1 => ("OtherwiseCourt$Coins", "tallies", "[LOtherwiseCourt$Tally;", true)
  | _ => ("OtherwiseCourt$Coins", "chances", "[I", true)
def tyX0 : Nat → FieldType := fun k => match k with
  | 0 => .object "OtherwiseCourt$Sitting"
  | 1 => .array (.object "OtherwiseCourt$Tally")
  | _ => .array .int
def RX1 : String := "OtherwiseCourt$Deeds"
def TX1 : u_T := fun k => match k with
  | 0 => ("OtherwiseCourt$Deeds", "bodies", "[I", true)
  | 1 => ("OtherwiseCourt$Deeds", "ran", "I", false)
  | 2 => ("OtherwiseCourt$Deeds", "judge", "I", false)
  | 3 => ("OtherwiseCourt$Deeds", "kind", "I", false)
  | _ => ("OtherwiseCourt$Deeds", "number", "I", false)
def tyX1 : Nat → FieldType := fun k => match k with
  | 0 => .array .int
  | 1 => .int
  | 2 => .int
  | 3 => .int
  | _ => .int
def RX2 : String := "OtherwiseCourt$Hall"
def TX2 : u_T := fun k => match k with
  | 0 => ("OtherwiseCourt$Hall", "day", "I", false)
  | 1 => ("OtherwiseCourt$Hall", "suits", "I", false)
  | 2 => ("OtherwiseCourt$Hall", "points", "[I", true)
  | 3 => ("OtherwiseCourt$Hall", "worths", "[I", true)
  | 4 => ("OtherwiseCourt$Hall", "judges", "I", false)
  | 5 => ("OtherwiseCourt$Hall", "kinds", "[I", true)
  | 6 => ("OtherwiseCourt$Hall", "numbers", "[I", true)
  | 7 => ("OtherwiseCourt$Hall", "rows", "[I", true)
  | 8 => ("OtherwiseCourt$Hall", "entries", "I", false)
  | 9 => ("OtherwiseCourt$Hall", "book", "[I", true)
  | 10 => ("OtherwiseCourt$Hall", "queued", "I", false)
  | 11 => ("OtherwiseCourt$Hall", "queue", "[I", true)
  | 12 => ("OtherwiseCourt$Hall", "signs", "I", false)
  | 13 => ("OtherwiseCourt$Hall", "tape", "[B", true)
  | 14 => ("OtherwiseCourt$Hall", "courts", "I", false)
  | 15 => ("OtherwiseCourt$Hall", "lawSize", "I", false)
  | _ => ("OtherwiseCourt$Hall", "law", "[B", true)
def tyX2 : Nat → FieldType := fun k => match k with
  | 0 => .int
  | 1 => .int
  | 2 => .array .int
  | 3 => .array .int
  | 4 => .int
  | 5 => .array .int
  | 6 => .array .int
  | 7 => .array .int
  | 8 => .int
  | 9 => .array .int
  | 10 => .int
  | 11 => .array .int
  | 12 => .int
  | 13 => .array .byte
  | 14 => .int
  | 15 => .int
  | _ => .array .byte
def RX3 : String := "OtherwiseCourt$Law"
def TX3 : u_T := fun k => match k with
  | 0 => ("OtherwiseCourt$Law", "weights", "[I", true)
  | 1 => ("OtherwiseCourt$Law", "clashes", "[I", true)
  | 2 => ("OtherwiseCourt$Law", "bar", "I", false)
  | 3 => ("OtherwiseCourt$Law", "kind", "I", false)
  | 4 => ("OtherwiseCourt$Law", "number", "I", false)
  | 5 => ("OtherwiseCourt$Law", "day", "I", false)
  | 6 => ("OtherwiseCourt$Law", "state", "I", false)
  | 7 => ("OtherwiseCourt$Law", "verb", "I", false)
  | 8 => ("OtherwiseCourt$Law", "letter", "I", false)
  | 9 => ("OtherwiseCourt$Law", "clauses", "I", false)
  | 10 => ("OtherwiseCourt$Law", "amount", "I", false)
  | 11 => ("OtherwiseCourt$Law", "digits", "I", false)
  | 12 => ("OtherwiseCourt$Law", "times", "I", false)
  | 13 => ("OtherwiseCourt$Law", "of", "I", false)
  | 14 => ("OtherwiseCourt$Law", "how", "I", false)
  | 15 => ("OtherwiseCourt$Law", "open", "I", false)
  | 16 => ("OtherwiseCourt$Law", "openers", "[I", true)
  | 17 => ("OtherwiseCourt$Law", "terms", "[I", true)
  | _ => ("OtherwiseCourt$Law", "factors", "[I", true)
def tyX3 : Nat → FieldType := fun k => match k with
  | 0 => .array .int
  | 1 => .array .int
  | 2 => .int
  | 3 => .int
  | 4 => .int
  | 5 => .int
  | 6 => .int
  | 7 => .int
  | 8 => .int
  | 9 => .int
  | 10 => .int
  | 11 => .int
  | 12 => .int
  | 13 => .int
  | 14 => .int
  | 15 => .int
  | 16 => .array .int
  | 17 => .array .int
  | _ => .array .int
def RX4 : String := "OtherwiseCourt$Search"
def TX4 : u_T := fun k => match k with
  | 0 => ("OtherwiseCourt$Search", "sitting", "LOtherwiseCourt$Sitting;", true)
  | 1 => ("OtherwiseCourt$Search", "tallies", "[LOtherwiseCourt$Tally;", true)
  | 2 => ("OtherwiseCourt$Search", "worths", "[I", true)
  | 3 => ("OtherwiseCourt$Search", "tried", "[I", true)
  | 4 => ("OtherwiseCourt$Search", "row", "[I", true)
  | 5 => ("OtherwiseCourt$Search", "most", "I", false)
  | _ => ("OtherwiseCourt$Search", "first", "I", false)
def tyX4 : Nat → FieldType := fun k => match k with
  | 0 => .object "OtherwiseCourt$Sitting"
  | 1 => .array (.object "OtherwiseCourt$Tally")
  | 2 => .array .int
  | 3 => .array .int
  | 4 => .array .int
  | 5 => .int
  | _ => .int
def RX5 : String := "OtherwiseCourt$Sitting"
def TX5 : u_T := fun k => match k with
  | 0 => ("OtherwiseCourt$Sitting", "kind", "I", false)
  | 1 => ("OtherwiseCourt$Sitting", "number", "I", false)
  | 2 => ("OtherwiseCourt$Sitting", "bar", "I", false)
  | 3 => ("OtherwiseCourt$Sitting", "row", "[I", true)
  | 4 => ("OtherwiseCourt$Sitting", "weightOf", "[I", true)
  | 5 => ("OtherwiseCourt$Sitting", "clashOf", "[I", true)
  | 6 => ("OtherwiseCourt$Sitting", "heard", "I", false)
  | 7 => ("OtherwiseCourt$Sitting", "points", "[I", true)
  | 8 => ("OtherwiseCourt$Sitting", "fors", "[Z", true)
  | 9 => ("OtherwiseCourt$Sitting", "own", "LOtherwiseCourt$Tally;", true)
  | _ => ("OtherwiseCourt$Sitting", "passing", "LOtherwiseCourt$Tally;", true)
def tyX5 : Nat → FieldType := fun k => match k with
  | 0 => .int
  | 1 => .int
  | 2 => .int
  | 3 => .array .int
  | 4 => .array .int
  | 5 => .array .int
  | 6 => .int
  | 7 => .array .int
  | 8 => .array .boolean
  | 9 => .object "OtherwiseCourt$Tally"
  | _ => .object "OtherwiseCourt$Tally"
def RX6 : String := "OtherwiseCourt$Tally"
def TX6 : u_T := fun k => match k with
  | 0 => ("OtherwiseCourt$Tally", "points", "I", false)
  | 1 => ("OtherwiseCourt$Tally", "seen", "I", false)
  | 2 => ("OtherwiseCourt$Tally", "earliest", "I", false)
  | 3 => ("OtherwiseCourt$Tally", "latest", "I", false)
  | 4 => ("OtherwiseCourt$Tally", "nearest", "I", false)
  | 5 => ("OtherwiseCourt$Tally", "nearness", "I", false)
  | 6 => ("OtherwiseCourt$Tally", "wins", "I", false)
  | _ => ("OtherwiseCourt$Tally", "losses", "I", false)
def tyX6 : Nat → FieldType := fun k => match k with
  | 0 => .int
  | 1 => .int
  | 2 => .int
  | 3 => .int
  | 4 => .int
  | 5 => .int
  | 6 => .int
  | _ => .int
def RX7 : String := "OtherwiseCourt"
def TX7 : u_T := fun k => match k with
  | 0 => ("OtherwiseCourt", "hall", "LOtherwiseCourt$Hall;", true)
  | 1 => ("OtherwiseCourt", "kept", "LOtherwiseCourt$Hall;", true)
  | 2 => ("OtherwiseCourt", "imaged", "Z", false)
  | 3 => ("OtherwiseCourt", "law", "LOtherwiseCourt$Law;", true)
  | 4 => ("OtherwiseCourt", "sitting", "LOtherwiseCourt$Sitting;", true)
  | 5 => ("OtherwiseCourt", "search", "LOtherwiseCourt$Search;", true)
  | 6 => ("OtherwiseCourt", "coins", "LOtherwiseCourt$Coins;", true)
  | _ => ("OtherwiseCourt", "deeds", "LOtherwiseCourt$Deeds;", true)
def tyX7 : Nat → FieldType := fun k => match k with
  | 0 => .object "OtherwiseCourt$Hall"
  | 1 => .object "OtherwiseCourt$Hall"
  | 2 => .boolean
  | 3 => .object "OtherwiseCourt$Law"
  | 4 => .object "OtherwiseCourt$Sitting"
  | 5 => .object "OtherwiseCourt$Search"
  | 6 => .object "OtherwiseCourt$Coins"
  | _ => .object "OtherwiseCourt$Deeds"
def RX8 : String := "OtherwiseCourtModel"
def TX8 : u_T := fun k => match k with
  | 0 => ("OtherwiseCourtModel", "thrown", "I", false)
  | 1 => ("OtherwiseCourtModel", "s", "[I", true)
  | 2 => ("OtherwiseCourtModel", "image", "[I", true)
  | 3 => ("OtherwiseCourtModel", "hasImage", "Z", false)
  | 4 => ("OtherwiseCourtModel", "act", "I", false)
  | 5 => ("OtherwiseCourtModel", "spot", "I", false)
  | 6 => ("OtherwiseCourtModel", "end", "I", false)
  | 7 => ("OtherwiseCourtModel", "isWrong", "Z", false)
  | 8 => ("OtherwiseCourtModel", "open", "I", false)
  | 9 => ("OtherwiseCourtModel", "by", "[I", true)
  | 10 => ("OtherwiseCourtModel", "truths", "[Z", true)
  | 11 => ("OtherwiseCourtModel", "weighing", "I", false)
  | 12 => ("OtherwiseCourtModel", "clashing", "I", false)
  | 13 => ("OtherwiseCourtModel", "weights", "[I", true)
  | 14 => ("OtherwiseCourtModel", "clashes", "[I", true)
  | 15 => ("OtherwiseCourtModel", "bar", "I", false)
  | 16 => ("OtherwiseCourtModel", "points", "[I", true)
  | 17 => ("OtherwiseCourtModel", "isFor", "[Z", true)
  | 18 => ("OtherwiseCourtModel", "many", "I", false)
  | 19 => ("OtherwiseCourtModel", "byWhich", "I", false)
  | 20 => ("OtherwiseCourtModel", "likes", "I", false)
  | 21 => ("OtherwiseCourtModel", "order", "[I", true)
  | 22 => ("OtherwiseCourtModel", "bestOrder", "[I", true)
  | 23 => ("OtherwiseCourtModel", "bestSum", "I", false)
  | 24 => ("OtherwiseCourtModel", "shamPoints", "[I", true)
  | 25 => ("OtherwiseCourtModel", "firstOfOurs", "I", false)
  | 26 => ("OtherwiseCourtModel", "bodies", "[I", true)
  | 27 => ("OtherwiseCourtModel", "ran", "I", false)
  | 28 => ("OtherwiseCourtModel", "kind", "I", false)
  | 29 => ("OtherwiseCourtModel", "number", "I", false)
  | _ => ("OtherwiseCourtModel", "tellsV", "I", false)
def tyX8 : Nat → FieldType := fun k => match k with
  | 0 => .int
  | 1 => .array .int
  | 2 => .array .int
  | 3 => .boolean
  | 4 => .int
  | 5 => .int
  | 6 => .int
  | 7 => .boolean
  | 8 => .int
  | 9 => .array .int
  | 10 => .array .boolean
  | 11 => .int
  | 12 => .int
  | 13 => .array .int
  | 14 => .array .int
  | 15 => .int
  | 16 => .array .int
  | 17 => .array .boolean
  | 18 => .int
  | 19 => .int
  | 20 => .int
  | 21 => .array .int
  | 22 => .array .int
  | 23 => .int
  | 24 => .array .int
  | 25 => .int
  | 26 => .array .int
  | 27 => .int
  | 28 => .int
  | 29 => .int
  | _ => .int
theorem nmX0 : ∀ a, a < 3 → ∀ b, b < 3 → a ≠ b → (TX0 a).2.1 ≠ (TX0 b).2.1 := by decide +kernel
theorem tyX0_ok : ∀ k, k < 3 → parseFieldDescriptor (TX0 k).2.2.1 = some (tyX0 k) := by decide +kernel
theorem nmX1 : ∀ a, a < 5 → ∀ b, b < 5 → a ≠ b → (TX1 a).2.1 ≠ (TX1 b).2.1 := by decide +kernel
theorem tyX1_ok : ∀ k, k < 5 → parseFieldDescriptor (TX1 k).2.2.1 = some (tyX1 k) := by decide +kernel
theorem nmX2 : ∀ a, a < 17 → ∀ b, b < 17 → a ≠ b → (TX2 a).2.1 ≠ (TX2 b).2.1 := by decide +kernel
theorem tyX2_ok : ∀ k, k < 17 → parseFieldDescriptor (TX2 k).2.2.1 = some (tyX2 k) := by decide +kernel
theorem nmX3 : ∀ a, a < 19 → ∀ b, b < 19 → a ≠ b → (TX3 a).2.1 ≠ (TX3 b).2.1 := by decide +kernel
theorem tyX3_ok : ∀ k, k < 19 → parseFieldDescriptor (TX3 k).2.2.1 = some (tyX3 k) := by decide +kernel
theorem nmX4 : ∀ a, a < 7 → ∀ b, b < 7 → a ≠ b → (TX4 a).2.1 ≠ (TX4 b).2.1 := by decide +kernel
theorem tyX4_ok : ∀ k, k < 7 → parseFieldDescriptor (TX4 k).2.2.1 = some (tyX4 k) := by decide +kernel
theorem nmX5 : ∀ a, a < 11 → ∀ b, b < 11 → a ≠ b → (TX5 a).2.1 ≠ (TX5 b).2.1 := by decide +kernel
theorem tyX5_ok : ∀ k, k < 11 → parseFieldDescriptor (TX5 k).2.2.1 = some (tyX5 k) := by decide +kernel
theorem nmX6 : ∀ a, a < 8 → ∀ b, b < 8 → a ≠ b → (TX6 a).2.1 ≠ (TX6 b).2.1 := by decide +kernel
theorem tyX6_ok : ∀ k, k < 8 → parseFieldDescriptor (TX6 k).2.2.1 = some (tyX6 k) := by decide +kernel
theorem nmX7 : ∀ a, a < 8 → ∀ b, b < 8 → a ≠ b → (TX7 a).2.1 ≠ (TX7 b).2.1 := by decide +kernel
theorem tyX7_ok : ∀ k, k < 8 → parseFieldDescriptor (TX7 k).2.2.1 = some (tyX7 k) := by decide +kernel
theorem nmX8 : ∀ a, a < 31 → ∀ b, b < 31 → a ≠ b → (TX8 a).2.1 ≠ (TX8 b).2.1 := by decide +kernel
theorem tyX8_ok : ∀ k, k < 31 → parseFieldDescriptor (TX8 k).2.2.1 = some (tyX8 k) := by decide +kernel
abbrev cX0_init : ByteArray := prog_2_method_1_code
def yX0_init : MethodName := ⟨RX0, "<init>", "(LOtherwiseCourt$Sitting;)V"⟩
abbrev cX0_fall : ByteArray := prog_2_method_2_code
def yX0_fall : MethodName := ⟨RX0, "fall", "(LOtherwiseCourt$Hall;)V"⟩
abbrev cX0_come : ByteArray := prog_2_method_3_code
def yX0_come : MethodName := ⟨RX0, "come", "(III)V"⟩
abbrev cX0_settle : ByteArray := prog_2_method_4_code
def yX0_settle : MethodName := ⟨RX0, "settle", "(IIIZ)V"⟩
abbrev cX0_part : ByteArray := prog_2_method_5_code
def yX0_part : MethodName := ⟨RX0, "part", "(II)J"⟩
abbrev cX1_init : ByteArray := prog_3_method_1_code
def yX1_init : MethodName := ⟨RX1, "<init>", "()V"⟩
abbrev cX1_perform : ByteArray := prog_3_method_2_code
def yX1_perform : MethodName := ⟨RX1, "perform", "(IIIII)I"⟩
abbrev cX1_run : ByteArray := prog_3_method_3_code
def yX1_run : MethodName := ⟨RX1, "run", "(IIII)I"⟩
abbrev cX1_holderFrom : ByteArray := prog_3_method_4_code
def yX1_holderFrom : MethodName := ⟨RX1, "holderFrom", "(II)I"⟩
abbrev cX1_note : ByteArray := prog_3_method_5_code
def yX1_note : MethodName := ⟨RX1, "note", "(I)V"⟩
abbrev cX2_init : ByteArray := prog_4_method_1_code
def yX2_init : MethodName := ⟨RX2, "<init>", "()V"⟩
abbrev cX2_hasSuit : ByteArray := prog_4_method_2_code
def yX2_hasSuit : MethodName := ⟨RX2, "hasSuit", "(I)Z"⟩
abbrev cX2_hasSuits : ByteArray := prog_4_method_3_code
def yX2_hasSuits : MethodName := ⟨RX2, "hasSuits", "(I)Z"⟩
abbrev cX2_hasJudge : ByteArray := prog_4_method_4_code
def yX2_hasJudge : MethodName := ⟨RX2, "hasJudge", "(I)Z"⟩
abbrev cX2_pointsOf : ByteArray := prog_4_method_5_code
def yX2_pointsOf : MethodName := ⟨RX2, "pointsOf", "(I)I"⟩
abbrev cX2_worthOf : ByteArray := prog_4_method_6_code
def yX2_worthOf : MethodName := ⟨RX2, "worthOf", "(I)I"⟩
abbrev cX2_kindOf : ByteArray := prog_4_method_7_code
def yX2_kindOf : MethodName := ⟨RX2, "kindOf", "(I)I"⟩
abbrev cX2_numberOf : ByteArray := prog_4_method_8_code
def yX2_numberOf : MethodName := ⟨RX2, "numberOf", "(I)I"⟩
abbrev cX2_write : ByteArray := prog_4_method_9_code
def yX2_write : MethodName := ⟨RX2, "write", "(IZ)V"⟩
abbrev cX2_become : ByteArray := prog_4_method_10_code
def yX2_become : MethodName := ⟨RX2, "become", "(LOtherwiseCourt$Hall;)V"⟩
abbrev cX3_init : ByteArray := prog_5_method_1_code
def yX3_init : MethodName := ⟨RX3, "<init>", "()V"⟩
abbrev cX3_learn : ByteArray := prog_5_method_2_code
def yX3_learn : MethodName := ⟨RX3, "learn", "([BIIII)I"⟩
abbrev cX3_goesOn : ByteArray := prog_5_method_3_code
def yX3_goesOn : MethodName := ⟨RX3, "goesOn", "(I)Z"⟩
abbrev cX3_beginsClause : ByteArray := prog_5_method_4_code
def yX3_beginsClause : MethodName := ⟨RX3, "beginsClause", "(I)Z"⟩
abbrev cX3_goesOnWord : ByteArray := prog_5_method_5_code
def yX3_goesOnWord : MethodName := ⟨RX3, "goesOnWord", "(I)Z"⟩
abbrev cX3_beginNumber : ByteArray := prog_5_method_6_code
def yX3_beginNumber : MethodName := ⟨RX3, "beginNumber", "(I)V"⟩
abbrev cX3_isDigit : ByteArray := prog_5_method_7_code
def yX3_isDigit : MethodName := ⟨RX3, "isDigit", "(I)Z"⟩
abbrev cX3_endsAmount : ByteArray := prog_5_method_8_code
def yX3_endsAmount : MethodName := ⟨RX3, "endsAmount", "(I)Z"⟩
abbrev cX3_beginsFactor : ByteArray := prog_5_method_9_code
def yX3_beginsFactor : MethodName := ⟨RX3, "beginsFactor", "(I)Z"⟩
abbrev cX3_compares : ByteArray := prog_5_method_10_code
def yX3_compares : MethodName := ⟨RX3, "compares", "(I)Z"⟩
abbrev cX3_endsTest : ByteArray := prog_5_method_11_code
def yX3_endsTest : MethodName := ⟨RX3, "endsTest", "(I)Z"⟩
abbrev cX3_endFactor : ByteArray := prog_5_method_12_code
def yX3_endFactor : MethodName := ⟨RX3, "endFactor", "(I)V"⟩
abbrev cX3_goesBehind : ByteArray := prog_5_method_13_code
def yX3_goesBehind : MethodName := ⟨RX3, "goesBehind", "(I)Z"⟩
abbrev cX3_grow : ByteArray := prog_5_method_14_code
def yX3_grow : MethodName := ⟨RX3, "grow", "([II)V"⟩
abbrev cX4_init : ByteArray := prog_6_method_1_code
def yX4_init : MethodName := ⟨RX4, "<init>", "(LOtherwiseCourt$Sitting;)V"⟩
abbrev cX4_prepareSuits : ByteArray := prog_6_method_2_code
def yX4_prepareSuits : MethodName := ⟨RX4, "prepareSuits", "(LOtherwiseCourt$Hall;)V"⟩
abbrev cX4_order : ByteArray := prog_6_method_3_code
def yX4_order : MethodName := ⟨RX4, "order", "(LOtherwiseCourt$Hall;I)V"⟩
abbrev cX4_bring : ByteArray := prog_6_method_4_code
def yX4_bring : MethodName := ⟨RX4, "bring", "(III)V"⟩
abbrev cX4_against : ByteArray := prog_6_method_5_code
def yX4_against : MethodName := ⟨RX4, "against", "(LOtherwiseCourt$Hall;II)I"⟩
abbrev cX4_turns : ByteArray := prog_6_method_6_code
def yX4_turns : MethodName := ⟨RX4, "turns", "(IIZI)I"⟩
abbrev cX4_shamsAhead : ByteArray := prog_6_method_7_code
def yX4_shamsAhead : MethodName := ⟨RX4, "shamsAhead", "(I)I"⟩
abbrev cX4_winsBehind : ByteArray := prog_6_method_8_code
def yX4_winsBehind : MethodName := ⟨RX4, "winsBehind", "(I)Z"⟩
abbrev cX5_init : ByteArray := prog_7_method_1_code
def yX5_init : MethodName := ⟨RX5, "<init>", "()V"⟩
abbrev cX5_open : ByteArray := prog_7_method_2_code
def yX5_open : MethodName := ⟨RX5, "open", "(LOtherwiseCourt$Hall;LOtherwiseCourt$Law;I)V"⟩
abbrev cX5_addUp : ByteArray := prog_7_method_3_code
def yX5_addUp : MethodName := ⟨RX5, "addUp", "([I[I)V"⟩
abbrev cX5_setBar : ByteArray := prog_7_method_4_code
def yX5_setBar : MethodName := ⟨RX5, "setBar", "(I)V"⟩
abbrev cX5_alike : ByteArray := prog_7_method_5_code
def yX5_alike : MethodName := ⟨RX5, "alike", "(II)I"⟩
abbrev cX5_push : ByteArray := prog_7_method_6_code
def yX5_push : MethodName := ⟨RX5, "push", "(IZ)V"⟩
abbrev cX5_pop : ByteArray := prog_7_method_7_code
def yX5_pop : MethodName := ⟨RX5, "pop", "()V"⟩
abbrev cX5_turn : ByteArray := prog_7_method_8_code
def yX5_turn : MethodName := ⟨RX5, "turn", "(I)V"⟩
abbrev cX5_wasFor : ByteArray := prog_7_method_9_code
def yX5_wasFor : MethodName := ⟨RX5, "wasFor", "(I)Z"⟩
abbrev cX5_follow : ByteArray := prog_7_method_10_code
def yX5_follow : MethodName := ⟨RX5, "follow", "(LOtherwiseCourt$Tally;I)V"⟩
abbrev cX5_rowTells : ByteArray := prog_7_method_11_code
def yX5_rowTells : MethodName := ⟨RX5, "rowTells", "(I)I"⟩
abbrev cX5_isOpen : ByteArray := prog_7_method_12_code
def yX5_isOpen : MethodName := ⟨RX5, "isOpen", "(LOtherwiseCourt$Tally;)Z"⟩
abbrev cX5_isFor : ByteArray := prog_7_method_13_code
def yX5_isFor : MethodName := ⟨RX5, "isFor", "(LOtherwiseCourt$Tally;)Z"⟩
abbrev cX5_decidedBy : ByteArray := prog_7_method_14_code
def yX5_decidedBy : MethodName := ⟨RX5, "decidedBy", "(LOtherwiseCourt$Tally;)I"⟩
abbrev cX5_wins : ByteArray := prog_7_method_15_code
def yX5_wins : MethodName := ⟨RX5, "wins", "(I)Z"⟩
abbrev cX5_now : ByteArray := prog_7_method_16_code
def yX5_now : MethodName := ⟨RX5, "now", "(LOtherwiseCourt$Tally;)LOtherwiseCourt$Tally;"⟩
abbrev cX5_winsNow : ByteArray := prog_7_method_17_code
def yX5_winsNow : MethodName := ⟨RX5, "winsNow", "(LOtherwiseCourt$Tally;)Z"⟩
abbrev cX5_timesWon : ByteArray := prog_7_method_18_code
def yX5_timesWon : MethodName := ⟨RX5, "timesWon", "(II)I"⟩
abbrev cX5_firstTurn : ByteArray := prog_7_method_19_code
def yX5_firstTurn : MethodName := ⟨RX5, "firstTurn", "(I)I"⟩
abbrev cX5_firstUnlawful : ByteArray := prog_7_method_20_code
def yX5_firstUnlawful : MethodName := ⟨RX5, "firstUnlawful", "()I"⟩
abbrev cX6_init : ByteArray := prog_8_method_1_code
def yX6_init : MethodName := ⟨RX6, "<init>", "()V"⟩
abbrev cX6_begin : ByteArray := prog_8_method_2_code
def yX6_begin : MethodName := ⟨RX6, "begin", "(I)V"⟩
abbrev cX6_become : ByteArray := prog_8_method_3_code
def yX6_become : MethodName := ⟨RX6, "become", "(LOtherwiseCourt$Tally;)V"⟩
abbrev cX6_meet : ByteArray := prog_8_method_4_code
def yX6_meet : MethodName := ⟨RX6, "meet", "(IIZ)V"⟩
abbrev cX6_likes : ByteArray := prog_8_method_5_code
def yX6_likes : MethodName := ⟨RX6, "likes", "()I"⟩
abbrev cX6_torn : ByteArray := prog_8_method_6_code
def yX6_torn : MethodName := ⟨RX6, "torn", "()Z"⟩
abbrev cX7_init : ByteArray := prog_1_method_1_code
def yX7_init : MethodName := ⟨RX7, "<init>", "()V"⟩
abbrev cX7_feed : ByteArray := prog_1_method_2_code
def yX7_feed : MethodName := ⟨RX7, "feed", "(I)I"⟩
abbrev cX7_court : ByteArray := prog_1_method_3_code
def yX7_court : MethodName := ⟨RX7, "court", "()I"⟩
abbrev cX7_day : ByteArray := prog_1_method_4_code
def yX7_day : MethodName := ⟨RX7, "day", "(I)I"⟩
abbrev cX7_suit : ByteArray := prog_1_method_5_code
def yX7_suit : MethodName := ⟨RX7, "suit", "(II)I"⟩
abbrev cX7_of : ByteArray := prog_1_method_6_code
def yX7_of : MethodName := ⟨RX7, "of", "(II)I"⟩
abbrev cX7_judge : ByteArray := prog_1_method_7_code
def yX7_judge : MethodName := ⟨RX7, "judge", "(II)I"⟩
abbrev cX7_at : ByteArray := prog_1_method_8_code
def yX7_at : MethodName := ⟨RX7, "at", "(II)I"⟩
abbrev cX7_row : ByteArray := prog_1_method_9_code
def yX7_row : MethodName := ⟨RX7, "row", "(III)I"⟩
abbrev cX7_told : ByteArray := prog_1_method_10_code
def yX7_told : MethodName := ⟨RX7, "told", "(I)I"⟩
abbrev cX7_score : ByteArray := prog_1_method_11_code
def yX7_score : MethodName := ⟨RX7, "score", "(III)I"⟩
abbrev cX7_decides : ByteArray := prog_1_method_12_code
def yX7_decides : MethodName := ⟨RX7, "decides", "(III)I"⟩
abbrev cX7_hear : ByteArray := prog_1_method_13_code
def yX7_hear : MethodName := ⟨RX7, "hear", "(II)I"⟩
abbrev cX7_enter : ByteArray := prog_1_method_14_code
def yX7_enter : MethodName := ⟨RX7, "enter", "(IZ)I"⟩
abbrev cX7_entry : ByteArray := prog_1_method_15_code
def yX7_entry : MethodName := ⟨RX7, "entry", "(I)I"⟩
abbrev cX7_best : ByteArray := prog_1_method_16_code
def yX7_best : MethodName := ⟨RX7, "best", "(III)I"⟩
abbrev cX7_shams : ByteArray := prog_1_method_17_code
def yX7_shams : MethodName := ⟨RX7, "shams", "(III)I"⟩
abbrev cX7_point : ByteArray := prog_1_method_18_code
def yX7_point : MethodName := ⟨RX7, "point", "(III)I"⟩
abbrev cX7_rival : ByteArray := prog_1_method_19_code
def yX7_rival : MethodName := ⟨RX7, "rival", "(IIII)I"⟩
abbrev cX7_again : ByteArray := prog_1_method_20_code
def yX7_again : MethodName := ⟨RX7, "again", "(III)I"⟩
abbrev cX7_swing : ByteArray := prog_1_method_21_code
def yX7_swing : MethodName := ⟨RX7, "swing", "(II)I"⟩
abbrev cX7_unlawful : ByteArray := prog_1_method_22_code
def yX7_unlawful : MethodName := ⟨RX7, "unlawful", "(I)I"⟩
abbrev cX7_wrong : ByteArray := prog_1_method_23_code
def yX7_wrong : MethodName := ⟨RX7, "wrong", "(I)I"⟩
abbrev cX7_bars : ByteArray := prog_1_method_24_code
def yX7_bars : MethodName := ⟨RX7, "bars", "(II)I"⟩
abbrev cX7_queue : ByteArray := prog_1_method_25_code
def yX7_queue : MethodName := ⟨RX7, "queue", "(I)I"⟩
abbrev cX7_odds : ByteArray := prog_1_method_26_code
def yX7_odds : MethodName := ⟨RX7, "odds", "(III)J"⟩
abbrev cX7_expects : ByteArray := prog_1_method_27_code
def yX7_expects : MethodName := ⟨RX7, "expects", "(II)J"⟩
abbrev cX7_act : ByteArray := prog_1_method_28_code
def yX7_act : MethodName := ⟨RX7, "act", "(III)I"⟩
abbrev cX7_trace : ByteArray := prog_1_method_29_code
def yX7_trace : MethodName := ⟨RX7, "trace", "(I)I"⟩
abbrev cX7_as : ByteArray := prog_1_method_30_code
def yX7_as : MethodName := ⟨RX7, "as", "(II)I"⟩
abbrev cX7_image : ByteArray := prog_1_method_31_code
def yX7_image : MethodName := ⟨RX7, "image", "()I"⟩
abbrev cX7_undo : ByteArray := prog_1_method_32_code
def yX7_undo : MethodName := ⟨RX7, "undo", "()I"⟩
abbrev cX7_count : ByteArray := prog_1_method_33_code
def yX7_count : MethodName := ⟨RX7, "count", "(I)I"⟩
abbrev cX7_openFor : ByteArray := prog_1_method_34_code
def yX7_openFor : MethodName := ⟨RX7, "openFor", "(I)V"⟩
abbrev cX8_init : ByteArray := prog_10_method_1_code
def yX8_init : MethodName := ⟨RX8, "<init>", "()V"⟩
abbrev cX8_in : ByteArray := prog_10_method_3_code
def yX8_in : MethodName := ⟨RX8, "in", "(III)Z"⟩
abbrev cX8_isSuit : ByteArray := prog_10_method_4_code
def yX8_isSuit : MethodName := ⟨RX8, "isSuit", "(I)Z"⟩
abbrev cX8_isJudge : ByteArray := prog_10_method_5_code
def yX8_isJudge : MethodName := ⟨RX8, "isJudge", "(I)Z"⟩
abbrev cX8_count1 : ByteArray := prog_10_method_6_code
def yX8_count1 : MethodName := ⟨RX8, "count1", "(I)I"⟩
abbrev cX8_feed : ByteArray := prog_10_method_7_code
def yX8_feed : MethodName := ⟨RX8, "feed", "(I)I"⟩
abbrev cX8_here : ByteArray := prog_10_method_8_code
def yX8_here : MethodName := ⟨RX8, "here", "()I"⟩
abbrev cX8_must : ByteArray := prog_10_method_9_code
def yX8_must : MethodName := ⟨RX8, "must", "(I)V"⟩
abbrev cX8_spells : ByteArray := prog_10_method_10_code
def yX8_spells : MethodName := ⟨RX8, "spells", "(Ljava/lang/String;)V"⟩
abbrev cX8_figures : ByteArray := prog_10_method_11_code
def yX8_figures : MethodName := ⟨RX8, "figures", "()I"⟩
abbrev cX8_among : ByteArray := prog_10_method_12_code
def yX8_among : MethodName := ⟨RX8, "among", "(Ljava/lang/String;)I"⟩
abbrev cX8_emits : ByteArray := prog_10_method_13_code
def yX8_emits : MethodName := ⟨RX8, "emits", "(I)V"⟩
abbrev cX8_factor : ByteArray := prog_10_method_14_code
def yX8_factor : MethodName := ⟨RX8, "factor", "()V"⟩
abbrev cX8_every : ByteArray := prog_10_method_15_code
def yX8_every : MethodName := ⟨RX8, "every", "()V"⟩
abbrev cX8_some : ByteArray := prog_10_method_16_code
def yX8_some : MethodName := ⟨RX8, "some", "()V"⟩
abbrev cX8_much : ByteArray := prog_10_method_17_code
def yX8_much : MethodName := ⟨RX8, "much", "(ILjava/lang/String;)V"⟩
abbrev cX8_clauseHere : ByteArray := prog_10_method_18_code
def yX8_clauseHere : MethodName := ⟨RX8, "clauseHere", "()V"⟩
abbrev cX8_court : ByteArray := prog_10_method_19_code
def yX8_court : MethodName := ⟨RX8, "court", "()I"⟩
abbrev cX8_barNow : ByteArray := prog_10_method_20_code
def yX8_barNow : MethodName := ⟨RX8, "barNow", "()I"⟩
abbrev cX8_day : ByteArray := prog_10_method_21_code
def yX8_day : MethodName := ⟨RX8, "day", "(I)I"⟩
abbrev cX8_told : ByteArray := prog_10_method_22_code
def yX8_told : MethodName := ⟨RX8, "told", "(I)I"⟩
abbrev cX8_suit : ByteArray := prog_10_method_23_code
def yX8_suit : MethodName := ⟨RX8, "suit", "(II)I"⟩
abbrev cX8_of : ByteArray := prog_10_method_24_code
def yX8_of : MethodName := ⟨RX8, "of", "(II)I"⟩
abbrev cX8_judge : ByteArray := prog_10_method_25_code
def yX8_judge : MethodName := ⟨RX8, "judge", "(II)I"⟩
abbrev cX8_row : ByteArray := prog_10_method_26_code
def yX8_row : MethodName := ⟨RX8, "row", "(III)I"⟩
abbrev cX8_looks : ByteArray := prog_10_method_27_code
def yX8_looks : MethodName := ⟨RX8, "looks", "(II)V"⟩
abbrev cX8_looksFor : ByteArray := prog_10_method_28_code
def yX8_looksFor : MethodName := ⟨RX8, "looksFor", "(I)V"⟩
abbrev cX8_scoreOf : ByteArray := prog_10_method_29_code
def yX8_scoreOf : MethodName := ⟨RX8, "scoreOf", "(II)I"⟩
abbrev cX8_at : ByteArray := prog_10_method_30_code
def yX8_at : MethodName := ⟨RX8, "at", "(II)I"⟩
abbrev cX8_score : ByteArray := prog_10_method_31_code
def yX8_score : MethodName := ⟨RX8, "score", "(III)I"⟩
abbrev cX8_opens : ByteArray := prog_10_method_32_code
def yX8_opens : MethodName := ⟨RX8, "opens", "()V"⟩
abbrev cX8_writes : ByteArray := prog_10_method_33_code
def yX8_writes : MethodName := ⟨RX8, "writes", "(IZ)V"⟩
abbrev cX8_isLike : ByteArray := prog_10_method_34_code
def yX8_isLike : MethodName := ⟨RX8, "isLike", "(II)Z"⟩
abbrev cX8_likeOne : ByteArray := prog_10_method_35_code
def yX8_likeOne : MethodName := ⟨RX8, "likeOne", "(II)I"⟩
abbrev cX8_decidesMost : ByteArray := prog_10_method_36_code
def yX8_decidesMost : MethodName := ⟨RX8, "decidesMost", "(II)I"⟩
abbrev cX8_decidesBy : ByteArray := prog_10_method_37_code
def yX8_decidesBy : MethodName := ⟨RX8, "decidesBy", "(II)I"⟩
abbrev cX8_isForIt : ByteArray := prog_10_method_38_code
def yX8_isForIt : MethodName := ⟨RX8, "isForIt", "(II)Z"⟩
abbrev cX8_hears : ByteArray := prog_10_method_39_code
def yX8_hears : MethodName := ⟨RX8, "hears", "(II)Z"⟩
abbrev cX8_decides : ByteArray := prog_10_method_40_code
def yX8_decides : MethodName := ⟨RX8, "decides", "(III)I"⟩
abbrev cX8_enters : ByteArray := prog_10_method_41_code
def yX8_enters : MethodName := ⟨RX8, "enters", "(IZ)I"⟩
abbrev cX8_hear : ByteArray := prog_10_method_42_code
def yX8_hear : MethodName := ⟨RX8, "hear", "(II)I"⟩
abbrev cX8_enter : ByteArray := prog_10_method_43_code
def yX8_enter : MethodName := ⟨RX8, "enter", "(IZ)I"⟩
abbrev cX8_entry : ByteArray := prog_10_method_44_code
def yX8_entry : MethodName := ⟨RX8, "entry", "(I)I"⟩
abbrev cX8_ordersFrom : ByteArray := prog_10_method_45_code
def yX8_ordersFrom : MethodName := ⟨RX8, "ordersFrom", "(IIII)V"⟩
abbrev cX8_isSet : ByteArray := prog_10_method_46_code
def yX8_isSet : MethodName := ⟨RX8, "isSet", "(I)Z"⟩
abbrev cX8_best : ByteArray := prog_10_method_47_code
def yX8_best : MethodName := ⟨RX8, "best", "(III)I"⟩
abbrev cX8_looksForShams : ByteArray := prog_10_method_48_code
def yX8_looksForShams : MethodName := ⟨RX8, "looksForShams", "(II)I"⟩
abbrev cX8_shams : ByteArray := prog_10_method_49_code
def yX8_shams : MethodName := ⟨RX8, "shams", "(III)I"⟩
abbrev cX8_point : ByteArray := prog_10_method_50_code
def yX8_point : MethodName := ⟨RX8, "point", "(III)I"⟩
abbrev cX8_rivals : ByteArray := prog_10_method_51_code
def yX8_rivals : MethodName := ⟨RX8, "rivals", "(IIIZZ)I"⟩
abbrev cX8_rival : ByteArray := prog_10_method_52_code
def yX8_rival : MethodName := ⟨RX8, "rival", "(IIII)I"⟩
abbrev cX8_again : ByteArray := prog_10_method_53_code
def yX8_again : MethodName := ⟨RX8, "again", "(III)I"⟩
abbrev cX8_swing : ByteArray := prog_10_method_54_code
def yX8_swing : MethodName := ⟨RX8, "swing", "(II)I"⟩
abbrev cX8_firstUnlawful : ByteArray := prog_10_method_55_code
def yX8_firstUnlawful : MethodName := ⟨RX8, "firstUnlawful", "(II)I"⟩
abbrev cX8_unlawful : ByteArray := prog_10_method_56_code
def yX8_unlawful : MethodName := ⟨RX8, "unlawful", "(I)I"⟩
abbrev cX8_wrong : ByteArray := prog_10_method_57_code
def yX8_wrong : MethodName := ⟨RX8, "wrong", "(I)I"⟩
abbrev cX8_bars : ByteArray := prog_10_method_58_code
def yX8_bars : MethodName := ⟨RX8, "bars", "(II)I"⟩
abbrev cX8_queue : ByteArray := prog_10_method_59_code
def yX8_queue : MethodName := ⟨RX8, "queue", "(I)I"⟩
abbrev cX8_falls : ByteArray := prog_10_method_60_code
def yX8_falls : MethodName := ⟨RX8, "falls", "(IIII)J"⟩
abbrev cX8_lowest : ByteArray := prog_10_method_61_code
def yX8_lowest : MethodName := ⟨RX8, "lowest", "(JJI)J"⟩
abbrev cX8_odds : ByteArray := prog_10_method_62_code
def yX8_odds : MethodName := ⟨RX8, "odds", "(III)J"⟩
abbrev cX8_expects : ByteArray := prog_10_method_63_code
def yX8_expects : MethodName := ⟨RX8, "expects", "(II)J"⟩
abbrev cX8_ranBody : ByteArray := prog_10_method_64_code
def yX8_ranBody : MethodName := ⟨RX8, "ranBody", "(I)V"⟩
abbrev cX8_isUnder : ByteArray := prog_10_method_65_code
def yX8_isUnder : MethodName := ⟨RX8, "isUnder", "(II)Z"⟩
abbrev cX8_plainHears : ByteArray := prog_10_method_66_code
def yX8_plainHears : MethodName := ⟨RX8, "plainHears", "(I)I"⟩
abbrev cX8_hearsActs : ByteArray := prog_10_method_67_code
def yX8_hearsActs : MethodName := ⟨RX8, "hearsActs", "(I)I"⟩
abbrev cX8_plainWeighs : ByteArray := prog_10_method_68_code
def yX8_plainWeighs : MethodName := ⟨RX8, "plainWeighs", "(I)I"⟩
abbrev cX8_weighsActs : ByteArray := prog_10_method_69_code
def yX8_weighsActs : MethodName := ⟨RX8, "weighsActs", "(I)I"⟩
abbrev cX8_plainSays : ByteArray := prog_10_method_70_code
def yX8_plainSays : MethodName := ⟨RX8, "plainSays", "(I)I"⟩
abbrev cX8_saysActs : ByteArray := prog_10_method_71_code
def yX8_saysActs : MethodName := ⟨RX8, "saysActs", "(I)I"⟩
abbrev cX8_act : ByteArray := prog_10_method_72_code
def yX8_act : MethodName := ⟨RX8, "act", "(III)I"⟩
abbrev cX8_trace : ByteArray := prog_10_method_73_code
def yX8_trace : MethodName := ⟨RX8, "trace", "(I)I"⟩
abbrev cX8_as : ByteArray := prog_10_method_74_code
def yX8_as : MethodName := ⟨RX8, "as", "(II)I"⟩
abbrev cX8_image : ByteArray := prog_10_method_75_code
def yX8_image : MethodName := ⟨RX8, "image", "()I"⟩
abbrev cX8_undo : ByteArray := prog_10_method_76_code
def yX8_undo : MethodName := ⟨RX8, "undo", "()I"⟩
abbrev cX8_count : ByteArray := prog_10_method_77_code
def yX8_count : MethodName := ⟨RX8, "count", "(I)I"⟩
def RJ6 : String := "java/lang/Integer"
def RJ9 : String := "java/lang/Math"
def RJ0 : String := "java/lang/String"
def RJ1 : String := "java/lang/StringLatin1"
def RJ2 : String := "java/lang/StringUTF16"
def RJ10 : String := "java/lang/System"
def RJ3 : String := "jdk/internal/util/Preconditions"
abbrev cJ6_bitCount_0f7a4 : ByteArray := prog_11_method_49_code
def yJ6_bitCount_0f7a4 : MethodName := ⟨RJ6, "bitCount", "(I)I"⟩
abbrev cJ9_max_7cf53 : ByteArray := prog_12_method_65_code
def yJ9_max_7cf53 : MethodName := ⟨RJ9, "max", "(II)I"⟩
abbrev cJ9_min_7cf53 : ByteArray := prog_12_method_69_code
def yJ9_min_7cf53 : MethodName := ⟨RJ9, "min", "(II)I"⟩
abbrev cJ0_length_8abf5 : ByteArray := prog_13_method_54_code
def yJ0_length_8abf5 : MethodName := ⟨RJ0, "length", "()I"⟩
abbrev cJ0_charAt_5068e : ByteArray := prog_13_method_56_code
def yJ0_charAt_5068e : MethodName := ⟨RJ0, "charAt", "(I)C"⟩
abbrev cJ0_coder_7d493 : ByteArray := prog_13_method_152_code
def yJ0_coder_7d493 : MethodName := ⟨RJ0, "coder", "()B"⟩
abbrev cJ0_isLatin1_aae02 : ByteArray := prog_13_method_154_code
def yJ0_isLatin1_aae02 : MethodName := ⟨RJ0, "isLatin1", "()Z"⟩
abbrev cJ0_checkIndex_df160 : ByteArray := prog_13_method_155_code
def yJ0_checkIndex_df160 : MethodName := ⟨RJ0, "checkIndex", "(II)V"⟩
abbrev cJ1_charAt_3b067 : ByteArray := prog_14_method_2_code
def yJ1_charAt_3b067 : MethodName := ⟨RJ1, "charAt", "([BI)C"⟩
abbrev cJ2_getChar_3b067 : ByteArray := prog_15_method_5_code
def yJ2_getChar_3b067 : MethodName := ⟨RJ2, "getChar", "([BI)C"⟩
abbrev cJ2_length_9d52b : ByteArray := prog_15_method_6_code
def yJ2_length_9d52b : MethodName := ⟨RJ2, "length", "([B)I"⟩
abbrev cJ2_charAt_3b067 : ByteArray := prog_15_method_83_code
def yJ2_charAt_3b067 : MethodName := ⟨RJ2, "charAt", "([BI)C"⟩
abbrev cJ2_checkIndex_2214a : ByteArray := prog_15_method_91_code
def yJ2_checkIndex_2214a : MethodName := ⟨RJ2, "checkIndex", "(I[B)V"⟩
abbrev cJ3_checkIndex_8e157 : ByteArray := prog_17_method_11_code
def yJ3_checkIndex_8e157 : MethodName := ⟨RJ3, "checkIndex", "(IILjava/util/function/BiFunction;)I"⟩
def RL : String := "OtherwiseCourtLaw"
abbrev vwCl : List vw_C := [(RX0, TX0, 3), (RX1, TX1, 5), (RX2, TX2, 17), (RX3, TX3, 19), (RX4, TX4, 7), (RX5, TX5, 11), (RX6, TX6, 8), (RX7, TX7, 8), (RX8, TX8, 31)]
set_option maxRecDepth 20000 in
theorem inX0 : ∀ w ∈ u_ws RX0 TX0 3, w ∈ lw_tbl := by decide +kernel
set_option maxRecDepth 20000 in
theorem inX1 : ∀ w ∈ u_ws RX1 TX1 5, w ∈ lw_tbl := by decide +kernel
set_option maxRecDepth 20000 in
theorem inX2 : ∀ w ∈ u_ws RX2 TX2 17, w ∈ lw_tbl := by decide +kernel
set_option maxRecDepth 20000 in
theorem inX3 : ∀ w ∈ u_ws RX3 TX3 19, w ∈ lw_tbl := by decide +kernel
set_option maxRecDepth 20000 in
theorem inX4 : ∀ w ∈ u_ws RX4 TX4 7, w ∈ lw_tbl := by decide +kernel
set_option maxRecDepth 20000 in
theorem inX5 : ∀ w ∈ u_ws RX5 TX5 11, w ∈ lw_tbl := by decide +kernel
set_option maxRecDepth 20000 in
theorem inX6 : ∀ w ∈ u_ws RX6 TX6 8, w ∈ lw_tbl := by decide +kernel
set_option maxRecDepth 20000 in
theorem inX7 : ∀ w ∈ u_ws RX7 TX7 8, w ∈ lw_tbl := by decide +kernel
set_option maxRecDepth 20000 in
theorem inX8 : ∀ w ∈ u_ws RX8 TX8 31, w ∈ lw_tbl := by decide +kernel
end
section
def gTbl : List Cond := lw_tbl.filter goodWord
theorem gTbl_mem {w : Cond} (i : Nat) (h : lw_tbl[i]? = some w) (hg : goodWord w = true) : w ∈ gTbl := List.mem_filter.mpr ⟨List.mem_of_getElem? h, hg⟩
theorem gTbl_good : GoodIn gTbl gTbl := fun w hw => ⟨hw, good_of_word (List.mem_filter.mp hw).2⟩
abbrev jM : Type := Nat → Nat → Int32
abbrev jR : Type := Nat → Nat → Option Nat
abbrev jS : Type := Nat → Nat × Nat
abbrev jMD : Type := String × MethodName × ByteArray × Nat × Option FieldType
/-- launch, tables' numbers, classes of arrays (0 int, 1 byte, 2 boolean, 3 Tally), the first address of ours, the heap at the law's start, the addresses, the script's length, the script -/
abbrev jGT : Type := Launch × va_G × (Nat → ClassId) × Nat × Heap × (Nat → Nat) × Nat × (Nat → Int32)
def jl (G : jGT) : Launch := G.1
def jD (G : jGT) : va_G := G.2.1
def jcA (G : jGT) : Nat → ClassId := G.2.2.1
def jb (G : jGT) : Nat := G.2.2.2.1
def jHs (G : jGT) : Heap := G.2.2.2.2.1
def jad (G : jGT) : Nat → Nat := G.2.2.2.2.2.1
def jL (G : jGT) : Nat := G.2.2.2.2.2.2.1
def jxs (G : jGT) : Nat → Int32 := G.2.2.2.2.2.2.2
def jA (G : jGT) : Nat → Prop := fun q => jb G ≤ q
def jtys (G : jGT) : List (ClassId × FieldType) := [(jcA G 0, .int), (jcA G 1, .byte), (jcA G 2, .boolean), (jcA G 3, .object RX6)]
def jrn (ad : Nat → Nat) (v : Value) : Value := match v with
  | .ref k => .ref (ad k)
  | v => v
def jref (ci j : Nat) : Bool := match (vwCl[ci]?) with
  | some q => match (q.2.1 j).2.2.1.toList with
    | 'I' :: _ => false
    | 'Z' :: _ => false
    | _ => true
  | none => false
def jfv (G : jGT) (M : jM) (r : jR) (k ci j : Nat) : Value := if jref ci j = true then va_rf ((r k j).map (jad G)) else .int (M k j)
def jent (G : jGT) (sh : jS) (M : jM) (r : jR) (k : Nat) : va_E :=
  if (sh k).1 < 100 then .inr ((sh k).1, (List.range (sh k).2).map (jfv G M r k (sh k).1))
  else if (sh k).1 = 103 then .inl (jcA G 3, (sh k).2, .inr (.inr (.inr (.inr (fun j => (r k j).map (jad G))))))
  else .inl (jcA G ((sh k).1 - 100), (sh k).2, .inl (M k))
def jW (G : jGT) (n : Nat) (sh : jS) (M : jM) (r : jR) (H : Heap) : Prop :=
  H.size = jb G + n ∧ (∀ k, k < n → va_at (jD G) vwCl (jad G k, jent G sh M r k) H) ∧ n ≤ 1000
def jABOVE (j : Nat) : Int32 := ([-1, 0, 0, 0, 1, 2, 3] : List Int32).getD j 0
def jBODIES (j : Nat) : Int32 := ([1, 2, 3, 11, 0, 0, 0, 21, 0, 0, 0, 31, 0, 0, 41, 51, 0, 0, 0, 61, 0] : List Int32).getD j 0
/-- the arrays that were there before: their lengths and what they hold -/
def jold (G : jGT) (k : Nat) : Option (Nat × (Nat → Int32)) := if k = 1000 then some (7, jABOVE) else if k = 1001 then some (21, jBODIES) else if k = 2000 then some (jL G, jxs G) else none
def jnests : List Cond := [.fieldLinkNest RX1 39 RX7 "ABOVE" "[I" RX7] ++ lw_tbl.filter (fun w => match w with | .methodLinkNest _ _ _ _ => true | _ => false)
def jGok (G : jGT) : Prop := (jHs G).size = jb G ∧ (∀ k, k < 1000 → jad G k = jb G + k) ∧ jL G ≤ 320
def jSlen : List Nat := [6, 6, 4, 4, 3]
def jSbyt : List (List Int32) := [[119, 101, 105, 103, 104, 32], [99, 108, 97, 115, 104, 32], [98, 97, 114, 32], [112, 107, 118, 100], [60, 61, 62]]
def jSrefs : List (String × Nat × String × Nat) := [(RX3, 107, "weigh ", 0), (RX3, 109, "clash ", 1), (RX3, 111, "bar ", 2), (RX8, 99, "pkvd", 3), (RX8, 105, "<=>", 4), (RX8, 117, "weigh ", 0), (RX8, 123, "clash ", 1), (RX8, 125, "bar ", 2)]
def jFMT : String := "Ljava/util/function/BiFunction;"
def jStr (G : jGT) (U : State) : Prop := va_Z RJ0 "COMPACT_STRINGS" "Z" (.int 1) (jA G) U (jHs G) ∧ (va_Z RJ3 "SIOOBE_FORMATTER" jFMT .null (jA G) U (jHs G) ∨ va_Z RJ3 "SIOOBE_FORMATTER" jFMT (.ref (jad G 5000)) (jA G) U (jHs G)) ∧
  (∀ i : Nat, i < 5 → va_O RJ0 (jad G (3000 + i)) (jA G) U (jHs G) ∧ va_OF RJ0 "coder" "B" (.int 0) (jad G (3000 + i)) (jA G) U (jHs G) ∧ va_OF RJ0 "value" "[B" (.ref (jad G (4000 + i))) (jad G (3000 + i)) (jA G) U (jHs G) ∧ va_T .byte (jad G (4000 + i)) (jSlen.getD i 0) (fun j => .int ((jSbyt.getD i []).getD j 0)) (jA G) U (jHs G)) ∧
  ∀ q ∈ jSrefs, vk_R q.1 q.2.1 q.2.2.1 (jad G (3000 + q.2.2.2)) U
theorem jStr.alike {G : jGT} {s U : State} (h : jStr G s) (hA : s.vm.Alike U.vm) (hr : ∀ (own : String) (k : Nat) (tx : String) (a : Nat), vk_R own k tx a s → vk_R own k tx a U) : jStr G U :=
  ⟨h.1.moved hA, h.2.1.imp (fun q => q.moved hA) (fun q => q.moved hA), fun i hi => ⟨(h.2.2.1 i hi).1.moved hA, (h.2.2.1 i hi).2.1.moved hA, (h.2.2.1 i hi).2.2.1.moved hA, (h.2.2.1 i hi).2.2.2.moved hA⟩, fun q hq => hr _ _ _ _ (h.2.2.2 q hq)⟩
def jO (G : jGT) (U : State) : Prop := jGok G ∧ va_K (jD G) vwCl (jtys G) U ∧ va_AO RX6 U ∧ (∀ w ∈ jnests, va_Nw w U) ∧
  va_Z RX7 "ABOVE" "[I" (.ref (jad G 1000)) (jA G) U (jHs G) ∧ va_Z RX1 "BODIES" "[I" (.ref (jad G 1001)) (jA G) U (jHs G) ∧
  (∀ k N f, jold G k = some (N, f) → N ≤ 320 ∧ va_T .int (jad G k) N (fun j => .int (f j)) (jA G) U (jHs G)) ∧ jStr G U
theorem jnest_moved {w : Cond} (hw : w ∈ jnests) {s U : State} (hW : s.WarmedH U.vm) (h : va_Nw w s) : va_Nw w U := by
  rcases List.mem_append.mp hw with h1 | h1
  · rcases List.mem_singleton.mp h1 with rfl
    exact h.warmF hW
  · have h2 := (List.mem_filter.mp h1).2
    cases w <;> simp at h2
    exact h.warmM hW
theorem jO.moved {G : jGT} {s U : State} (h : jO G s) (hW : s.WarmedH U.vm) : jO G U :=
  ⟨h.1, va_K.moved hW.alike h.2.1, h.2.2.1.moved hW.alike, fun w hw => jnest_moved hw hW (h.2.2.2.1 w hw), h.2.2.2.2.1.moved hW.alike, h.2.2.2.2.2.1.moved hW.alike, fun k N f e => ⟨(h.2.2.2.2.2.2.1 k N f e).1, (h.2.2.2.2.2.2.1 k N f e).2.moved hW.alike⟩, h.2.2.2.2.2.2.2.alike hW.alike fun own k tx a q => vk_R.warm hW q⟩
def jRok (d mc ms : Nat) (R : Room) : Prop := d ≤ R.frames ∧ 40 * d ≤ R.locals ∧ mc ≤ R.cells ∧ ms ≤ R.slots
abbrev jP : Type := Option Value → Nat → jS → jM → jR → Prop
def jRet (md : jMD) (pc : Nat) (v : Option Value) : Prop := match v with
  | none => decode md.2.2.1 pc = .ok (.return_, 1) ∧ md.2.2.2.2 = none
  | some (.int x) => decode md.2.2.1 pc = .ok (.ireturn, 1) ∧ ∃ ty, md.2.2.2.2 = some ty ∧ narrow ty (.int x) = .int x
  | some (.long _) => decode md.2.2.1 pc = .ok (.lreturn, 1) ∧ md.2.2.2.2 = some .long
  | some (.ref _) => decode md.2.2.1 pc = .ok (.areturn, 1) ∧ ∃ n, md.2.2.2.2 = some (.object n)
  | _ => False
def jCx (G : jGT) (d : Nat) (md : jMD) (mc ms : Nat) (p : Program) (R : Room) (s : State) (m : MethodId) (args : Array Value) (meth : Method) (c : Code) : Prop :=
  p.tables.exec = Jvm.exec ∧ c.code = md.2.2.1 ∧ c.maxLocals = md.2.2.2.1 ∧ s.vm.findClass md.1 = some m.cls ∧ (∀ w ∈ gTbl, w.before args s = true) ∧ meth.locks = false ∧ meth.sig.returnType = md.2.2.2.2 ∧ meth.name = md.2.1.name ∧ jO G s ∧ jRok d mc ms R ∧ jb G ≤ s.heap.size ∧ ∀ q, q < jb G → s.heap[q]? = (jHs G)[q]?
def jtoL (ad : Nat → Nat) : Nat → List (Option Value) → List (Nat × Value)
  | _, [] => []
  | i, none :: r => jtoL ad (i + 1) r
  | i, some v :: r => (i, jrn ad v) :: jtoL ad (i + 1) r
def jLv (G : jGT) (md : jMD) (lv : List (Option Value)) (ls : Array Slot) : Prop := lv_has ls md.2.2.2.1 (jtoL (jad G) 0 lv) ∧ lv.length = md.2.2.2.1
def jst (G : jGT) (st : List Value) : List Value := st.map (jrn (jad G))
def J (G : jGT) (d : Nat) (md : jMD) (pc : Nat) (lv : List (Option Value)) (st : List Value) (n : Nat) (sh : jS) (M : jM) (r : jR) (c0 s0 mc ms : Nat) (post : jP) : Prop :=
  ∀ (p : Program) (e : Env) (R : Room) (s : State) (m : MethodId) (args : Array Value) (below : List Frame) (meth : Method) (c : Code) (Q : State → Prop), jCx G d md mc ms p R s m args meth c →
    (∀ (H : Heap) (locs : List Loc) (ls : Array Slot) (pc' : Nat) (v : Option Value) (n' : Nat) (sh' : jS) (M' : jM) (r' : jR), post v n' sh' M' r' → jRet md pc' v → jW G n' sh' M' r' H → va_S (jA G) s.heap H locs → W p (jl G) e R s m args below meth c H locs mc ms Q (F0 m pc' ls (jst G v.toList))) →
    ∀ (H : Heap) (locs : List Loc) (ls : Array Slot), jW G n sh M r H → va_S (jA G) s.heap H locs → jLv G md lv ls → c0 ≤ mc → s0 ≤ ms → W p (jl G) e R s m args below meth c H locs c0 s0 Q (F0 m pc ls (jst G st))
theorem jtoL_get (ad : Nat → Nat) : ∀ (lv : List (Option Value)) (i j : Nat) (v : Value), lv[j]? = some (some v) → (i + j, jrn ad v) ∈ jtoL ad i lv := by
  intro lv
  induction lv with
  | nil => intro i j v h; simp at h
  | cons a l ih =>
    intro i j v h
    cases j with
    | zero =>
      simp at h
      subst h
      exact List.mem_cons_self
    | succ j =>
      have h1 := ih (i + 1) j v (by simpa using h)
      rw [show i + 1 + j = i + (j + 1) by omega] at h1
      cases a with
      | none => exact h1
      | some a => exact List.mem_cons_of_mem _ h1
theorem jtoL_mem (ad : Nat → Nat) : ∀ (lv : List (Option Value)) (i : Nat) (q : Nat × Value), q ∈ jtoL ad i lv → ∃ j v, lv[j]? = some (some v) ∧ q = (i + j, jrn ad v) := by
  intro lv
  induction lv with
  | nil => intro i q h; cases h
  | cons a l ih =>
    intro i q h
    have key : q ∈ jtoL ad (i + 1) l → ∃ j v, (a :: l)[j]? = some (some v) ∧ q = (i + j, jrn ad v) := by
      intro h
      obtain ⟨j, v, h1, h2⟩ := ih (i + 1) q h
      exact ⟨j + 1, v, by simpa using h1, by rw [h2]; congr 1; omega⟩
    cases a with
    | none => exact key h
    | some a =>
      rcases List.mem_cons.mp h with h | h
      · exact ⟨0, a, rfl, h⟩
      · exact key h
theorem jLv.at {G : jGT} {md : jMD} {lv : List (Option Value)} {ls : Array Slot} (h : jLv G md lv ls) (i : Nat) {v : Value} (hv : lv[i]? = some (some v)) : ls[i]? = some (.val (jrn (jad G) v)) := by
  have h1 := jtoL_get (jad G) lv 0 i v hv
  rw [Nat.zero_add] at h1
  exact h.1.2.2 _ h1
theorem jLv.lt {G : jGT} {md : jMD} {lv : List (Option Value)} {ls : Array Slot} (h : jLv G md lv ls) {i : Nat} (hi : i < lv.length) : i < md.2.2.2.1 := h.2 ▸ hi
/-- not the first half of a long -/
def jn2 (x : Option Value) : Bool := match x with
  | some v => v.category != 2
  | none => true
theorem jrn_cat (ad : Nat → Nat) (v : Value) : (jrn ad v).category = v.category := by cases v <;> rfl
/-- a store of one word: what the new list must be -/
theorem jLv.set {G : jGT} {md : jMD} {lv lv' : List (Option Value)} {ls ls' : Array Slot} (h : jLv G md lv ls) (i : Nat) {v : Value} (hlen : lv'.length = lv.length)
    (hprev : ∀ a, i = a + 1 → ∀ w, lv'[a]? = some w → jn2 w = true) (hother : ∀ j, j ≠ i → lv'[j]? = lv[j]?) (hi : ∀ w, lv'[i]? = some (some w) → w = v)
    (h2 : lv_has ls' md.2.2.2.1 ((i, jrn (jad G) v) :: (jtoL (jad G) 0 lv).filter (fun q => !(q.1 == i) && !(q.1 + 1 == i && q.2.category == 2)))) : jLv G md lv' ls' := by
  refine ⟨⟨h2.1, h2.2.1, fun q hq => h2.2.2 q ?_⟩, hlen.trans h.2⟩
  obtain ⟨j, w, h3, rfl⟩ := jtoL_mem _ _ _ _ hq
  rw [Nat.zero_add] at hq ⊢
  by_cases hj : j = i
  · subst hj
    rw [hi w h3]
    exact List.mem_cons_self
  · refine List.mem_cons_of_mem _ (List.mem_filter.mpr ⟨?_, ?_⟩)
    · have h4 := jtoL_get (jad G) lv 0 j w ((hother j hj).symm.trans h3)
      rwa [Nat.zero_add] at h4
    · simp only [Bool.and_eq_true, Bool.not_eq_true', beq_eq_false_iff_ne, ne_eq, Bool.and_eq_false_iff]
      refine ⟨hj, ?_⟩
      by_cases hi1 : j + 1 = i
      · right
        have h5 := hprev j hi1.symm _ h3
        rw [jrn_cat]
        simpa [jn2] using h5
      · exact Or.inl hi1
section JR
variable {G : jGT} {d : Nat} {md : jMD} {pc : Nat} {lv : List (Option Value)} {st : List Value} {n : Nat} {sh : jS} {M : jM} {r : jR} {c0 s0 mc ms : Nat} {post : jP}

theorem J_iadd {x y : Int32} (hd : decode md.2.2.1 pc = .ok (.iadd, 1))  (k : J G d md (pc + 1) lv (.int (x + y) :: st) n sh M r c0 s0 mc ms post) : J G d md pc lv (.int y :: .int x :: st) n sh M r c0 s0 mc ms post := by
  intro p e R s m args below meth c Q C X H locs ls hW hS hl hc hs
  exact lv_iadd C.1 C.2.1 hd  (k p e R s m args below meth c Q C X H locs ls hW hS hl hc hs)
theorem J_isub {x y : Int32} (hd : decode md.2.2.1 pc = .ok (.isub, 1))  (k : J G d md (pc + 1) lv (.int (x - y) :: st) n sh M r c0 s0 mc ms post) : J G d md pc lv (.int y :: .int x :: st) n sh M r c0 s0 mc ms post := by
  intro p e R s m args below meth c Q C X H locs ls hW hS hl hc hs
  exact lv_isub C.1 C.2.1 hd  (k p e R s m args below meth c Q C X H locs ls hW hS hl hc hs)
theorem J_imul {x y : Int32} (hd : decode md.2.2.1 pc = .ok (.imul, 1))  (k : J G d md (pc + 1) lv (.int (x * y) :: st) n sh M r c0 s0 mc ms post) : J G d md pc lv (.int y :: .int x :: st) n sh M r c0 s0 mc ms post := by
  intro p e R s m args below meth c Q C X H locs ls hW hS hl hc hs
  exact lv_imul C.1 C.2.1 hd  (k p e R s m args below meth c Q C X H locs ls hW hS hl hc hs)
theorem J_iand {x y : Int32} (hd : decode md.2.2.1 pc = .ok (.iand, 1))  (k : J G d md (pc + 1) lv (.int (x &&& y) :: st) n sh M r c0 s0 mc ms post) : J G d md pc lv (.int y :: .int x :: st) n sh M r c0 s0 mc ms post := by
  intro p e R s m args below meth c Q C X H locs ls hW hS hl hc hs
  exact lv_iand C.1 C.2.1 hd  (k p e R s m args below meth c Q C X H locs ls hW hS hl hc hs)
theorem J_ior {x y : Int32} (hd : decode md.2.2.1 pc = .ok (.ior, 1))  (k : J G d md (pc + 1) lv (.int (x ||| y) :: st) n sh M r c0 s0 mc ms post) : J G d md pc lv (.int y :: .int x :: st) n sh M r c0 s0 mc ms post := by
  intro p e R s m args below meth c Q C X H locs ls hW hS hl hc hs
  exact lv_ior C.1 C.2.1 hd  (k p e R s m args below meth c Q C X H locs ls hW hS hl hc hs)
theorem J_ixor {x y : Int32} (hd : decode md.2.2.1 pc = .ok (.ixor, 1))  (k : J G d md (pc + 1) lv (.int (x ^^^ y) :: st) n sh M r c0 s0 mc ms post) : J G d md pc lv (.int y :: .int x :: st) n sh M r c0 s0 mc ms post := by
  intro p e R s m args below meth c Q C X H locs ls hW hS hl hc hs
  exact lv_ixor C.1 C.2.1 hd  (k p e R s m args below meth c Q C X H locs ls hW hS hl hc hs)
theorem J_ishl {x y : Int32} (hd : decode md.2.2.1 pc = .ok (.ishl, 1))  (k : J G d md (pc + 1) lv (.int (x <<< (y &&& 31)) :: st) n sh M r c0 s0 mc ms post) : J G d md pc lv (.int y :: .int x :: st) n sh M r c0 s0 mc ms post := by
  intro p e R s m args below meth c Q C X H locs ls hW hS hl hc hs
  exact lv_ishl C.1 C.2.1 hd  (k p e R s m args below meth c Q C X H locs ls hW hS hl hc hs)
theorem J_ishr {x y : Int32} (hd : decode md.2.2.1 pc = .ok (.ishr, 1))  (k : J G d md (pc + 1) lv (.int (x >>> (y &&& 31)) :: st) n sh M r c0 s0 mc ms post) : J G d md pc lv (.int y :: .int x :: st) n sh M r c0 s0 mc ms post := by
  intro p e R s m args below meth c Q C X H locs ls hW hS hl hc hs
  exact lv_ishr C.1 C.2.1 hd  (k p e R s m args below meth c Q C X H locs ls hW hS hl hc hs)
theorem J_iushr {x y : Int32} (hd : decode md.2.2.1 pc = .ok (.iushr, 1))  (k : J G d md (pc + 1) lv (.int ((x.toUInt32 >>> (y.toUInt32 &&& Int32.toUInt32 31)).toInt32) :: st) n sh M r c0 s0 mc ms post) : J G d md pc lv (.int y :: .int x :: st) n sh M r c0 s0 mc ms post := by
  intro p e R s m args below meth c Q C X H locs ls hW hS hl hc hs
  exact lv_iushr C.1 C.2.1 hd rfl (k p e R s m args below meth c Q C X H locs ls hW hS hl hc hs)
theorem J_idiv {x y : Int32} (hd : decode md.2.2.1 pc = .ok (.idiv, 1)) (hne : ¬ y = 0) (k : J G d md (pc + 1) lv (.int (x / y) :: st) n sh M r c0 s0 mc ms post) : J G d md pc lv (.int y :: .int x :: st) n sh M r c0 s0 mc ms post := by
  intro p e R s m args below meth c Q C X H locs ls hW hS hl hc hs
  exact lv_idiv C.1 C.2.1 hd hne (k p e R s m args below meth c Q C X H locs ls hW hS hl hc hs)
theorem J_irem {x y : Int32} (hd : decode md.2.2.1 pc = .ok (.irem, 1)) (hne : ¬ y = 0) (k : J G d md (pc + 1) lv (.int (x - x / y * y) :: st) n sh M r c0 s0 mc ms post) : J G d md pc lv (.int y :: .int x :: st) n sh M r c0 s0 mc ms post := by
  intro p e R s m args below meth c Q C X H locs ls hW hS hl hc hs
  exact lv_irem C.1 C.2.1 hd hne (k p e R s m args below meth c Q C X H locs ls hW hS hl hc hs)
theorem J_ineg {x : Int32} (hd : decode md.2.2.1 pc = .ok (.ineg, 1))  (k : J G d md (pc + 1) lv (.int (-x) :: st) n sh M r c0 s0 mc ms post) : J G d md pc lv (.int x :: st) n sh M r c0 s0 mc ms post := by
  intro p e R s m args below meth c Q C X H locs ls hW hS hl hc hs
  exact lv_ineg C.1 C.2.1 hd  (k p e R s m args below meth c Q C X H locs ls hW hS hl hc hs)
theorem J_i2l {x : Int32} (hd : decode md.2.2.1 pc = .ok (.i2l, 1))  (k : J G d md (pc + 1) lv (.long x.toInt64 :: st) n sh M r c0 s0 mc ms post) : J G d md pc lv (.int x :: st) n sh M r c0 s0 mc ms post := by
  intro p e R s m args below meth c Q C X H locs ls hW hS hl hc hs
  exact lv_i2l C.1 C.2.1 hd rfl (k p e R s m args below meth c Q C X H locs ls hW hS hl hc hs)
theorem J_i2b {x : Int32} (hd : decode md.2.2.1 pc = .ok (.i2b, 1))  (k : J G d md (pc + 1) lv (.int x.toInt8.toInt32 :: st) n sh M r c0 s0 mc ms post) : J G d md pc lv (.int x :: st) n sh M r c0 s0 mc ms post := by
  intro p e R s m args below meth c Q C X H locs ls hW hS hl hc hs
  exact lv_i2b C.1 C.2.1 hd rfl (k p e R s m args below meth c Q C X H locs ls hW hS hl hc hs)
theorem J_i2c {x : Int32} (hd : decode md.2.2.1 pc = .ok (.i2c, 1))  (k : J G d md (pc + 1) lv (.int (x.toUInt32 % 65536).toInt32 :: st) n sh M r c0 s0 mc ms post) : J G d md pc lv (.int x :: st) n sh M r c0 s0 mc ms post := by
  intro p e R s m args below meth c Q C X H locs ls hW hS hl hc hs
  exact lv_i2c C.1 C.2.1 hd rfl (k p e R s m args below meth c Q C X H locs ls hW hS hl hc hs)
theorem J_ladd {x y : Int64} (hd : decode md.2.2.1 pc = .ok (.ladd, 1))  (k : J G d md (pc + 1) lv (.long (x + y) :: st) n sh M r c0 s0 mc ms post) : J G d md pc lv (.long y :: .long x :: st) n sh M r c0 s0 mc ms post := by
  intro p e R s m args below meth c Q C X H locs ls hW hS hl hc hs
  exact lv_ladd C.1 C.2.1 hd  (k p e R s m args below meth c Q C X H locs ls hW hS hl hc hs)
theorem J_lmul {x y : Int64} (hd : decode md.2.2.1 pc = .ok (.lmul, 1))  (k : J G d md (pc + 1) lv (.long (x * y) :: st) n sh M r c0 s0 mc ms post) : J G d md pc lv (.long y :: .long x :: st) n sh M r c0 s0 mc ms post := by
  intro p e R s m args below meth c Q C X H locs ls hW hS hl hc hs
  exact lv_lmul C.1 C.2.1 hd  (k p e R s m args below meth c Q C X H locs ls hW hS hl hc hs)
theorem J_ldiv {x y : Int64} (hd : decode md.2.2.1 pc = .ok (.ldiv, 1)) (hne : ¬ y = 0) (k : J G d md (pc + 1) lv (.long (x / y) :: st) n sh M r c0 s0 mc ms post) : J G d md pc lv (.long y :: .long x :: st) n sh M r c0 s0 mc ms post := by
  intro p e R s m args below meth c Q C X H locs ls hW hS hl hc hs
  exact lv_ldiv C.1 C.2.1 hd hne (k p e R s m args below meth c Q C X H locs ls hW hS hl hc hs)
theorem J_lrem {x y : Int64} (hd : decode md.2.2.1 pc = .ok (.lrem, 1)) (hne : ¬ y = 0) (k : J G d md (pc + 1) lv (.long (x - x / y * y) :: st) n sh M r c0 s0 mc ms post) : J G d md pc lv (.long y :: .long x :: st) n sh M r c0 s0 mc ms post := by
  intro p e R s m args below meth c Q C X H locs ls hW hS hl hc hs
  exact lv_lrem C.1 C.2.1 hd hne (k p e R s m args below meth c Q C X H locs ls hW hS hl hc hs)
theorem J_lcmp {x y : Int64} (hd : decode md.2.2.1 pc = .ok (.lcmp, 1))  (k : J G d md (pc + 1) lv (.int (lg_cmp x y) :: st) n sh M r c0 s0 mc ms post) : J G d md pc lv (.long y :: .long x :: st) n sh M r c0 s0 mc ms post := by
  intro p e R s m args below meth c Q C X H locs ls hW hS hl hc hs
  exact W.lcmp C.1 C.2.1 hd  (k p e R s m args below meth c Q C X H locs ls hW hS hl hc hs)
theorem J_iconst {i : Int} (v : Int32) (hd : decode md.2.2.1 pc = .ok (.iconst i, 1)) (hv : Int32.ofInt i = v) (k : J G d md (pc + 1) lv (.int v :: st) n sh M r c0 s0 mc ms post) : J G d md pc lv (st) n sh M r c0 s0 mc ms post := by
  intro p e R s m args below meth c Q C X H locs ls hW hS hl hc hs
  exact lv_iconst C.1 C.2.1 hd hv (k p e R s m args below meth c Q C X H locs ls hW hS hl hc hs)
theorem J_bipush {i : Int} (v : Int32) (hd : decode md.2.2.1 pc = .ok (.bipush i, 2)) (hv : (Int8.ofInt i).toInt32 = v) (k : J G d md (pc + 2) lv (.int v :: st) n sh M r c0 s0 mc ms post) : J G d md pc lv (st) n sh M r c0 s0 mc ms post := by
  intro p e R s m args below meth c Q C X H locs ls hW hS hl hc hs
  exact lv_bipush C.1 C.2.1 hd hv (k p e R s m args below meth c Q C X H locs ls hW hS hl hc hs)
theorem J_sipush {i : Int} (v : Int32) (hd : decode md.2.2.1 pc = .ok (.sipush i, 3)) (hv : (Int16.ofInt i).toInt32 = v) (k : J G d md (pc + 3) lv (.int v :: st) n sh M r c0 s0 mc ms post) : J G d md pc lv (st) n sh M r c0 s0 mc ms post := by
  intro p e R s m args below meth c Q C X H locs ls hW hS hl hc hs
  exact lv_sipush C.1 C.2.1 hd hv (k p e R s m args below meth c Q C X H locs ls hW hS hl hc hs)
theorem J_lconst {i : Fin 2} (v : Int64) (hd : decode md.2.2.1 pc = .ok (.lconst i, 1)) (hv : Int64.ofNat (i : Nat) = v) (k : J G d md (pc + 1) lv (.long v :: st) n sh M r c0 s0 mc ms post) : J G d md pc lv (st) n sh M r c0 s0 mc ms post := by
  intro p e R s m args below meth c Q C X H locs ls hW hS hl hc hs
  exact lv_lconst C.1 C.2.1 hd hv (k p e R s m args below meth c Q C X H locs ls hW hS hl hc hs)
theorem J_ldc {i : Nat} (v : Int32) (hd : decode md.2.2.1 pc = .ok (.ldc i, 2)) (hw : Cond.constant md.1 i v ∈ gTbl) (k : J G d md (pc + 2) lv (.int v :: st) n sh M r c0 s0 mc ms post) : J G d md pc lv (st) n sh M r c0 s0 mc ms post := by
  intro p e R s m args below meth c Q C X H locs ls hW hS hl hc hs
  exact lv_ldc C.1 C.2.1 C.2.2.2.1 (C.2.2.2.2.1 _ hw) hd (k p e R s m args below meth c Q C X H locs ls hW hS hl hc hs)
theorem J_ldc2 {i : Nat} (v : Int64) (hd : decode md.2.2.1 pc = .ok (.ldc2_w i, 3)) (hw : Cond.constantLong md.1 i v ∈ gTbl) (k : J G d md (pc + 3) lv (.long v :: st) n sh M r c0 s0 mc ms post) : J G d md pc lv (st) n sh M r c0 s0 mc ms post := by
  intro p e R s m args below meth c Q C X H locs ls hW hS hl hc hs
  exact lv_ldc2 C.1 C.2.1 C.2.2.2.1 (C.2.2.2.2.1 _ hw) hd (k p e R s m args below meth c Q C X H locs ls hW hS hl hc hs)
theorem J_dup {v : Value} (hd : decode md.2.2.1 pc = .ok (.dup, 1)) (hc1 : v.category = 1) (k : J G d md (pc + 1) lv (v :: v :: st) n sh M r c0 s0 mc ms post) : J G d md pc lv (v :: st) n sh M r c0 s0 mc ms post := by
  intro p e R s m args below meth c Q C X H locs ls hW hS hl hc hs
  exact lv_dup C.1 C.2.1 hd ((jrn_cat _ _).trans hc1) (k p e R s m args below meth c Q C X H locs ls hW hS hl hc hs)
theorem J_dup2 {v w : Value} (hd : decode md.2.2.1 pc = .ok (.dup2, 1)) (hc1 : v.category = 1) (hc2 : w.category = 1) (k : J G d md (pc + 1) lv (v :: w :: v :: w :: st) n sh M r c0 s0 mc ms post) : J G d md pc lv (v :: w :: st) n sh M r c0 s0 mc ms post := by
  intro p e R s m args below meth c Q C X H locs ls hW hS hl hc hs
  exact lv_dup2_11 C.1 C.2.1 hd ((jrn_cat _ _).trans hc1) ((jrn_cat _ _).trans hc2) (k p e R s m args below meth c Q C X H locs ls hW hS hl hc hs)
theorem J_pop {v : Value} (hd : decode md.2.2.1 pc = .ok (.pop, 1)) (hc1 : v.category = 1) (k : J G d md (pc + 1) lv (st) n sh M r c0 s0 mc ms post) : J G d md pc lv (v :: st) n sh M r c0 s0 mc ms post := by
  intro p e R s m args below meth c Q C X H locs ls hW hS hl hc hs
  exact lv_pop C.1 C.2.1 hd ((jrn_cat _ _).trans hc1) (k p e R s m args below meth c Q C X H locs ls hW hS hl hc hs)
theorem J_iload_0 {l : List (Option Value)} {x : Int32} (hd : decode md.2.2.1 pc = .ok (.iload_n 0, 1)) (k : J G d md (pc + 1) (some (.int x) :: l) (.int x :: st) n sh M r c0 s0 mc ms post) : J G d md pc (some (.int x) :: l) st n sh M r c0 s0 mc ms post := by
  intro p e R s m args below meth c Q C X H locs ls hW hS hl hc hs
  exact lv_iload_n C.1 C.2.1 hd rfl (hl.at 0 rfl) (k p e R s m args below meth c Q C X H locs ls hW hS hl hc hs)
theorem J_aload_0 {l : List (Option Value)} {x : Nat} (hd : decode md.2.2.1 pc = .ok (.aload_n 0, 1)) (k : J G d md (pc + 1) (some (.ref x) :: l) (.ref x :: st) n sh M r c0 s0 mc ms post) : J G d md pc (some (.ref x) :: l) st n sh M r c0 s0 mc ms post := by
  intro p e R s m args below meth c Q C X H locs ls hW hS hl hc hs
  exact lv_aload_n C.1 C.2.1 hd rfl (hl.at 0 rfl) (k p e R s m args below meth c Q C X H locs ls hW hS hl hc hs)
theorem J_lload_0 {l : List (Option Value)} {x : Int64} (hd : decode md.2.2.1 pc = .ok (.lload_n 0, 1)) (k : J G d md (pc + 1) (some (.long x) :: l) (.long x :: st) n sh M r c0 s0 mc ms post) : J G d md pc (some (.long x) :: l) st n sh M r c0 s0 mc ms post := by
  intro p e R s m args below meth c Q C X H locs ls hW hS hl hc hs
  exact lv_lload_n C.1 C.2.1 hd rfl (hl.at 0 rfl) (k p e R s m args below meth c Q C X H locs ls hW hS hl hc hs)
theorem J_istore_0 {l : List (Option Value)} {b : Option Value} {x : Int32} (hd : decode md.2.2.1 pc = .ok (.istore_n 0, 1)) (k : J G d md (pc + 1) (some (.int x) :: l) st n sh M r c0 s0 mc ms post) : J G d md pc (b :: l) (.int x :: st) n sh M r c0 s0 mc ms post := by
  intro p e R s m args below meth c Q C X H locs ls hW hS hl hc hs
  exact lv_istore_n (i := 0) C.1 C.2.1 hd rfl hl.1 (hl.lt (i := 0) (by simp)) rfl (fun ls2 hl2 => k p e R s m args below meth c Q C X H locs ls2 hW hS (hl.set (v := .int x) 0 rfl (fun a ha => by omega) (fun j hj => by match j with
    | 0 => exact absurd rfl hj
    | j + 1 => rfl) (fun w hw => by simp at hw; exact hw.symm) hl2) hc hs)
theorem J_astore_0 {l : List (Option Value)} {b : Option Value} {x : Nat} (hd : decode md.2.2.1 pc = .ok (.astore_n 0, 1)) (k : J G d md (pc + 1) (some (.ref x) :: l) st n sh M r c0 s0 mc ms post) : J G d md pc (b :: l) (.ref x :: st) n sh M r c0 s0 mc ms post := by
  intro p e R s m args below meth c Q C X H locs ls hW hS hl hc hs
  exact lv_astore_n (i := 0) C.1 C.2.1 hd rfl hl.1 (hl.lt (i := 0) (by simp)) rfl (fun ls2 hl2 => k p e R s m args below meth c Q C X H locs ls2 hW hS (hl.set (v := .ref x) 0 rfl (fun a ha => by omega) (fun j hj => by match j with
    | 0 => exact absurd rfl hj
    | j + 1 => rfl) (fun w hw => by simp at hw; exact hw.symm) hl2) hc hs)
theorem J_iinc_0 {l : List (Option Value)} {x : Int32} {q : Int} (v : Int32) (hd : decode md.2.2.1 pc = .ok (.iinc 0 q, 3)) (hv : Int32.ofInt q = v) (k : J G d md (pc + 3) (some (.int (x + v)) :: l) st n sh M r c0 s0 mc ms post) : J G d md pc (some (.int x) :: l) st n sh M r c0 s0 mc ms post := by
  intro p e R s m args below meth c Q C X H locs ls hW hS hl hc hs
  obtain ⟨t, ht⟩ := List.getElem?_of_mem (jtoL_get (jad G) (some (.int x) :: l) 0 0 (.int x) rfl)
  exact lv_iinc C.1 C.2.1 hd hl.1 (k := t) (x := x) (v := x + v) (by rw [ht, Nat.zero_add]; rfl) (by rw [hv]) (hl.lt (i := 0) (by simp)) rfl (fun ls2 hl2 => k p e R s m args below meth c Q C X H locs ls2 hW hS (hl.set (v := .int (x + v)) 0 rfl (fun a ha => by omega) (fun j hj => by match j with
    | 0 => exact absurd rfl hj
    | j + 1 => rfl) (fun w hw => by simp at hw; exact hw.symm) hl2) hc hs)
theorem J_iload_1 {a0 : Option Value} {l : List (Option Value)} {x : Int32} (hd : decode md.2.2.1 pc = .ok (.iload_n 1, 1)) (k : J G d md (pc + 1) (a0 :: some (.int x) :: l) (.int x :: st) n sh M r c0 s0 mc ms post) : J G d md pc (a0 :: some (.int x) :: l) st n sh M r c0 s0 mc ms post := by
  intro p e R s m args below meth c Q C X H locs ls hW hS hl hc hs
  exact lv_iload_n C.1 C.2.1 hd rfl (hl.at 1 rfl) (k p e R s m args below meth c Q C X H locs ls hW hS hl hc hs)
theorem J_aload_1 {a0 : Option Value} {l : List (Option Value)} {x : Nat} (hd : decode md.2.2.1 pc = .ok (.aload_n 1, 1)) (k : J G d md (pc + 1) (a0 :: some (.ref x) :: l) (.ref x :: st) n sh M r c0 s0 mc ms post) : J G d md pc (a0 :: some (.ref x) :: l) st n sh M r c0 s0 mc ms post := by
  intro p e R s m args below meth c Q C X H locs ls hW hS hl hc hs
  exact lv_aload_n C.1 C.2.1 hd rfl (hl.at 1 rfl) (k p e R s m args below meth c Q C X H locs ls hW hS hl hc hs)
theorem J_lload_1 {a0 : Option Value} {l : List (Option Value)} {x : Int64} (hd : decode md.2.2.1 pc = .ok (.lload_n 1, 1)) (k : J G d md (pc + 1) (a0 :: some (.long x) :: l) (.long x :: st) n sh M r c0 s0 mc ms post) : J G d md pc (a0 :: some (.long x) :: l) st n sh M r c0 s0 mc ms post := by
  intro p e R s m args below meth c Q C X H locs ls hW hS hl hc hs
  exact lv_lload_n C.1 C.2.1 hd rfl (hl.at 1 rfl) (k p e R s m args below meth c Q C X H locs ls hW hS hl hc hs)
theorem J_istore_1 {a0 : Option Value} {l : List (Option Value)} {b : Option Value} {x : Int32} (hd : decode md.2.2.1 pc = .ok (.istore_n 1, 1)) (hc1 : jn2 a0 = true) (k : J G d md (pc + 1) (a0 :: some (.int x) :: l) st n sh M r c0 s0 mc ms post) : J G d md pc (a0 :: b :: l) (.int x :: st) n sh M r c0 s0 mc ms post := by
  intro p e R s m args below meth c Q C X H locs ls hW hS hl hc hs
  exact lv_istore_n (i := 1) C.1 C.2.1 hd rfl hl.1 (hl.lt (i := 1) (by simp)) rfl (fun ls2 hl2 => k p e R s m args below meth c Q C X H locs ls2 hW hS (hl.set (v := .int x) 1 rfl (fun a ha w hw => by (have : a = 0 := by omega); subst this; simp at hw; subst hw; exact hc1) (fun j hj => by match j with
    | 0 => rfl
    | 1 => exact absurd rfl hj
    | j + 2 => rfl) (fun w hw => by simp at hw; exact hw.symm) hl2) hc hs)
theorem J_astore_1 {a0 : Option Value} {l : List (Option Value)} {b : Option Value} {x : Nat} (hd : decode md.2.2.1 pc = .ok (.astore_n 1, 1)) (hc1 : jn2 a0 = true) (k : J G d md (pc + 1) (a0 :: some (.ref x) :: l) st n sh M r c0 s0 mc ms post) : J G d md pc (a0 :: b :: l) (.ref x :: st) n sh M r c0 s0 mc ms post := by
  intro p e R s m args below meth c Q C X H locs ls hW hS hl hc hs
  exact lv_astore_n (i := 1) C.1 C.2.1 hd rfl hl.1 (hl.lt (i := 1) (by simp)) rfl (fun ls2 hl2 => k p e R s m args below meth c Q C X H locs ls2 hW hS (hl.set (v := .ref x) 1 rfl (fun a ha w hw => by (have : a = 0 := by omega); subst this; simp at hw; subst hw; exact hc1) (fun j hj => by match j with
    | 0 => rfl
    | 1 => exact absurd rfl hj
    | j + 2 => rfl) (fun w hw => by simp at hw; exact hw.symm) hl2) hc hs)
theorem J_iinc_1 {a0 : Option Value} {l : List (Option Value)} {x : Int32} {q : Int} (v : Int32) (hd : decode md.2.2.1 pc = .ok (.iinc 1 q, 3)) (hv : Int32.ofInt q = v) (hc1 : jn2 a0 = true) (k : J G d md (pc + 3) (a0 :: some (.int (x + v)) :: l) st n sh M r c0 s0 mc ms post) : J G d md pc (a0 :: some (.int x) :: l) st n sh M r c0 s0 mc ms post := by
  intro p e R s m args below meth c Q C X H locs ls hW hS hl hc hs
  obtain ⟨t, ht⟩ := List.getElem?_of_mem (jtoL_get (jad G) (a0 :: some (.int x) :: l) 0 1 (.int x) rfl)
  exact lv_iinc C.1 C.2.1 hd hl.1 (k := t) (x := x) (v := x + v) (by rw [ht, Nat.zero_add]; rfl) (by rw [hv]) (hl.lt (i := 1) (by simp)) rfl (fun ls2 hl2 => k p e R s m args below meth c Q C X H locs ls2 hW hS (hl.set (v := .int (x + v)) 1 rfl (fun a ha w hw => by (have : a = 0 := by omega); subst this; simp at hw; subst hw; exact hc1) (fun j hj => by match j with
    | 0 => rfl
    | 1 => exact absurd rfl hj
    | j + 2 => rfl) (fun w hw => by simp at hw; exact hw.symm) hl2) hc hs)
theorem J_iload_2 {a0 a1 : Option Value} {l : List (Option Value)} {x : Int32} (hd : decode md.2.2.1 pc = .ok (.iload_n 2, 1)) (k : J G d md (pc + 1) (a0 :: a1 :: some (.int x) :: l) (.int x :: st) n sh M r c0 s0 mc ms post) : J G d md pc (a0 :: a1 :: some (.int x) :: l) st n sh M r c0 s0 mc ms post := by
  intro p e R s m args below meth c Q C X H locs ls hW hS hl hc hs
  exact lv_iload_n C.1 C.2.1 hd rfl (hl.at 2 rfl) (k p e R s m args below meth c Q C X H locs ls hW hS hl hc hs)
theorem J_aload_2 {a0 a1 : Option Value} {l : List (Option Value)} {x : Nat} (hd : decode md.2.2.1 pc = .ok (.aload_n 2, 1)) (k : J G d md (pc + 1) (a0 :: a1 :: some (.ref x) :: l) (.ref x :: st) n sh M r c0 s0 mc ms post) : J G d md pc (a0 :: a1 :: some (.ref x) :: l) st n sh M r c0 s0 mc ms post := by
  intro p e R s m args below meth c Q C X H locs ls hW hS hl hc hs
  exact lv_aload_n C.1 C.2.1 hd rfl (hl.at 2 rfl) (k p e R s m args below meth c Q C X H locs ls hW hS hl hc hs)
theorem J_lload_2 {a0 a1 : Option Value} {l : List (Option Value)} {x : Int64} (hd : decode md.2.2.1 pc = .ok (.lload_n 2, 1)) (k : J G d md (pc + 1) (a0 :: a1 :: some (.long x) :: l) (.long x :: st) n sh M r c0 s0 mc ms post) : J G d md pc (a0 :: a1 :: some (.long x) :: l) st n sh M r c0 s0 mc ms post := by
  intro p e R s m args below meth c Q C X H locs ls hW hS hl hc hs
  exact lv_lload_n C.1 C.2.1 hd rfl (hl.at 2 rfl) (k p e R s m args below meth c Q C X H locs ls hW hS hl hc hs)
theorem J_istore_2 {a0 a1 : Option Value} {l : List (Option Value)} {b : Option Value} {x : Int32} (hd : decode md.2.2.1 pc = .ok (.istore_n 2, 1)) (hc1 : jn2 a1 = true) (k : J G d md (pc + 1) (a0 :: a1 :: some (.int x) :: l) st n sh M r c0 s0 mc ms post) : J G d md pc (a0 :: a1 :: b :: l) (.int x :: st) n sh M r c0 s0 mc ms post := by
  intro p e R s m args below meth c Q C X H locs ls hW hS hl hc hs
  exact lv_istore_n (i := 2) C.1 C.2.1 hd rfl hl.1 (hl.lt (i := 2) (by simp)) rfl (fun ls2 hl2 => k p e R s m args below meth c Q C X H locs ls2 hW hS (hl.set (v := .int x) 2 rfl (fun a ha w hw => by (have : a = 1 := by omega); subst this; simp at hw; subst hw; exact hc1) (fun j hj => by match j with
    | 0 => rfl
    | 1 => rfl
    | 2 => exact absurd rfl hj
    | j + 3 => rfl) (fun w hw => by simp at hw; exact hw.symm) hl2) hc hs)
theorem J_astore_2 {a0 a1 : Option Value} {l : List (Option Value)} {b : Option Value} {x : Nat} (hd : decode md.2.2.1 pc = .ok (.astore_n 2, 1)) (hc1 : jn2 a1 = true) (k : J G d md (pc + 1) (a0 :: a1 :: some (.ref x) :: l) st n sh M r c0 s0 mc ms post) : J G d md pc (a0 :: a1 :: b :: l) (.ref x :: st) n sh M r c0 s0 mc ms post := by
  intro p e R s m args below meth c Q C X H locs ls hW hS hl hc hs
  exact lv_astore_n (i := 2) C.1 C.2.1 hd rfl hl.1 (hl.lt (i := 2) (by simp)) rfl (fun ls2 hl2 => k p e R s m args below meth c Q C X H locs ls2 hW hS (hl.set (v := .ref x) 2 rfl (fun a ha w hw => by (have : a = 1 := by omega); subst this; simp at hw; subst hw; exact hc1) (fun j hj => by match j with
    | 0 => rfl
    | 1 => rfl
    | 2 => exact absurd rfl hj
    | j + 3 => rfl) (fun w hw => by simp at hw; exact hw.symm) hl2) hc hs)
theorem J_iinc_2 {a0 a1 : Option Value} {l : List (Option Value)} {x : Int32} {q : Int} (v : Int32) (hd : decode md.2.2.1 pc = .ok (.iinc 2 q, 3)) (hv : Int32.ofInt q = v) (hc1 : jn2 a1 = true) (k : J G d md (pc + 3) (a0 :: a1 :: some (.int (x + v)) :: l) st n sh M r c0 s0 mc ms post) : J G d md pc (a0 :: a1 :: some (.int x) :: l) st n sh M r c0 s0 mc ms post := by
  intro p e R s m args below meth c Q C X H locs ls hW hS hl hc hs
  obtain ⟨t, ht⟩ := List.getElem?_of_mem (jtoL_get (jad G) (a0 :: a1 :: some (.int x) :: l) 0 2 (.int x) rfl)
  exact lv_iinc C.1 C.2.1 hd hl.1 (k := t) (x := x) (v := x + v) (by rw [ht, Nat.zero_add]; rfl) (by rw [hv]) (hl.lt (i := 2) (by simp)) rfl (fun ls2 hl2 => k p e R s m args below meth c Q C X H locs ls2 hW hS (hl.set (v := .int (x + v)) 2 rfl (fun a ha w hw => by (have : a = 1 := by omega); subst this; simp at hw; subst hw; exact hc1) (fun j hj => by match j with
    | 0 => rfl
    | 1 => rfl
    | 2 => exact absurd rfl hj
    | j + 3 => rfl) (fun w hw => by simp at hw; exact hw.symm) hl2) hc hs)
theorem J_iload_3 {a0 a1 a2 : Option Value} {l : List (Option Value)} {x : Int32} (hd : decode md.2.2.1 pc = .ok (.iload_n 3, 1)) (k : J G d md (pc + 1) (a0 :: a1 :: a2 :: some (.int x) :: l) (.int x :: st) n sh M r c0 s0 mc ms post) : J G d md pc (a0 :: a1 :: a2 :: some (.int x) :: l) st n sh M r c0 s0 mc ms post := by
  intro p e R s m args below meth c Q C X H locs ls hW hS hl hc hs
  exact lv_iload_n C.1 C.2.1 hd rfl (hl.at 3 rfl) (k p e R s m args below meth c Q C X H locs ls hW hS hl hc hs)
theorem J_aload_3 {a0 a1 a2 : Option Value} {l : List (Option Value)} {x : Nat} (hd : decode md.2.2.1 pc = .ok (.aload_n 3, 1)) (k : J G d md (pc + 1) (a0 :: a1 :: a2 :: some (.ref x) :: l) (.ref x :: st) n sh M r c0 s0 mc ms post) : J G d md pc (a0 :: a1 :: a2 :: some (.ref x) :: l) st n sh M r c0 s0 mc ms post := by
  intro p e R s m args below meth c Q C X H locs ls hW hS hl hc hs
  exact lv_aload_n C.1 C.2.1 hd rfl (hl.at 3 rfl) (k p e R s m args below meth c Q C X H locs ls hW hS hl hc hs)
theorem J_lload_3 {a0 a1 a2 : Option Value} {l : List (Option Value)} {x : Int64} (hd : decode md.2.2.1 pc = .ok (.lload_n 3, 1)) (k : J G d md (pc + 1) (a0 :: a1 :: a2 :: some (.long x) :: l) (.long x :: st) n sh M r c0 s0 mc ms post) : J G d md pc (a0 :: a1 :: a2 :: some (.long x) :: l) st n sh M r c0 s0 mc ms post := by
  intro p e R s m args below meth c Q C X H locs ls hW hS hl hc hs
  exact lv_lload_n C.1 C.2.1 hd rfl (hl.at 3 rfl) (k p e R s m args below meth c Q C X H locs ls hW hS hl hc hs)
theorem J_istore_3 {a0 a1 a2 : Option Value} {l : List (Option Value)} {b : Option Value} {x : Int32} (hd : decode md.2.2.1 pc = .ok (.istore_n 3, 1)) (hc1 : jn2 a2 = true) (k : J G d md (pc + 1) (a0 :: a1 :: a2 :: some (.int x) :: l) st n sh M r c0 s0 mc ms post) : J G d md pc (a0 :: a1 :: a2 :: b :: l) (.int x :: st) n sh M r c0 s0 mc ms post := by
  intro p e R s m args below meth c Q C X H locs ls hW hS hl hc hs
  exact lv_istore_n (i := 3) C.1 C.2.1 hd rfl hl.1 (hl.lt (i := 3) (by simp)) rfl (fun ls2 hl2 => k p e R s m args below meth c Q C X H locs ls2 hW hS (hl.set (v := .int x) 3 rfl (fun a ha w hw => by (have : a = 2 := by omega); subst this; simp at hw; subst hw; exact hc1) (fun j hj => by match j with
    | 0 => rfl
    | 1 => rfl
    | 2 => rfl
    | 3 => exact absurd rfl hj
    | j + 4 => rfl) (fun w hw => by simp at hw; exact hw.symm) hl2) hc hs)
theorem J_astore_3 {a0 a1 a2 : Option Value} {l : List (Option Value)} {b : Option Value} {x : Nat} (hd : decode md.2.2.1 pc = .ok (.astore_n 3, 1)) (hc1 : jn2 a2 = true) (k : J G d md (pc + 1) (a0 :: a1 :: a2 :: some (.ref x) :: l) st n sh M r c0 s0 mc ms post) : J G d md pc (a0 :: a1 :: a2 :: b :: l) (.ref x :: st) n sh M r c0 s0 mc ms post := by
  intro p e R s m args below meth c Q C X H locs ls hW hS hl hc hs
  exact lv_astore_n (i := 3) C.1 C.2.1 hd rfl hl.1 (hl.lt (i := 3) (by simp)) rfl (fun ls2 hl2 => k p e R s m args below meth c Q C X H locs ls2 hW hS (hl.set (v := .ref x) 3 rfl (fun a ha w hw => by (have : a = 2 := by omega); subst this; simp at hw; subst hw; exact hc1) (fun j hj => by match j with
    | 0 => rfl
    | 1 => rfl
    | 2 => rfl
    | 3 => exact absurd rfl hj
    | j + 4 => rfl) (fun w hw => by simp at hw; exact hw.symm) hl2) hc hs)
theorem J_iinc_3 {a0 a1 a2 : Option Value} {l : List (Option Value)} {x : Int32} {q : Int} (v : Int32) (hd : decode md.2.2.1 pc = .ok (.iinc 3 q, 3)) (hv : Int32.ofInt q = v) (hc1 : jn2 a2 = true) (k : J G d md (pc + 3) (a0 :: a1 :: a2 :: some (.int (x + v)) :: l) st n sh M r c0 s0 mc ms post) : J G d md pc (a0 :: a1 :: a2 :: some (.int x) :: l) st n sh M r c0 s0 mc ms post := by
  intro p e R s m args below meth c Q C X H locs ls hW hS hl hc hs
  obtain ⟨t, ht⟩ := List.getElem?_of_mem (jtoL_get (jad G) (a0 :: a1 :: a2 :: some (.int x) :: l) 0 3 (.int x) rfl)
  exact lv_iinc C.1 C.2.1 hd hl.1 (k := t) (x := x) (v := x + v) (by rw [ht, Nat.zero_add]; rfl) (by rw [hv]) (hl.lt (i := 3) (by simp)) rfl (fun ls2 hl2 => k p e R s m args below meth c Q C X H locs ls2 hW hS (hl.set (v := .int (x + v)) 3 rfl (fun a ha w hw => by (have : a = 2 := by omega); subst this; simp at hw; subst hw; exact hc1) (fun j hj => by match j with
    | 0 => rfl
    | 1 => rfl
    | 2 => rfl
    | 3 => exact absurd rfl hj
    | j + 4 => rfl) (fun w hw => by simp at hw; exact hw.symm) hl2) hc hs)
theorem J_iload_4 {a0 a1 a2 a3 : Option Value} {l : List (Option Value)} {x : Int32} (hd : decode md.2.2.1 pc = .ok (.iload 4, 2)) (k : J G d md (pc + 2) (a0 :: a1 :: a2 :: a3 :: some (.int x) :: l) (.int x :: st) n sh M r c0 s0 mc ms post) : J G d md pc (a0 :: a1 :: a2 :: a3 :: some (.int x) :: l) st n sh M r c0 s0 mc ms post := by
  intro p e R s m args below meth c Q C X H locs ls hW hS hl hc hs
  exact lv_iload C.1 C.2.1 hd (hl.at 4 rfl) (k p e R s m args below meth c Q C X H locs ls hW hS hl hc hs)
theorem J_aload_4 {a0 a1 a2 a3 : Option Value} {l : List (Option Value)} {x : Nat} (hd : decode md.2.2.1 pc = .ok (.aload 4, 2)) (k : J G d md (pc + 2) (a0 :: a1 :: a2 :: a3 :: some (.ref x) :: l) (.ref x :: st) n sh M r c0 s0 mc ms post) : J G d md pc (a0 :: a1 :: a2 :: a3 :: some (.ref x) :: l) st n sh M r c0 s0 mc ms post := by
  intro p e R s m args below meth c Q C X H locs ls hW hS hl hc hs
  exact lv_aload C.1 C.2.1 hd (hl.at 4 rfl) (k p e R s m args below meth c Q C X H locs ls hW hS hl hc hs)
theorem J_lload_4 {a0 a1 a2 a3 : Option Value} {l : List (Option Value)} {x : Int64} (hd : decode md.2.2.1 pc = .ok (.lload 4, 2)) (k : J G d md (pc + 2) (a0 :: a1 :: a2 :: a3 :: some (.long x) :: l) (.long x :: st) n sh M r c0 s0 mc ms post) : J G d md pc (a0 :: a1 :: a2 :: a3 :: some (.long x) :: l) st n sh M r c0 s0 mc ms post := by
  intro p e R s m args below meth c Q C X H locs ls hW hS hl hc hs
  exact lv_lload C.1 C.2.1 hd (hl.at 4 rfl) (k p e R s m args below meth c Q C X H locs ls hW hS hl hc hs)
theorem J_istore_4 {a0 a1 a2 a3 : Option Value} {l : List (Option Value)} {b : Option Value} {x : Int32} (hd : decode md.2.2.1 pc = .ok (.istore 4, 2)) (hc1 : jn2 a3 = true) (k : J G d md (pc + 2) (a0 :: a1 :: a2 :: a3 :: some (.int x) :: l) st n sh M r c0 s0 mc ms post) : J G d md pc (a0 :: a1 :: a2 :: a3 :: b :: l) (.int x :: st) n sh M r c0 s0 mc ms post := by
  intro p e R s m args below meth c Q C X H locs ls hW hS hl hc hs
  exact lv_istore (i := 4) C.1 C.2.1 hd hl.1 (hl.lt (i := 4) (by simp)) rfl (fun ls2 hl2 => k p e R s m args below meth c Q C X H locs ls2 hW hS (hl.set (v := .int x) 4 rfl (fun a ha w hw => by (have : a = 3 := by omega); subst this; simp at hw; subst hw; exact hc1) (fun j hj => by match j with
    | 0 => rfl
    | 1 => rfl
    | 2 => rfl
    | 3 => rfl
    | 4 => exact absurd rfl hj
    | j + 5 => rfl) (fun w hw => by simp at hw; exact hw.symm) hl2) hc hs)
theorem J_astore_4 {a0 a1 a2 a3 : Option Value} {l : List (Option Value)} {b : Option Value} {x : Nat} (hd : decode md.2.2.1 pc = .ok (.astore 4, 2)) (hc1 : jn2 a3 = true) (k : J G d md (pc + 2) (a0 :: a1 :: a2 :: a3 :: some (.ref x) :: l) st n sh M r c0 s0 mc ms post) : J G d md pc (a0 :: a1 :: a2 :: a3 :: b :: l) (.ref x :: st) n sh M r c0 s0 mc ms post := by
  intro p e R s m args below meth c Q C X H locs ls hW hS hl hc hs
  exact lv_astore (i := 4) C.1 C.2.1 hd hl.1 (hl.lt (i := 4) (by simp)) rfl (fun ls2 hl2 => k p e R s m args below meth c Q C X H locs ls2 hW hS (hl.set (v := .ref x) 4 rfl (fun a ha w hw => by (have : a = 3 := by omega); subst this; simp at hw; subst hw; exact hc1) (fun j hj => by match j with
    | 0 => rfl
    | 1 => rfl
    | 2 => rfl
    | 3 => rfl
    | 4 => exact absurd rfl hj
    | j + 5 => rfl) (fun w hw => by simp at hw; exact hw.symm) hl2) hc hs)
theorem J_iinc_4 {a0 a1 a2 a3 : Option Value} {l : List (Option Value)} {x : Int32} {q : Int} (v : Int32) (hd : decode md.2.2.1 pc = .ok (.iinc 4 q, 3)) (hv : Int32.ofInt q = v) (hc1 : jn2 a3 = true) (k : J G d md (pc + 3) (a0 :: a1 :: a2 :: a3 :: some (.int (x + v)) :: l) st n sh M r c0 s0 mc ms post) : J G d md pc (a0 :: a1 :: a2 :: a3 :: some (.int x) :: l) st n sh M r c0 s0 mc ms post := by
  intro p e R s m args below meth c Q C X H locs ls hW hS hl hc hs
  obtain ⟨t, ht⟩ := List.getElem?_of_mem (jtoL_get (jad G) (a0 :: a1 :: a2 :: a3 :: some (.int x) :: l) 0 4 (.int x) rfl)
  exact lv_iinc C.1 C.2.1 hd hl.1 (k := t) (x := x) (v := x + v) (by rw [ht, Nat.zero_add]; rfl) (by rw [hv]) (hl.lt (i := 4) (by simp)) rfl (fun ls2 hl2 => k p e R s m args below meth c Q C X H locs ls2 hW hS (hl.set (v := .int (x + v)) 4 rfl (fun a ha w hw => by (have : a = 3 := by omega); subst this; simp at hw; subst hw; exact hc1) (fun j hj => by match j with
    | 0 => rfl
    | 1 => rfl
    | 2 => rfl
    | 3 => rfl
    | 4 => exact absurd rfl hj
    | j + 5 => rfl) (fun w hw => by simp at hw; exact hw.symm) hl2) hc hs)
theorem J_iload_5 {a0 a1 a2 a3 a4 : Option Value} {l : List (Option Value)} {x : Int32} (hd : decode md.2.2.1 pc = .ok (.iload 5, 2)) (k : J G d md (pc + 2) (a0 :: a1 :: a2 :: a3 :: a4 :: some (.int x) :: l) (.int x :: st) n sh M r c0 s0 mc ms post) : J G d md pc (a0 :: a1 :: a2 :: a3 :: a4 :: some (.int x) :: l) st n sh M r c0 s0 mc ms post := by
  intro p e R s m args below meth c Q C X H locs ls hW hS hl hc hs
  exact lv_iload C.1 C.2.1 hd (hl.at 5 rfl) (k p e R s m args below meth c Q C X H locs ls hW hS hl hc hs)
theorem J_aload_5 {a0 a1 a2 a3 a4 : Option Value} {l : List (Option Value)} {x : Nat} (hd : decode md.2.2.1 pc = .ok (.aload 5, 2)) (k : J G d md (pc + 2) (a0 :: a1 :: a2 :: a3 :: a4 :: some (.ref x) :: l) (.ref x :: st) n sh M r c0 s0 mc ms post) : J G d md pc (a0 :: a1 :: a2 :: a3 :: a4 :: some (.ref x) :: l) st n sh M r c0 s0 mc ms post := by
  intro p e R s m args below meth c Q C X H locs ls hW hS hl hc hs
  exact lv_aload C.1 C.2.1 hd (hl.at 5 rfl) (k p e R s m args below meth c Q C X H locs ls hW hS hl hc hs)
theorem J_lload_5 {a0 a1 a2 a3 a4 : Option Value} {l : List (Option Value)} {x : Int64} (hd : decode md.2.2.1 pc = .ok (.lload 5, 2)) (k : J G d md (pc + 2) (a0 :: a1 :: a2 :: a3 :: a4 :: some (.long x) :: l) (.long x :: st) n sh M r c0 s0 mc ms post) : J G d md pc (a0 :: a1 :: a2 :: a3 :: a4 :: some (.long x) :: l) st n sh M r c0 s0 mc ms post := by
  intro p e R s m args below meth c Q C X H locs ls hW hS hl hc hs
  exact lv_lload C.1 C.2.1 hd (hl.at 5 rfl) (k p e R s m args below meth c Q C X H locs ls hW hS hl hc hs)
theorem J_istore_5 {a0 a1 a2 a3 a4 : Option Value} {l : List (Option Value)} {b : Option Value} {x : Int32} (hd : decode md.2.2.1 pc = .ok (.istore 5, 2)) (hc1 : jn2 a4 = true) (k : J G d md (pc + 2) (a0 :: a1 :: a2 :: a3 :: a4 :: some (.int x) :: l) st n sh M r c0 s0 mc ms post) : J G d md pc (a0 :: a1 :: a2 :: a3 :: a4 :: b :: l) (.int x :: st) n sh M r c0 s0 mc ms post := by
  intro p e R s m args below meth c Q C X H locs ls hW hS hl hc hs
  exact lv_istore (i := 5) C.1 C.2.1 hd hl.1 (hl.lt (i := 5) (by simp)) rfl (fun ls2 hl2 => k p e R s m args below meth c Q C X H locs ls2 hW hS (hl.set (v := .int x) 5 rfl (fun a ha w hw => by (have : a = 4 := by omega); subst this; simp at hw; subst hw; exact hc1) (fun j hj => by match j with
    | 0 => rfl
    | 1 => rfl
    | 2 => rfl
    | 3 => rfl
    | 4 => rfl
    | 5 => exact absurd rfl hj
    | j + 6 => rfl) (fun w hw => by simp at hw; exact hw.symm) hl2) hc hs)
theorem J_astore_5 {a0 a1 a2 a3 a4 : Option Value} {l : List (Option Value)} {b : Option Value} {x : Nat} (hd : decode md.2.2.1 pc = .ok (.astore 5, 2)) (hc1 : jn2 a4 = true) (k : J G d md (pc + 2) (a0 :: a1 :: a2 :: a3 :: a4 :: some (.ref x) :: l) st n sh M r c0 s0 mc ms post) : J G d md pc (a0 :: a1 :: a2 :: a3 :: a4 :: b :: l) (.ref x :: st) n sh M r c0 s0 mc ms post := by
  intro p e R s m args below meth c Q C X H locs ls hW hS hl hc hs
  exact lv_astore (i := 5) C.1 C.2.1 hd hl.1 (hl.lt (i := 5) (by simp)) rfl (fun ls2 hl2 => k p e R s m args below meth c Q C X H locs ls2 hW hS (hl.set (v := .ref x) 5 rfl (fun a ha w hw => by (have : a = 4 := by omega); subst this; simp at hw; subst hw; exact hc1) (fun j hj => by match j with
    | 0 => rfl
    | 1 => rfl
    | 2 => rfl
    | 3 => rfl
    | 4 => rfl
    | 5 => exact absurd rfl hj
    | j + 6 => rfl) (fun w hw => by simp at hw; exact hw.symm) hl2) hc hs)
theorem J_iinc_5 {a0 a1 a2 a3 a4 : Option Value} {l : List (Option Value)} {x : Int32} {q : Int} (v : Int32) (hd : decode md.2.2.1 pc = .ok (.iinc 5 q, 3)) (hv : Int32.ofInt q = v) (hc1 : jn2 a4 = true) (k : J G d md (pc + 3) (a0 :: a1 :: a2 :: a3 :: a4 :: some (.int (x + v)) :: l) st n sh M r c0 s0 mc ms post) : J G d md pc (a0 :: a1 :: a2 :: a3 :: a4 :: some (.int x) :: l) st n sh M r c0 s0 mc ms post := by
  intro p e R s m args below meth c Q C X H locs ls hW hS hl hc hs
  obtain ⟨t, ht⟩ := List.getElem?_of_mem (jtoL_get (jad G) (a0 :: a1 :: a2 :: a3 :: a4 :: some (.int x) :: l) 0 5 (.int x) rfl)
  exact lv_iinc C.1 C.2.1 hd hl.1 (k := t) (x := x) (v := x + v) (by rw [ht, Nat.zero_add]; rfl) (by rw [hv]) (hl.lt (i := 5) (by simp)) rfl (fun ls2 hl2 => k p e R s m args below meth c Q C X H locs ls2 hW hS (hl.set (v := .int (x + v)) 5 rfl (fun a ha w hw => by (have : a = 4 := by omega); subst this; simp at hw; subst hw; exact hc1) (fun j hj => by match j with
    | 0 => rfl
    | 1 => rfl
    | 2 => rfl
    | 3 => rfl
    | 4 => rfl
    | 5 => exact absurd rfl hj
    | j + 6 => rfl) (fun w hw => by simp at hw; exact hw.symm) hl2) hc hs)
theorem J_iload_6 {a0 a1 a2 a3 a4 a5 : Option Value} {l : List (Option Value)} {x : Int32} (hd : decode md.2.2.1 pc = .ok (.iload 6, 2)) (k : J G d md (pc + 2) (a0 :: a1 :: a2 :: a3 :: a4 :: a5 :: some (.int x) :: l) (.int x :: st) n sh M r c0 s0 mc ms post) : J G d md pc (a0 :: a1 :: a2 :: a3 :: a4 :: a5 :: some (.int x) :: l) st n sh M r c0 s0 mc ms post := by
  intro p e R s m args below meth c Q C X H locs ls hW hS hl hc hs
  exact lv_iload C.1 C.2.1 hd (hl.at 6 rfl) (k p e R s m args below meth c Q C X H locs ls hW hS hl hc hs)
theorem J_aload_6 {a0 a1 a2 a3 a4 a5 : Option Value} {l : List (Option Value)} {x : Nat} (hd : decode md.2.2.1 pc = .ok (.aload 6, 2)) (k : J G d md (pc + 2) (a0 :: a1 :: a2 :: a3 :: a4 :: a5 :: some (.ref x) :: l) (.ref x :: st) n sh M r c0 s0 mc ms post) : J G d md pc (a0 :: a1 :: a2 :: a3 :: a4 :: a5 :: some (.ref x) :: l) st n sh M r c0 s0 mc ms post := by
  intro p e R s m args below meth c Q C X H locs ls hW hS hl hc hs
  exact lv_aload C.1 C.2.1 hd (hl.at 6 rfl) (k p e R s m args below meth c Q C X H locs ls hW hS hl hc hs)
theorem J_lload_6 {a0 a1 a2 a3 a4 a5 : Option Value} {l : List (Option Value)} {x : Int64} (hd : decode md.2.2.1 pc = .ok (.lload 6, 2)) (k : J G d md (pc + 2) (a0 :: a1 :: a2 :: a3 :: a4 :: a5 :: some (.long x) :: l) (.long x :: st) n sh M r c0 s0 mc ms post) : J G d md pc (a0 :: a1 :: a2 :: a3 :: a4 :: a5 :: some (.long x) :: l) st n sh M r c0 s0 mc ms post := by
  intro p e R s m args below meth c Q C X H locs ls hW hS hl hc hs
  exact lv_lload C.1 C.2.1 hd (hl.at 6 rfl) (k p e R s m args below meth c Q C X H locs ls hW hS hl hc hs)
theorem J_istore_6 {a0 a1 a2 a3 a4 a5 : Option Value} {l : List (Option Value)} {b : Option Value} {x : Int32} (hd : decode md.2.2.1 pc = .ok (.istore 6, 2)) (hc1 : jn2 a5 = true) (k : J G d md (pc + 2) (a0 :: a1 :: a2 :: a3 :: a4 :: a5 :: some (.int x) :: l) st n sh M r c0 s0 mc ms post) : J G d md pc (a0 :: a1 :: a2 :: a3 :: a4 :: a5 :: b :: l) (.int x :: st) n sh M r c0 s0 mc ms post := by
  intro p e R s m args below meth c Q C X H locs ls hW hS hl hc hs
  exact lv_istore (i := 6) C.1 C.2.1 hd hl.1 (hl.lt (i := 6) (by simp)) rfl (fun ls2 hl2 => k p e R s m args below meth c Q C X H locs ls2 hW hS (hl.set (v := .int x) 6 rfl (fun a ha w hw => by (have : a = 5 := by omega); subst this; simp at hw; subst hw; exact hc1) (fun j hj => by match j with
    | 0 => rfl
    | 1 => rfl
    | 2 => rfl
    | 3 => rfl
    | 4 => rfl
    | 5 => rfl
    | 6 => exact absurd rfl hj
    | j + 7 => rfl) (fun w hw => by simp at hw; exact hw.symm) hl2) hc hs)
theorem J_astore_6 {a0 a1 a2 a3 a4 a5 : Option Value} {l : List (Option Value)} {b : Option Value} {x : Nat} (hd : decode md.2.2.1 pc = .ok (.astore 6, 2)) (hc1 : jn2 a5 = true) (k : J G d md (pc + 2) (a0 :: a1 :: a2 :: a3 :: a4 :: a5 :: some (.ref x) :: l) st n sh M r c0 s0 mc ms post) : J G d md pc (a0 :: a1 :: a2 :: a3 :: a4 :: a5 :: b :: l) (.ref x :: st) n sh M r c0 s0 mc ms post := by
  intro p e R s m args below meth c Q C X H locs ls hW hS hl hc hs
  exact lv_astore (i := 6) C.1 C.2.1 hd hl.1 (hl.lt (i := 6) (by simp)) rfl (fun ls2 hl2 => k p e R s m args below meth c Q C X H locs ls2 hW hS (hl.set (v := .ref x) 6 rfl (fun a ha w hw => by (have : a = 5 := by omega); subst this; simp at hw; subst hw; exact hc1) (fun j hj => by match j with
    | 0 => rfl
    | 1 => rfl
    | 2 => rfl
    | 3 => rfl
    | 4 => rfl
    | 5 => rfl
    | 6 => exact absurd rfl hj
    | j + 7 => rfl) (fun w hw => by simp at hw; exact hw.symm) hl2) hc hs)
theorem J_iinc_6 {a0 a1 a2 a3 a4 a5 : Option Value} {l : List (Option Value)} {x : Int32} {q : Int} (v : Int32) (hd : decode md.2.2.1 pc = .ok (.iinc 6 q, 3)) (hv : Int32.ofInt q = v) (hc1 : jn2 a5 = true) (k : J G d md (pc + 3) (a0 :: a1 :: a2 :: a3 :: a4 :: a5 :: some (.int (x + v)) :: l) st n sh M r c0 s0 mc ms post) : J G d md pc (a0 :: a1 :: a2 :: a3 :: a4 :: a5 :: some (.int x) :: l) st n sh M r c0 s0 mc ms post := by
  intro p e R s m args below meth c Q C X H locs ls hW hS hl hc hs
  obtain ⟨t, ht⟩ := List.getElem?_of_mem (jtoL_get (jad G) (a0 :: a1 :: a2 :: a3 :: a4 :: a5 :: some (.int x) :: l) 0 6 (.int x) rfl)
  exact lv_iinc C.1 C.2.1 hd hl.1 (k := t) (x := x) (v := x + v) (by rw [ht, Nat.zero_add]; rfl) (by rw [hv]) (hl.lt (i := 6) (by simp)) rfl (fun ls2 hl2 => k p e R s m args below meth c Q C X H locs ls2 hW hS (hl.set (v := .int (x + v)) 6 rfl (fun a ha w hw => by (have : a = 5 := by omega); subst this; simp at hw; subst hw; exact hc1) (fun j hj => by match j with
    | 0 => rfl
    | 1 => rfl
    | 2 => rfl
    | 3 => rfl
    | 4 => rfl
    | 5 => rfl
    | 6 => exact absurd rfl hj
    | j + 7 => rfl) (fun w hw => by simp at hw; exact hw.symm) hl2) hc hs)
theorem J_iload_7 {a0 a1 a2 a3 a4 a5 a6 : Option Value} {l : List (Option Value)} {x : Int32} (hd : decode md.2.2.1 pc = .ok (.iload 7, 2)) (k : J G d md (pc + 2) (a0 :: a1 :: a2 :: a3 :: a4 :: a5 :: a6 :: some (.int x) :: l) (.int x :: st) n sh M r c0 s0 mc ms post) : J G d md pc (a0 :: a1 :: a2 :: a3 :: a4 :: a5 :: a6 :: some (.int x) :: l) st n sh M r c0 s0 mc ms post := by
  intro p e R s m args below meth c Q C X H locs ls hW hS hl hc hs
  exact lv_iload C.1 C.2.1 hd (hl.at 7 rfl) (k p e R s m args below meth c Q C X H locs ls hW hS hl hc hs)
theorem J_aload_7 {a0 a1 a2 a3 a4 a5 a6 : Option Value} {l : List (Option Value)} {x : Nat} (hd : decode md.2.2.1 pc = .ok (.aload 7, 2)) (k : J G d md (pc + 2) (a0 :: a1 :: a2 :: a3 :: a4 :: a5 :: a6 :: some (.ref x) :: l) (.ref x :: st) n sh M r c0 s0 mc ms post) : J G d md pc (a0 :: a1 :: a2 :: a3 :: a4 :: a5 :: a6 :: some (.ref x) :: l) st n sh M r c0 s0 mc ms post := by
  intro p e R s m args below meth c Q C X H locs ls hW hS hl hc hs
  exact lv_aload C.1 C.2.1 hd (hl.at 7 rfl) (k p e R s m args below meth c Q C X H locs ls hW hS hl hc hs)
theorem J_lload_7 {a0 a1 a2 a3 a4 a5 a6 : Option Value} {l : List (Option Value)} {x : Int64} (hd : decode md.2.2.1 pc = .ok (.lload 7, 2)) (k : J G d md (pc + 2) (a0 :: a1 :: a2 :: a3 :: a4 :: a5 :: a6 :: some (.long x) :: l) (.long x :: st) n sh M r c0 s0 mc ms post) : J G d md pc (a0 :: a1 :: a2 :: a3 :: a4 :: a5 :: a6 :: some (.long x) :: l) st n sh M r c0 s0 mc ms post := by
  intro p e R s m args below meth c Q C X H locs ls hW hS hl hc hs
  exact lv_lload C.1 C.2.1 hd (hl.at 7 rfl) (k p e R s m args below meth c Q C X H locs ls hW hS hl hc hs)
theorem J_istore_7 {a0 a1 a2 a3 a4 a5 a6 : Option Value} {l : List (Option Value)} {b : Option Value} {x : Int32} (hd : decode md.2.2.1 pc = .ok (.istore 7, 2)) (hc1 : jn2 a6 = true) (k : J G d md (pc + 2) (a0 :: a1 :: a2 :: a3 :: a4 :: a5 :: a6 :: some (.int x) :: l) st n sh M r c0 s0 mc ms post) : J G d md pc (a0 :: a1 :: a2 :: a3 :: a4 :: a5 :: a6 :: b :: l) (.int x :: st) n sh M r c0 s0 mc ms post := by
  intro p e R s m args below meth c Q C X H locs ls hW hS hl hc hs
  exact lv_istore (i := 7) C.1 C.2.1 hd hl.1 (hl.lt (i := 7) (by simp)) rfl (fun ls2 hl2 => k p e R s m args below meth c Q C X H locs ls2 hW hS (hl.set (v := .int x) 7 rfl (fun a ha w hw => by (have : a = 6 := by omega); subst this; simp at hw; subst hw; exact hc1) (fun j hj => by match j with
    | 0 => rfl
    | 1 => rfl
    | 2 => rfl
    | 3 => rfl
    | 4 => rfl
    | 5 => rfl
    | 6 => rfl
    | 7 => exact absurd rfl hj
    | j + 8 => rfl) (fun w hw => by simp at hw; exact hw.symm) hl2) hc hs)
theorem J_astore_7 {a0 a1 a2 a3 a4 a5 a6 : Option Value} {l : List (Option Value)} {b : Option Value} {x : Nat} (hd : decode md.2.2.1 pc = .ok (.astore 7, 2)) (hc1 : jn2 a6 = true) (k : J G d md (pc + 2) (a0 :: a1 :: a2 :: a3 :: a4 :: a5 :: a6 :: some (.ref x) :: l) st n sh M r c0 s0 mc ms post) : J G d md pc (a0 :: a1 :: a2 :: a3 :: a4 :: a5 :: a6 :: b :: l) (.ref x :: st) n sh M r c0 s0 mc ms post := by
  intro p e R s m args below meth c Q C X H locs ls hW hS hl hc hs
  exact lv_astore (i := 7) C.1 C.2.1 hd hl.1 (hl.lt (i := 7) (by simp)) rfl (fun ls2 hl2 => k p e R s m args below meth c Q C X H locs ls2 hW hS (hl.set (v := .ref x) 7 rfl (fun a ha w hw => by (have : a = 6 := by omega); subst this; simp at hw; subst hw; exact hc1) (fun j hj => by match j with
    | 0 => rfl
    | 1 => rfl
    | 2 => rfl
    | 3 => rfl
    | 4 => rfl
    | 5 => rfl
    | 6 => rfl
    | 7 => exact absurd rfl hj
    | j + 8 => rfl) (fun w hw => by simp at hw; exact hw.symm) hl2) hc hs)
theorem J_iinc_7 {a0 a1 a2 a3 a4 a5 a6 : Option Value} {l : List (Option Value)} {x : Int32} {q : Int} (v : Int32) (hd : decode md.2.2.1 pc = .ok (.iinc 7 q, 3)) (hv : Int32.ofInt q = v) (hc1 : jn2 a6 = true) (k : J G d md (pc + 3) (a0 :: a1 :: a2 :: a3 :: a4 :: a5 :: a6 :: some (.int (x + v)) :: l) st n sh M r c0 s0 mc ms post) : J G d md pc (a0 :: a1 :: a2 :: a3 :: a4 :: a5 :: a6 :: some (.int x) :: l) st n sh M r c0 s0 mc ms post := by
  intro p e R s m args below meth c Q C X H locs ls hW hS hl hc hs
  obtain ⟨t, ht⟩ := List.getElem?_of_mem (jtoL_get (jad G) (a0 :: a1 :: a2 :: a3 :: a4 :: a5 :: a6 :: some (.int x) :: l) 0 7 (.int x) rfl)
  exact lv_iinc C.1 C.2.1 hd hl.1 (k := t) (x := x) (v := x + v) (by rw [ht, Nat.zero_add]; rfl) (by rw [hv]) (hl.lt (i := 7) (by simp)) rfl (fun ls2 hl2 => k p e R s m args below meth c Q C X H locs ls2 hW hS (hl.set (v := .int (x + v)) 7 rfl (fun a ha w hw => by (have : a = 6 := by omega); subst this; simp at hw; subst hw; exact hc1) (fun j hj => by match j with
    | 0 => rfl
    | 1 => rfl
    | 2 => rfl
    | 3 => rfl
    | 4 => rfl
    | 5 => rfl
    | 6 => rfl
    | 7 => exact absurd rfl hj
    | j + 8 => rfl) (fun w hw => by simp at hw; exact hw.symm) hl2) hc hs)
theorem J_iload_8 {a0 a1 a2 a3 a4 a5 a6 a7 : Option Value} {l : List (Option Value)} {x : Int32} (hd : decode md.2.2.1 pc = .ok (.iload 8, 2)) (k : J G d md (pc + 2) (a0 :: a1 :: a2 :: a3 :: a4 :: a5 :: a6 :: a7 :: some (.int x) :: l) (.int x :: st) n sh M r c0 s0 mc ms post) : J G d md pc (a0 :: a1 :: a2 :: a3 :: a4 :: a5 :: a6 :: a7 :: some (.int x) :: l) st n sh M r c0 s0 mc ms post := by
  intro p e R s m args below meth c Q C X H locs ls hW hS hl hc hs
  exact lv_iload C.1 C.2.1 hd (hl.at 8 rfl) (k p e R s m args below meth c Q C X H locs ls hW hS hl hc hs)
theorem J_aload_8 {a0 a1 a2 a3 a4 a5 a6 a7 : Option Value} {l : List (Option Value)} {x : Nat} (hd : decode md.2.2.1 pc = .ok (.aload 8, 2)) (k : J G d md (pc + 2) (a0 :: a1 :: a2 :: a3 :: a4 :: a5 :: a6 :: a7 :: some (.ref x) :: l) (.ref x :: st) n sh M r c0 s0 mc ms post) : J G d md pc (a0 :: a1 :: a2 :: a3 :: a4 :: a5 :: a6 :: a7 :: some (.ref x) :: l) st n sh M r c0 s0 mc ms post := by
  intro p e R s m args below meth c Q C X H locs ls hW hS hl hc hs
  exact lv_aload C.1 C.2.1 hd (hl.at 8 rfl) (k p e R s m args below meth c Q C X H locs ls hW hS hl hc hs)
theorem J_lload_8 {a0 a1 a2 a3 a4 a5 a6 a7 : Option Value} {l : List (Option Value)} {x : Int64} (hd : decode md.2.2.1 pc = .ok (.lload 8, 2)) (k : J G d md (pc + 2) (a0 :: a1 :: a2 :: a3 :: a4 :: a5 :: a6 :: a7 :: some (.long x) :: l) (.long x :: st) n sh M r c0 s0 mc ms post) : J G d md pc (a0 :: a1 :: a2 :: a3 :: a4 :: a5 :: a6 :: a7 :: some (.long x) :: l) st n sh M r c0 s0 mc ms post := by
  intro p e R s m args below meth c Q C X H locs ls hW hS hl hc hs
  exact lv_lload C.1 C.2.1 hd (hl.at 8 rfl) (k p e R s m args below meth c Q C X H locs ls hW hS hl hc hs)
theorem J_istore_8 {a0 a1 a2 a3 a4 a5 a6 a7 : Option Value} {l : List (Option Value)} {b : Option Value} {x : Int32} (hd : decode md.2.2.1 pc = .ok (.istore 8, 2)) (hc1 : jn2 a7 = true) (k : J G d md (pc + 2) (a0 :: a1 :: a2 :: a3 :: a4 :: a5 :: a6 :: a7 :: some (.int x) :: l) st n sh M r c0 s0 mc ms post) : J G d md pc (a0 :: a1 :: a2 :: a3 :: a4 :: a5 :: a6 :: a7 :: b :: l) (.int x :: st) n sh M r c0 s0 mc ms post := by
  intro p e R s m args below meth c Q C X H locs ls hW hS hl hc hs
  exact lv_istore (i := 8) C.1 C.2.1 hd hl.1 (hl.lt (i := 8) (by simp)) rfl (fun ls2 hl2 => k p e R s m args below meth c Q C X H locs ls2 hW hS (hl.set (v := .int x) 8 rfl (fun a ha w hw => by (have : a = 7 := by omega); subst this; simp at hw; subst hw; exact hc1) (fun j hj => by match j with
    | 0 => rfl
    | 1 => rfl
    | 2 => rfl
    | 3 => rfl
    | 4 => rfl
    | 5 => rfl
    | 6 => rfl
    | 7 => rfl
    | 8 => exact absurd rfl hj
    | j + 9 => rfl) (fun w hw => by simp at hw; exact hw.symm) hl2) hc hs)
theorem J_astore_8 {a0 a1 a2 a3 a4 a5 a6 a7 : Option Value} {l : List (Option Value)} {b : Option Value} {x : Nat} (hd : decode md.2.2.1 pc = .ok (.astore 8, 2)) (hc1 : jn2 a7 = true) (k : J G d md (pc + 2) (a0 :: a1 :: a2 :: a3 :: a4 :: a5 :: a6 :: a7 :: some (.ref x) :: l) st n sh M r c0 s0 mc ms post) : J G d md pc (a0 :: a1 :: a2 :: a3 :: a4 :: a5 :: a6 :: a7 :: b :: l) (.ref x :: st) n sh M r c0 s0 mc ms post := by
  intro p e R s m args below meth c Q C X H locs ls hW hS hl hc hs
  exact lv_astore (i := 8) C.1 C.2.1 hd hl.1 (hl.lt (i := 8) (by simp)) rfl (fun ls2 hl2 => k p e R s m args below meth c Q C X H locs ls2 hW hS (hl.set (v := .ref x) 8 rfl (fun a ha w hw => by (have : a = 7 := by omega); subst this; simp at hw; subst hw; exact hc1) (fun j hj => by match j with
    | 0 => rfl
    | 1 => rfl
    | 2 => rfl
    | 3 => rfl
    | 4 => rfl
    | 5 => rfl
    | 6 => rfl
    | 7 => rfl
    | 8 => exact absurd rfl hj
    | j + 9 => rfl) (fun w hw => by simp at hw; exact hw.symm) hl2) hc hs)
theorem J_iinc_8 {a0 a1 a2 a3 a4 a5 a6 a7 : Option Value} {l : List (Option Value)} {x : Int32} {q : Int} (v : Int32) (hd : decode md.2.2.1 pc = .ok (.iinc 8 q, 3)) (hv : Int32.ofInt q = v) (hc1 : jn2 a7 = true) (k : J G d md (pc + 3) (a0 :: a1 :: a2 :: a3 :: a4 :: a5 :: a6 :: a7 :: some (.int (x + v)) :: l) st n sh M r c0 s0 mc ms post) : J G d md pc (a0 :: a1 :: a2 :: a3 :: a4 :: a5 :: a6 :: a7 :: some (.int x) :: l) st n sh M r c0 s0 mc ms post := by
  intro p e R s m args below meth c Q C X H locs ls hW hS hl hc hs
  obtain ⟨t, ht⟩ := List.getElem?_of_mem (jtoL_get (jad G) (a0 :: a1 :: a2 :: a3 :: a4 :: a5 :: a6 :: a7 :: some (.int x) :: l) 0 8 (.int x) rfl)
  exact lv_iinc C.1 C.2.1 hd hl.1 (k := t) (x := x) (v := x + v) (by rw [ht, Nat.zero_add]; rfl) (by rw [hv]) (hl.lt (i := 8) (by simp)) rfl (fun ls2 hl2 => k p e R s m args below meth c Q C X H locs ls2 hW hS (hl.set (v := .int (x + v)) 8 rfl (fun a ha w hw => by (have : a = 7 := by omega); subst this; simp at hw; subst hw; exact hc1) (fun j hj => by match j with
    | 0 => rfl
    | 1 => rfl
    | 2 => rfl
    | 3 => rfl
    | 4 => rfl
    | 5 => rfl
    | 6 => rfl
    | 7 => rfl
    | 8 => exact absurd rfl hj
    | j + 9 => rfl) (fun w hw => by simp at hw; exact hw.symm) hl2) hc hs)
theorem J_iload_9 {a0 a1 a2 a3 a4 a5 a6 a7 a8 : Option Value} {l : List (Option Value)} {x : Int32} (hd : decode md.2.2.1 pc = .ok (.iload 9, 2)) (k : J G d md (pc + 2) (a0 :: a1 :: a2 :: a3 :: a4 :: a5 :: a6 :: a7 :: a8 :: some (.int x) :: l) (.int x :: st) n sh M r c0 s0 mc ms post) : J G d md pc (a0 :: a1 :: a2 :: a3 :: a4 :: a5 :: a6 :: a7 :: a8 :: some (.int x) :: l) st n sh M r c0 s0 mc ms post := by
  intro p e R s m args below meth c Q C X H locs ls hW hS hl hc hs
  exact lv_iload C.1 C.2.1 hd (hl.at 9 rfl) (k p e R s m args below meth c Q C X H locs ls hW hS hl hc hs)
theorem J_aload_9 {a0 a1 a2 a3 a4 a5 a6 a7 a8 : Option Value} {l : List (Option Value)} {x : Nat} (hd : decode md.2.2.1 pc = .ok (.aload 9, 2)) (k : J G d md (pc + 2) (a0 :: a1 :: a2 :: a3 :: a4 :: a5 :: a6 :: a7 :: a8 :: some (.ref x) :: l) (.ref x :: st) n sh M r c0 s0 mc ms post) : J G d md pc (a0 :: a1 :: a2 :: a3 :: a4 :: a5 :: a6 :: a7 :: a8 :: some (.ref x) :: l) st n sh M r c0 s0 mc ms post := by
  intro p e R s m args below meth c Q C X H locs ls hW hS hl hc hs
  exact lv_aload C.1 C.2.1 hd (hl.at 9 rfl) (k p e R s m args below meth c Q C X H locs ls hW hS hl hc hs)
theorem J_lload_9 {a0 a1 a2 a3 a4 a5 a6 a7 a8 : Option Value} {l : List (Option Value)} {x : Int64} (hd : decode md.2.2.1 pc = .ok (.lload 9, 2)) (k : J G d md (pc + 2) (a0 :: a1 :: a2 :: a3 :: a4 :: a5 :: a6 :: a7 :: a8 :: some (.long x) :: l) (.long x :: st) n sh M r c0 s0 mc ms post) : J G d md pc (a0 :: a1 :: a2 :: a3 :: a4 :: a5 :: a6 :: a7 :: a8 :: some (.long x) :: l) st n sh M r c0 s0 mc ms post := by
  intro p e R s m args below meth c Q C X H locs ls hW hS hl hc hs
  exact lv_lload C.1 C.2.1 hd (hl.at 9 rfl) (k p e R s m args below meth c Q C X H locs ls hW hS hl hc hs)
theorem J_istore_9 {a0 a1 a2 a3 a4 a5 a6 a7 a8 : Option Value} {l : List (Option Value)} {b : Option Value} {x : Int32} (hd : decode md.2.2.1 pc = .ok (.istore 9, 2)) (hc1 : jn2 a8 = true) (k : J G d md (pc + 2) (a0 :: a1 :: a2 :: a3 :: a4 :: a5 :: a6 :: a7 :: a8 :: some (.int x) :: l) st n sh M r c0 s0 mc ms post) : J G d md pc (a0 :: a1 :: a2 :: a3 :: a4 :: a5 :: a6 :: a7 :: a8 :: b :: l) (.int x :: st) n sh M r c0 s0 mc ms post := by
  intro p e R s m args below meth c Q C X H locs ls hW hS hl hc hs
  exact lv_istore (i := 9) C.1 C.2.1 hd hl.1 (hl.lt (i := 9) (by simp)) rfl (fun ls2 hl2 => k p e R s m args below meth c Q C X H locs ls2 hW hS (hl.set (v := .int x) 9 rfl (fun a ha w hw => by (have : a = 8 := by omega); subst this; simp at hw; subst hw; exact hc1) (fun j hj => by match j with
    | 0 => rfl
    | 1 => rfl
    | 2 => rfl
    | 3 => rfl
    | 4 => rfl
    | 5 => rfl
    | 6 => rfl
    | 7 => rfl
    | 8 => rfl
    | 9 => exact absurd rfl hj
    | j + 10 => rfl) (fun w hw => by simp at hw; exact hw.symm) hl2) hc hs)
theorem J_astore_9 {a0 a1 a2 a3 a4 a5 a6 a7 a8 : Option Value} {l : List (Option Value)} {b : Option Value} {x : Nat} (hd : decode md.2.2.1 pc = .ok (.astore 9, 2)) (hc1 : jn2 a8 = true) (k : J G d md (pc + 2) (a0 :: a1 :: a2 :: a3 :: a4 :: a5 :: a6 :: a7 :: a8 :: some (.ref x) :: l) st n sh M r c0 s0 mc ms post) : J G d md pc (a0 :: a1 :: a2 :: a3 :: a4 :: a5 :: a6 :: a7 :: a8 :: b :: l) (.ref x :: st) n sh M r c0 s0 mc ms post := by
  intro p e R s m args below meth c Q C X H locs ls hW hS hl hc hs
  exact lv_astore (i := 9) C.1 C.2.1 hd hl.1 (hl.lt (i := 9) (by simp)) rfl (fun ls2 hl2 => k p e R s m args below meth c Q C X H locs ls2 hW hS (hl.set (v := .ref x) 9 rfl (fun a ha w hw => by (have : a = 8 := by omega); subst this; simp at hw; subst hw; exact hc1) (fun j hj => by match j with
    | 0 => rfl
    | 1 => rfl
    | 2 => rfl
    | 3 => rfl
    | 4 => rfl
    | 5 => rfl
    | 6 => rfl
    | 7 => rfl
    | 8 => rfl
    | 9 => exact absurd rfl hj
    | j + 10 => rfl) (fun w hw => by simp at hw; exact hw.symm) hl2) hc hs)
theorem J_iinc_9 {a0 a1 a2 a3 a4 a5 a6 a7 a8 : Option Value} {l : List (Option Value)} {x : Int32} {q : Int} (v : Int32) (hd : decode md.2.2.1 pc = .ok (.iinc 9 q, 3)) (hv : Int32.ofInt q = v) (hc1 : jn2 a8 = true) (k : J G d md (pc + 3) (a0 :: a1 :: a2 :: a3 :: a4 :: a5 :: a6 :: a7 :: a8 :: some (.int (x + v)) :: l) st n sh M r c0 s0 mc ms post) : J G d md pc (a0 :: a1 :: a2 :: a3 :: a4 :: a5 :: a6 :: a7 :: a8 :: some (.int x) :: l) st n sh M r c0 s0 mc ms post := by
  intro p e R s m args below meth c Q C X H locs ls hW hS hl hc hs
  obtain ⟨t, ht⟩ := List.getElem?_of_mem (jtoL_get (jad G) (a0 :: a1 :: a2 :: a3 :: a4 :: a5 :: a6 :: a7 :: a8 :: some (.int x) :: l) 0 9 (.int x) rfl)
  exact lv_iinc C.1 C.2.1 hd hl.1 (k := t) (x := x) (v := x + v) (by rw [ht, Nat.zero_add]; rfl) (by rw [hv]) (hl.lt (i := 9) (by simp)) rfl (fun ls2 hl2 => k p e R s m args below meth c Q C X H locs ls2 hW hS (hl.set (v := .int (x + v)) 9 rfl (fun a ha w hw => by (have : a = 8 := by omega); subst this; simp at hw; subst hw; exact hc1) (fun j hj => by match j with
    | 0 => rfl
    | 1 => rfl
    | 2 => rfl
    | 3 => rfl
    | 4 => rfl
    | 5 => rfl
    | 6 => rfl
    | 7 => rfl
    | 8 => rfl
    | 9 => exact absurd rfl hj
    | j + 10 => rfl) (fun w hw => by simp at hw; exact hw.symm) hl2) hc hs)
theorem J_iload_10 {a0 a1 a2 a3 a4 a5 a6 a7 a8 a9 : Option Value} {l : List (Option Value)} {x : Int32} (hd : decode md.2.2.1 pc = .ok (.iload 10, 2)) (k : J G d md (pc + 2) (a0 :: a1 :: a2 :: a3 :: a4 :: a5 :: a6 :: a7 :: a8 :: a9 :: some (.int x) :: l) (.int x :: st) n sh M r c0 s0 mc ms post) : J G d md pc (a0 :: a1 :: a2 :: a3 :: a4 :: a5 :: a6 :: a7 :: a8 :: a9 :: some (.int x) :: l) st n sh M r c0 s0 mc ms post := by
  intro p e R s m args below meth c Q C X H locs ls hW hS hl hc hs
  exact lv_iload C.1 C.2.1 hd (hl.at 10 rfl) (k p e R s m args below meth c Q C X H locs ls hW hS hl hc hs)
theorem J_aload_10 {a0 a1 a2 a3 a4 a5 a6 a7 a8 a9 : Option Value} {l : List (Option Value)} {x : Nat} (hd : decode md.2.2.1 pc = .ok (.aload 10, 2)) (k : J G d md (pc + 2) (a0 :: a1 :: a2 :: a3 :: a4 :: a5 :: a6 :: a7 :: a8 :: a9 :: some (.ref x) :: l) (.ref x :: st) n sh M r c0 s0 mc ms post) : J G d md pc (a0 :: a1 :: a2 :: a3 :: a4 :: a5 :: a6 :: a7 :: a8 :: a9 :: some (.ref x) :: l) st n sh M r c0 s0 mc ms post := by
  intro p e R s m args below meth c Q C X H locs ls hW hS hl hc hs
  exact lv_aload C.1 C.2.1 hd (hl.at 10 rfl) (k p e R s m args below meth c Q C X H locs ls hW hS hl hc hs)
theorem J_lload_10 {a0 a1 a2 a3 a4 a5 a6 a7 a8 a9 : Option Value} {l : List (Option Value)} {x : Int64} (hd : decode md.2.2.1 pc = .ok (.lload 10, 2)) (k : J G d md (pc + 2) (a0 :: a1 :: a2 :: a3 :: a4 :: a5 :: a6 :: a7 :: a8 :: a9 :: some (.long x) :: l) (.long x :: st) n sh M r c0 s0 mc ms post) : J G d md pc (a0 :: a1 :: a2 :: a3 :: a4 :: a5 :: a6 :: a7 :: a8 :: a9 :: some (.long x) :: l) st n sh M r c0 s0 mc ms post := by
  intro p e R s m args below meth c Q C X H locs ls hW hS hl hc hs
  exact lv_lload C.1 C.2.1 hd (hl.at 10 rfl) (k p e R s m args below meth c Q C X H locs ls hW hS hl hc hs)
theorem J_istore_10 {a0 a1 a2 a3 a4 a5 a6 a7 a8 a9 : Option Value} {l : List (Option Value)} {b : Option Value} {x : Int32} (hd : decode md.2.2.1 pc = .ok (.istore 10, 2)) (hc1 : jn2 a9 = true) (k : J G d md (pc + 2) (a0 :: a1 :: a2 :: a3 :: a4 :: a5 :: a6 :: a7 :: a8 :: a9 :: some (.int x) :: l) st n sh M r c0 s0 mc ms post) : J G d md pc (a0 :: a1 :: a2 :: a3 :: a4 :: a5 :: a6 :: a7 :: a8 :: a9 :: b :: l) (.int x :: st) n sh M r c0 s0 mc ms post := by
  intro p e R s m args below meth c Q C X H locs ls hW hS hl hc hs
  exact lv_istore (i := 10) C.1 C.2.1 hd hl.1 (hl.lt (i := 10) (by simp)) rfl (fun ls2 hl2 => k p e R s m args below meth c Q C X H locs ls2 hW hS (hl.set (v := .int x) 10 rfl (fun a ha w hw => by (have : a = 9 := by omega); subst this; simp at hw; subst hw; exact hc1) (fun j hj => by match j with
    | 0 => rfl
    | 1 => rfl
    | 2 => rfl
    | 3 => rfl
    | 4 => rfl
    | 5 => rfl
    | 6 => rfl
    | 7 => rfl
    | 8 => rfl
    | 9 => rfl
    | 10 => exact absurd rfl hj
    | j + 11 => rfl) (fun w hw => by simp at hw; exact hw.symm) hl2) hc hs)
theorem J_astore_10 {a0 a1 a2 a3 a4 a5 a6 a7 a8 a9 : Option Value} {l : List (Option Value)} {b : Option Value} {x : Nat} (hd : decode md.2.2.1 pc = .ok (.astore 10, 2)) (hc1 : jn2 a9 = true) (k : J G d md (pc + 2) (a0 :: a1 :: a2 :: a3 :: a4 :: a5 :: a6 :: a7 :: a8 :: a9 :: some (.ref x) :: l) st n sh M r c0 s0 mc ms post) : J G d md pc (a0 :: a1 :: a2 :: a3 :: a4 :: a5 :: a6 :: a7 :: a8 :: a9 :: b :: l) (.ref x :: st) n sh M r c0 s0 mc ms post := by
  intro p e R s m args below meth c Q C X H locs ls hW hS hl hc hs
  exact lv_astore (i := 10) C.1 C.2.1 hd hl.1 (hl.lt (i := 10) (by simp)) rfl (fun ls2 hl2 => k p e R s m args below meth c Q C X H locs ls2 hW hS (hl.set (v := .ref x) 10 rfl (fun a ha w hw => by (have : a = 9 := by omega); subst this; simp at hw; subst hw; exact hc1) (fun j hj => by match j with
    | 0 => rfl
    | 1 => rfl
    | 2 => rfl
    | 3 => rfl
    | 4 => rfl
    | 5 => rfl
    | 6 => rfl
    | 7 => rfl
    | 8 => rfl
    | 9 => rfl
    | 10 => exact absurd rfl hj
    | j + 11 => rfl) (fun w hw => by simp at hw; exact hw.symm) hl2) hc hs)
theorem J_iinc_10 {a0 a1 a2 a3 a4 a5 a6 a7 a8 a9 : Option Value} {l : List (Option Value)} {x : Int32} {q : Int} (v : Int32) (hd : decode md.2.2.1 pc = .ok (.iinc 10 q, 3)) (hv : Int32.ofInt q = v) (hc1 : jn2 a9 = true) (k : J G d md (pc + 3) (a0 :: a1 :: a2 :: a3 :: a4 :: a5 :: a6 :: a7 :: a8 :: a9 :: some (.int (x + v)) :: l) st n sh M r c0 s0 mc ms post) : J G d md pc (a0 :: a1 :: a2 :: a3 :: a4 :: a5 :: a6 :: a7 :: a8 :: a9 :: some (.int x) :: l) st n sh M r c0 s0 mc ms post := by
  intro p e R s m args below meth c Q C X H locs ls hW hS hl hc hs
  obtain ⟨t, ht⟩ := List.getElem?_of_mem (jtoL_get (jad G) (a0 :: a1 :: a2 :: a3 :: a4 :: a5 :: a6 :: a7 :: a8 :: a9 :: some (.int x) :: l) 0 10 (.int x) rfl)
  exact lv_iinc C.1 C.2.1 hd hl.1 (k := t) (x := x) (v := x + v) (by rw [ht, Nat.zero_add]; rfl) (by rw [hv]) (hl.lt (i := 10) (by simp)) rfl (fun ls2 hl2 => k p e R s m args below meth c Q C X H locs ls2 hW hS (hl.set (v := .int (x + v)) 10 rfl (fun a ha w hw => by (have : a = 9 := by omega); subst this; simp at hw; subst hw; exact hc1) (fun j hj => by match j with
    | 0 => rfl
    | 1 => rfl
    | 2 => rfl
    | 3 => rfl
    | 4 => rfl
    | 5 => rfl
    | 6 => rfl
    | 7 => rfl
    | 8 => rfl
    | 9 => rfl
    | 10 => exact absurd rfl hj
    | j + 11 => rfl) (fun w hw => by simp at hw; exact hw.symm) hl2) hc hs)
theorem J_iload_11 {a0 a1 a2 a3 a4 a5 a6 a7 a8 a9 a10 : Option Value} {l : List (Option Value)} {x : Int32} (hd : decode md.2.2.1 pc = .ok (.iload 11, 2)) (k : J G d md (pc + 2) (a0 :: a1 :: a2 :: a3 :: a4 :: a5 :: a6 :: a7 :: a8 :: a9 :: a10 :: some (.int x) :: l) (.int x :: st) n sh M r c0 s0 mc ms post) : J G d md pc (a0 :: a1 :: a2 :: a3 :: a4 :: a5 :: a6 :: a7 :: a8 :: a9 :: a10 :: some (.int x) :: l) st n sh M r c0 s0 mc ms post := by
  intro p e R s m args below meth c Q C X H locs ls hW hS hl hc hs
  exact lv_iload C.1 C.2.1 hd (hl.at 11 rfl) (k p e R s m args below meth c Q C X H locs ls hW hS hl hc hs)
theorem J_aload_11 {a0 a1 a2 a3 a4 a5 a6 a7 a8 a9 a10 : Option Value} {l : List (Option Value)} {x : Nat} (hd : decode md.2.2.1 pc = .ok (.aload 11, 2)) (k : J G d md (pc + 2) (a0 :: a1 :: a2 :: a3 :: a4 :: a5 :: a6 :: a7 :: a8 :: a9 :: a10 :: some (.ref x) :: l) (.ref x :: st) n sh M r c0 s0 mc ms post) : J G d md pc (a0 :: a1 :: a2 :: a3 :: a4 :: a5 :: a6 :: a7 :: a8 :: a9 :: a10 :: some (.ref x) :: l) st n sh M r c0 s0 mc ms post := by
  intro p e R s m args below meth c Q C X H locs ls hW hS hl hc hs
  exact lv_aload C.1 C.2.1 hd (hl.at 11 rfl) (k p e R s m args below meth c Q C X H locs ls hW hS hl hc hs)
theorem J_lload_11 {a0 a1 a2 a3 a4 a5 a6 a7 a8 a9 a10 : Option Value} {l : List (Option Value)} {x : Int64} (hd : decode md.2.2.1 pc = .ok (.lload 11, 2)) (k : J G d md (pc + 2) (a0 :: a1 :: a2 :: a3 :: a4 :: a5 :: a6 :: a7 :: a8 :: a9 :: a10 :: some (.long x) :: l) (.long x :: st) n sh M r c0 s0 mc ms post) : J G d md pc (a0 :: a1 :: a2 :: a3 :: a4 :: a5 :: a6 :: a7 :: a8 :: a9 :: a10 :: some (.long x) :: l) st n sh M r c0 s0 mc ms post := by
  intro p e R s m args below meth c Q C X H locs ls hW hS hl hc hs
  exact lv_lload C.1 C.2.1 hd (hl.at 11 rfl) (k p e R s m args below meth c Q C X H locs ls hW hS hl hc hs)
theorem J_istore_11 {a0 a1 a2 a3 a4 a5 a6 a7 a8 a9 a10 : Option Value} {l : List (Option Value)} {b : Option Value} {x : Int32} (hd : decode md.2.2.1 pc = .ok (.istore 11, 2)) (hc1 : jn2 a10 = true) (k : J G d md (pc + 2) (a0 :: a1 :: a2 :: a3 :: a4 :: a5 :: a6 :: a7 :: a8 :: a9 :: a10 :: some (.int x) :: l) st n sh M r c0 s0 mc ms post) : J G d md pc (a0 :: a1 :: a2 :: a3 :: a4 :: a5 :: a6 :: a7 :: a8 :: a9 :: a10 :: b :: l) (.int x :: st) n sh M r c0 s0 mc ms post := by
  intro p e R s m args below meth c Q C X H locs ls hW hS hl hc hs
  exact lv_istore (i := 11) C.1 C.2.1 hd hl.1 (hl.lt (i := 11) (by simp)) rfl (fun ls2 hl2 => k p e R s m args below meth c Q C X H locs ls2 hW hS (hl.set (v := .int x) 11 rfl (fun a ha w hw => by (have : a = 10 := by omega); subst this; simp at hw; subst hw; exact hc1) (fun j hj => by match j with
    | 0 => rfl
    | 1 => rfl
    | 2 => rfl
    | 3 => rfl
    | 4 => rfl
    | 5 => rfl
    | 6 => rfl
    | 7 => rfl
    | 8 => rfl
    | 9 => rfl
    | 10 => rfl
    | 11 => exact absurd rfl hj
    | j + 12 => rfl) (fun w hw => by simp at hw; exact hw.symm) hl2) hc hs)
theorem J_astore_11 {a0 a1 a2 a3 a4 a5 a6 a7 a8 a9 a10 : Option Value} {l : List (Option Value)} {b : Option Value} {x : Nat} (hd : decode md.2.2.1 pc = .ok (.astore 11, 2)) (hc1 : jn2 a10 = true) (k : J G d md (pc + 2) (a0 :: a1 :: a2 :: a3 :: a4 :: a5 :: a6 :: a7 :: a8 :: a9 :: a10 :: some (.ref x) :: l) st n sh M r c0 s0 mc ms post) : J G d md pc (a0 :: a1 :: a2 :: a3 :: a4 :: a5 :: a6 :: a7 :: a8 :: a9 :: a10 :: b :: l) (.ref x :: st) n sh M r c0 s0 mc ms post := by
  intro p e R s m args below meth c Q C X H locs ls hW hS hl hc hs
  exact lv_astore (i := 11) C.1 C.2.1 hd hl.1 (hl.lt (i := 11) (by simp)) rfl (fun ls2 hl2 => k p e R s m args below meth c Q C X H locs ls2 hW hS (hl.set (v := .ref x) 11 rfl (fun a ha w hw => by (have : a = 10 := by omega); subst this; simp at hw; subst hw; exact hc1) (fun j hj => by match j with
    | 0 => rfl
    | 1 => rfl
    | 2 => rfl
    | 3 => rfl
    | 4 => rfl
    | 5 => rfl
    | 6 => rfl
    | 7 => rfl
    | 8 => rfl
    | 9 => rfl
    | 10 => rfl
    | 11 => exact absurd rfl hj
    | j + 12 => rfl) (fun w hw => by simp at hw; exact hw.symm) hl2) hc hs)
theorem J_iinc_11 {a0 a1 a2 a3 a4 a5 a6 a7 a8 a9 a10 : Option Value} {l : List (Option Value)} {x : Int32} {q : Int} (v : Int32) (hd : decode md.2.2.1 pc = .ok (.iinc 11 q, 3)) (hv : Int32.ofInt q = v) (hc1 : jn2 a10 = true) (k : J G d md (pc + 3) (a0 :: a1 :: a2 :: a3 :: a4 :: a5 :: a6 :: a7 :: a8 :: a9 :: a10 :: some (.int (x + v)) :: l) st n sh M r c0 s0 mc ms post) : J G d md pc (a0 :: a1 :: a2 :: a3 :: a4 :: a5 :: a6 :: a7 :: a8 :: a9 :: a10 :: some (.int x) :: l) st n sh M r c0 s0 mc ms post := by
  intro p e R s m args below meth c Q C X H locs ls hW hS hl hc hs
  obtain ⟨t, ht⟩ := List.getElem?_of_mem (jtoL_get (jad G) (a0 :: a1 :: a2 :: a3 :: a4 :: a5 :: a6 :: a7 :: a8 :: a9 :: a10 :: some (.int x) :: l) 0 11 (.int x) rfl)
  exact lv_iinc C.1 C.2.1 hd hl.1 (k := t) (x := x) (v := x + v) (by rw [ht, Nat.zero_add]; rfl) (by rw [hv]) (hl.lt (i := 11) (by simp)) rfl (fun ls2 hl2 => k p e R s m args below meth c Q C X H locs ls2 hW hS (hl.set (v := .int (x + v)) 11 rfl (fun a ha w hw => by (have : a = 10 := by omega); subst this; simp at hw; subst hw; exact hc1) (fun j hj => by match j with
    | 0 => rfl
    | 1 => rfl
    | 2 => rfl
    | 3 => rfl
    | 4 => rfl
    | 5 => rfl
    | 6 => rfl
    | 7 => rfl
    | 8 => rfl
    | 9 => rfl
    | 10 => rfl
    | 11 => exact absurd rfl hj
    | j + 12 => rfl) (fun w hw => by simp at hw; exact hw.symm) hl2) hc hs)
theorem J_iload_12 {a0 a1 a2 a3 a4 a5 a6 a7 a8 a9 a10 a11 : Option Value} {l : List (Option Value)} {x : Int32} (hd : decode md.2.2.1 pc = .ok (.iload 12, 2)) (k : J G d md (pc + 2) (a0 :: a1 :: a2 :: a3 :: a4 :: a5 :: a6 :: a7 :: a8 :: a9 :: a10 :: a11 :: some (.int x) :: l) (.int x :: st) n sh M r c0 s0 mc ms post) : J G d md pc (a0 :: a1 :: a2 :: a3 :: a4 :: a5 :: a6 :: a7 :: a8 :: a9 :: a10 :: a11 :: some (.int x) :: l) st n sh M r c0 s0 mc ms post := by
  intro p e R s m args below meth c Q C X H locs ls hW hS hl hc hs
  exact lv_iload C.1 C.2.1 hd (hl.at 12 rfl) (k p e R s m args below meth c Q C X H locs ls hW hS hl hc hs)
theorem J_aload_12 {a0 a1 a2 a3 a4 a5 a6 a7 a8 a9 a10 a11 : Option Value} {l : List (Option Value)} {x : Nat} (hd : decode md.2.2.1 pc = .ok (.aload 12, 2)) (k : J G d md (pc + 2) (a0 :: a1 :: a2 :: a3 :: a4 :: a5 :: a6 :: a7 :: a8 :: a9 :: a10 :: a11 :: some (.ref x) :: l) (.ref x :: st) n sh M r c0 s0 mc ms post) : J G d md pc (a0 :: a1 :: a2 :: a3 :: a4 :: a5 :: a6 :: a7 :: a8 :: a9 :: a10 :: a11 :: some (.ref x) :: l) st n sh M r c0 s0 mc ms post := by
  intro p e R s m args below meth c Q C X H locs ls hW hS hl hc hs
  exact lv_aload C.1 C.2.1 hd (hl.at 12 rfl) (k p e R s m args below meth c Q C X H locs ls hW hS hl hc hs)
theorem J_lload_12 {a0 a1 a2 a3 a4 a5 a6 a7 a8 a9 a10 a11 : Option Value} {l : List (Option Value)} {x : Int64} (hd : decode md.2.2.1 pc = .ok (.lload 12, 2)) (k : J G d md (pc + 2) (a0 :: a1 :: a2 :: a3 :: a4 :: a5 :: a6 :: a7 :: a8 :: a9 :: a10 :: a11 :: some (.long x) :: l) (.long x :: st) n sh M r c0 s0 mc ms post) : J G d md pc (a0 :: a1 :: a2 :: a3 :: a4 :: a5 :: a6 :: a7 :: a8 :: a9 :: a10 :: a11 :: some (.long x) :: l) st n sh M r c0 s0 mc ms post := by
  intro p e R s m args below meth c Q C X H locs ls hW hS hl hc hs
  exact lv_lload C.1 C.2.1 hd (hl.at 12 rfl) (k p e R s m args below meth c Q C X H locs ls hW hS hl hc hs)
theorem J_istore_12 {a0 a1 a2 a3 a4 a5 a6 a7 a8 a9 a10 a11 : Option Value} {l : List (Option Value)} {b : Option Value} {x : Int32} (hd : decode md.2.2.1 pc = .ok (.istore 12, 2)) (hc1 : jn2 a11 = true) (k : J G d md (pc + 2) (a0 :: a1 :: a2 :: a3 :: a4 :: a5 :: a6 :: a7 :: a8 :: a9 :: a10 :: a11 :: some (.int x) :: l) st n sh M r c0 s0 mc ms post) : J G d md pc (a0 :: a1 :: a2 :: a3 :: a4 :: a5 :: a6 :: a7 :: a8 :: a9 :: a10 :: a11 :: b :: l) (.int x :: st) n sh M r c0 s0 mc ms post := by
  intro p e R s m args below meth c Q C X H locs ls hW hS hl hc hs
  exact lv_istore (i := 12) C.1 C.2.1 hd hl.1 (hl.lt (i := 12) (by simp)) rfl (fun ls2 hl2 => k p e R s m args below meth c Q C X H locs ls2 hW hS (hl.set (v := .int x) 12 rfl (fun a ha w hw => by (have : a = 11 := by omega); subst this; simp at hw; subst hw; exact hc1) (fun j hj => by match j with
    | 0 => rfl
    | 1 => rfl
    | 2 => rfl
    | 3 => rfl
    | 4 => rfl
    | 5 => rfl
    | 6 => rfl
    | 7 => rfl
    | 8 => rfl
    | 9 => rfl
    | 10 => rfl
    | 11 => rfl
    | 12 => exact absurd rfl hj
    | j + 13 => rfl) (fun w hw => by simp at hw; exact hw.symm) hl2) hc hs)
theorem J_astore_12 {a0 a1 a2 a3 a4 a5 a6 a7 a8 a9 a10 a11 : Option Value} {l : List (Option Value)} {b : Option Value} {x : Nat} (hd : decode md.2.2.1 pc = .ok (.astore 12, 2)) (hc1 : jn2 a11 = true) (k : J G d md (pc + 2) (a0 :: a1 :: a2 :: a3 :: a4 :: a5 :: a6 :: a7 :: a8 :: a9 :: a10 :: a11 :: some (.ref x) :: l) st n sh M r c0 s0 mc ms post) : J G d md pc (a0 :: a1 :: a2 :: a3 :: a4 :: a5 :: a6 :: a7 :: a8 :: a9 :: a10 :: a11 :: b :: l) (.ref x :: st) n sh M r c0 s0 mc ms post := by
  intro p e R s m args below meth c Q C X H locs ls hW hS hl hc hs
  exact lv_astore (i := 12) C.1 C.2.1 hd hl.1 (hl.lt (i := 12) (by simp)) rfl (fun ls2 hl2 => k p e R s m args below meth c Q C X H locs ls2 hW hS (hl.set (v := .ref x) 12 rfl (fun a ha w hw => by (have : a = 11 := by omega); subst this; simp at hw; subst hw; exact hc1) (fun j hj => by match j with
    | 0 => rfl
    | 1 => rfl
    | 2 => rfl
    | 3 => rfl
    | 4 => rfl
    | 5 => rfl
    | 6 => rfl
    | 7 => rfl
    | 8 => rfl
    | 9 => rfl
    | 10 => rfl
    | 11 => rfl
    | 12 => exact absurd rfl hj
    | j + 13 => rfl) (fun w hw => by simp at hw; exact hw.symm) hl2) hc hs)
theorem J_iinc_12 {a0 a1 a2 a3 a4 a5 a6 a7 a8 a9 a10 a11 : Option Value} {l : List (Option Value)} {x : Int32} {q : Int} (v : Int32) (hd : decode md.2.2.1 pc = .ok (.iinc 12 q, 3)) (hv : Int32.ofInt q = v) (hc1 : jn2 a11 = true) (k : J G d md (pc + 3) (a0 :: a1 :: a2 :: a3 :: a4 :: a5 :: a6 :: a7 :: a8 :: a9 :: a10 :: a11 :: some (.int (x + v)) :: l) st n sh M r c0 s0 mc ms post) : J G d md pc (a0 :: a1 :: a2 :: a3 :: a4 :: a5 :: a6 :: a7 :: a8 :: a9 :: a10 :: a11 :: some (.int x) :: l) st n sh M r c0 s0 mc ms post := by
  intro p e R s m args below meth c Q C X H locs ls hW hS hl hc hs
  obtain ⟨t, ht⟩ := List.getElem?_of_mem (jtoL_get (jad G) (a0 :: a1 :: a2 :: a3 :: a4 :: a5 :: a6 :: a7 :: a8 :: a9 :: a10 :: a11 :: some (.int x) :: l) 0 12 (.int x) rfl)
  exact lv_iinc C.1 C.2.1 hd hl.1 (k := t) (x := x) (v := x + v) (by rw [ht, Nat.zero_add]; rfl) (by rw [hv]) (hl.lt (i := 12) (by simp)) rfl (fun ls2 hl2 => k p e R s m args below meth c Q C X H locs ls2 hW hS (hl.set (v := .int (x + v)) 12 rfl (fun a ha w hw => by (have : a = 11 := by omega); subst this; simp at hw; subst hw; exact hc1) (fun j hj => by match j with
    | 0 => rfl
    | 1 => rfl
    | 2 => rfl
    | 3 => rfl
    | 4 => rfl
    | 5 => rfl
    | 6 => rfl
    | 7 => rfl
    | 8 => rfl
    | 9 => rfl
    | 10 => rfl
    | 11 => rfl
    | 12 => exact absurd rfl hj
    | j + 13 => rfl) (fun w hw => by simp at hw; exact hw.symm) hl2) hc hs)
theorem J_iload_13 {a0 a1 a2 a3 a4 a5 a6 a7 a8 a9 a10 a11 a12 : Option Value} {l : List (Option Value)} {x : Int32} (hd : decode md.2.2.1 pc = .ok (.iload 13, 2)) (k : J G d md (pc + 2) (a0 :: a1 :: a2 :: a3 :: a4 :: a5 :: a6 :: a7 :: a8 :: a9 :: a10 :: a11 :: a12 :: some (.int x) :: l) (.int x :: st) n sh M r c0 s0 mc ms post) : J G d md pc (a0 :: a1 :: a2 :: a3 :: a4 :: a5 :: a6 :: a7 :: a8 :: a9 :: a10 :: a11 :: a12 :: some (.int x) :: l) st n sh M r c0 s0 mc ms post := by
  intro p e R s m args below meth c Q C X H locs ls hW hS hl hc hs
  exact lv_iload C.1 C.2.1 hd (hl.at 13 rfl) (k p e R s m args below meth c Q C X H locs ls hW hS hl hc hs)
theorem J_aload_13 {a0 a1 a2 a3 a4 a5 a6 a7 a8 a9 a10 a11 a12 : Option Value} {l : List (Option Value)} {x : Nat} (hd : decode md.2.2.1 pc = .ok (.aload 13, 2)) (k : J G d md (pc + 2) (a0 :: a1 :: a2 :: a3 :: a4 :: a5 :: a6 :: a7 :: a8 :: a9 :: a10 :: a11 :: a12 :: some (.ref x) :: l) (.ref x :: st) n sh M r c0 s0 mc ms post) : J G d md pc (a0 :: a1 :: a2 :: a3 :: a4 :: a5 :: a6 :: a7 :: a8 :: a9 :: a10 :: a11 :: a12 :: some (.ref x) :: l) st n sh M r c0 s0 mc ms post := by
  intro p e R s m args below meth c Q C X H locs ls hW hS hl hc hs
  exact lv_aload C.1 C.2.1 hd (hl.at 13 rfl) (k p e R s m args below meth c Q C X H locs ls hW hS hl hc hs)
theorem J_lload_13 {a0 a1 a2 a3 a4 a5 a6 a7 a8 a9 a10 a11 a12 : Option Value} {l : List (Option Value)} {x : Int64} (hd : decode md.2.2.1 pc = .ok (.lload 13, 2)) (k : J G d md (pc + 2) (a0 :: a1 :: a2 :: a3 :: a4 :: a5 :: a6 :: a7 :: a8 :: a9 :: a10 :: a11 :: a12 :: some (.long x) :: l) (.long x :: st) n sh M r c0 s0 mc ms post) : J G d md pc (a0 :: a1 :: a2 :: a3 :: a4 :: a5 :: a6 :: a7 :: a8 :: a9 :: a10 :: a11 :: a12 :: some (.long x) :: l) st n sh M r c0 s0 mc ms post := by
  intro p e R s m args below meth c Q C X H locs ls hW hS hl hc hs
  exact lv_lload C.1 C.2.1 hd (hl.at 13 rfl) (k p e R s m args below meth c Q C X H locs ls hW hS hl hc hs)
theorem J_istore_13 {a0 a1 a2 a3 a4 a5 a6 a7 a8 a9 a10 a11 a12 : Option Value} {l : List (Option Value)} {b : Option Value} {x : Int32} (hd : decode md.2.2.1 pc = .ok (.istore 13, 2)) (hc1 : jn2 a12 = true) (k : J G d md (pc + 2) (a0 :: a1 :: a2 :: a3 :: a4 :: a5 :: a6 :: a7 :: a8 :: a9 :: a10 :: a11 :: a12 :: some (.int x) :: l) st n sh M r c0 s0 mc ms post) : J G d md pc (a0 :: a1 :: a2 :: a3 :: a4 :: a5 :: a6 :: a7 :: a8 :: a9 :: a10 :: a11 :: a12 :: b :: l) (.int x :: st) n sh M r c0 s0 mc ms post := by
  intro p e R s m args below meth c Q C X H locs ls hW hS hl hc hs
  exact lv_istore (i := 13) C.1 C.2.1 hd hl.1 (hl.lt (i := 13) (by simp)) rfl (fun ls2 hl2 => k p e R s m args below meth c Q C X H locs ls2 hW hS (hl.set (v := .int x) 13 rfl (fun a ha w hw => by (have : a = 12 := by omega); subst this; simp at hw; subst hw; exact hc1) (fun j hj => by match j with
    | 0 => rfl
    | 1 => rfl
    | 2 => rfl
    | 3 => rfl
    | 4 => rfl
    | 5 => rfl
    | 6 => rfl
    | 7 => rfl
    | 8 => rfl
    | 9 => rfl
    | 10 => rfl
    | 11 => rfl
    | 12 => rfl
    | 13 => exact absurd rfl hj
    | j + 14 => rfl) (fun w hw => by simp at hw; exact hw.symm) hl2) hc hs)
theorem J_astore_13 {a0 a1 a2 a3 a4 a5 a6 a7 a8 a9 a10 a11 a12 : Option Value} {l : List (Option Value)} {b : Option Value} {x : Nat} (hd : decode md.2.2.1 pc = .ok (.astore 13, 2)) (hc1 : jn2 a12 = true) (k : J G d md (pc + 2) (a0 :: a1 :: a2 :: a3 :: a4 :: a5 :: a6 :: a7 :: a8 :: a9 :: a10 :: a11 :: a12 :: some (.ref x) :: l) st n sh M r c0 s0 mc ms post) : J G d md pc (a0 :: a1 :: a2 :: a3 :: a4 :: a5 :: a6 :: a7 :: a8 :: a9 :: a10 :: a11 :: a12 :: b :: l) (.ref x :: st) n sh M r c0 s0 mc ms post := by
  intro p e R s m args below meth c Q C X H locs ls hW hS hl hc hs
  exact lv_astore (i := 13) C.1 C.2.1 hd hl.1 (hl.lt (i := 13) (by simp)) rfl (fun ls2 hl2 => k p e R s m args below meth c Q C X H locs ls2 hW hS (hl.set (v := .ref x) 13 rfl (fun a ha w hw => by (have : a = 12 := by omega); subst this; simp at hw; subst hw; exact hc1) (fun j hj => by match j with
    | 0 => rfl
    | 1 => rfl
    | 2 => rfl
    | 3 => rfl
    | 4 => rfl
    | 5 => rfl
    | 6 => rfl
    | 7 => rfl
    | 8 => rfl
    | 9 => rfl
    | 10 => rfl
    | 11 => rfl
    | 12 => rfl
    | 13 => exact absurd rfl hj
    | j + 14 => rfl) (fun w hw => by simp at hw; exact hw.symm) hl2) hc hs)
theorem J_iinc_13 {a0 a1 a2 a3 a4 a5 a6 a7 a8 a9 a10 a11 a12 : Option Value} {l : List (Option Value)} {x : Int32} {q : Int} (v : Int32) (hd : decode md.2.2.1 pc = .ok (.iinc 13 q, 3)) (hv : Int32.ofInt q = v) (hc1 : jn2 a12 = true) (k : J G d md (pc + 3) (a0 :: a1 :: a2 :: a3 :: a4 :: a5 :: a6 :: a7 :: a8 :: a9 :: a10 :: a11 :: a12 :: some (.int (x + v)) :: l) st n sh M r c0 s0 mc ms post) : J G d md pc (a0 :: a1 :: a2 :: a3 :: a4 :: a5 :: a6 :: a7 :: a8 :: a9 :: a10 :: a11 :: a12 :: some (.int x) :: l) st n sh M r c0 s0 mc ms post := by
  intro p e R s m args below meth c Q C X H locs ls hW hS hl hc hs
  obtain ⟨t, ht⟩ := List.getElem?_of_mem (jtoL_get (jad G) (a0 :: a1 :: a2 :: a3 :: a4 :: a5 :: a6 :: a7 :: a8 :: a9 :: a10 :: a11 :: a12 :: some (.int x) :: l) 0 13 (.int x) rfl)
  exact lv_iinc C.1 C.2.1 hd hl.1 (k := t) (x := x) (v := x + v) (by rw [ht, Nat.zero_add]; rfl) (by rw [hv]) (hl.lt (i := 13) (by simp)) rfl (fun ls2 hl2 => k p e R s m args below meth c Q C X H locs ls2 hW hS (hl.set (v := .int (x + v)) 13 rfl (fun a ha w hw => by (have : a = 12 := by omega); subst this; simp at hw; subst hw; exact hc1) (fun j hj => by match j with
    | 0 => rfl
    | 1 => rfl
    | 2 => rfl
    | 3 => rfl
    | 4 => rfl
    | 5 => rfl
    | 6 => rfl
    | 7 => rfl
    | 8 => rfl
    | 9 => rfl
    | 10 => rfl
    | 11 => rfl
    | 12 => rfl
    | 13 => exact absurd rfl hj
    | j + 14 => rfl) (fun w hw => by simp at hw; exact hw.symm) hl2) hc hs)
theorem J_iload_14 {a0 a1 a2 a3 a4 a5 a6 a7 a8 a9 a10 a11 a12 a13 : Option Value} {l : List (Option Value)} {x : Int32} (hd : decode md.2.2.1 pc = .ok (.iload 14, 2)) (k : J G d md (pc + 2) (a0 :: a1 :: a2 :: a3 :: a4 :: a5 :: a6 :: a7 :: a8 :: a9 :: a10 :: a11 :: a12 :: a13 :: some (.int x) :: l) (.int x :: st) n sh M r c0 s0 mc ms post) : J G d md pc (a0 :: a1 :: a2 :: a3 :: a4 :: a5 :: a6 :: a7 :: a8 :: a9 :: a10 :: a11 :: a12 :: a13 :: some (.int x) :: l) st n sh M r c0 s0 mc ms post := by
  intro p e R s m args below meth c Q C X H locs ls hW hS hl hc hs
  exact lv_iload C.1 C.2.1 hd (hl.at 14 rfl) (k p e R s m args below meth c Q C X H locs ls hW hS hl hc hs)
theorem J_aload_14 {a0 a1 a2 a3 a4 a5 a6 a7 a8 a9 a10 a11 a12 a13 : Option Value} {l : List (Option Value)} {x : Nat} (hd : decode md.2.2.1 pc = .ok (.aload 14, 2)) (k : J G d md (pc + 2) (a0 :: a1 :: a2 :: a3 :: a4 :: a5 :: a6 :: a7 :: a8 :: a9 :: a10 :: a11 :: a12 :: a13 :: some (.ref x) :: l) (.ref x :: st) n sh M r c0 s0 mc ms post) : J G d md pc (a0 :: a1 :: a2 :: a3 :: a4 :: a5 :: a6 :: a7 :: a8 :: a9 :: a10 :: a11 :: a12 :: a13 :: some (.ref x) :: l) st n sh M r c0 s0 mc ms post := by
  intro p e R s m args below meth c Q C X H locs ls hW hS hl hc hs
  exact lv_aload C.1 C.2.1 hd (hl.at 14 rfl) (k p e R s m args below meth c Q C X H locs ls hW hS hl hc hs)
theorem J_lload_14 {a0 a1 a2 a3 a4 a5 a6 a7 a8 a9 a10 a11 a12 a13 : Option Value} {l : List (Option Value)} {x : Int64} (hd : decode md.2.2.1 pc = .ok (.lload 14, 2)) (k : J G d md (pc + 2) (a0 :: a1 :: a2 :: a3 :: a4 :: a5 :: a6 :: a7 :: a8 :: a9 :: a10 :: a11 :: a12 :: a13 :: some (.long x) :: l) (.long x :: st) n sh M r c0 s0 mc ms post) : J G d md pc (a0 :: a1 :: a2 :: a3 :: a4 :: a5 :: a6 :: a7 :: a8 :: a9 :: a10 :: a11 :: a12 :: a13 :: some (.long x) :: l) st n sh M r c0 s0 mc ms post := by
  intro p e R s m args below meth c Q C X H locs ls hW hS hl hc hs
  exact lv_lload C.1 C.2.1 hd (hl.at 14 rfl) (k p e R s m args below meth c Q C X H locs ls hW hS hl hc hs)
theorem J_istore_14 {a0 a1 a2 a3 a4 a5 a6 a7 a8 a9 a10 a11 a12 a13 : Option Value} {l : List (Option Value)} {b : Option Value} {x : Int32} (hd : decode md.2.2.1 pc = .ok (.istore 14, 2)) (hc1 : jn2 a13 = true) (k : J G d md (pc + 2) (a0 :: a1 :: a2 :: a3 :: a4 :: a5 :: a6 :: a7 :: a8 :: a9 :: a10 :: a11 :: a12 :: a13 :: some (.int x) :: l) st n sh M r c0 s0 mc ms post) : J G d md pc (a0 :: a1 :: a2 :: a3 :: a4 :: a5 :: a6 :: a7 :: a8 :: a9 :: a10 :: a11 :: a12 :: a13 :: b :: l) (.int x :: st) n sh M r c0 s0 mc ms post := by
  intro p e R s m args below meth c Q C X H locs ls hW hS hl hc hs
  exact lv_istore (i := 14) C.1 C.2.1 hd hl.1 (hl.lt (i := 14) (by simp)) rfl (fun ls2 hl2 => k p e R s m args below meth c Q C X H locs ls2 hW hS (hl.set (v := .int x) 14 rfl (fun a ha w hw => by (have : a = 13 := by omega); subst this; simp at hw; subst hw; exact hc1) (fun j hj => by match j with
    | 0 => rfl
    | 1 => rfl
    | 2 => rfl
    | 3 => rfl
    | 4 => rfl
    | 5 => rfl
    | 6 => rfl
    | 7 => rfl
    | 8 => rfl
    | 9 => rfl
    | 10 => rfl
    | 11 => rfl
    | 12 => rfl
    | 13 => rfl
    | 14 => exact absurd rfl hj
    | j + 15 => rfl) (fun w hw => by simp at hw; exact hw.symm) hl2) hc hs)
theorem J_astore_14 {a0 a1 a2 a3 a4 a5 a6 a7 a8 a9 a10 a11 a12 a13 : Option Value} {l : List (Option Value)} {b : Option Value} {x : Nat} (hd : decode md.2.2.1 pc = .ok (.astore 14, 2)) (hc1 : jn2 a13 = true) (k : J G d md (pc + 2) (a0 :: a1 :: a2 :: a3 :: a4 :: a5 :: a6 :: a7 :: a8 :: a9 :: a10 :: a11 :: a12 :: a13 :: some (.ref x) :: l) st n sh M r c0 s0 mc ms post) : J G d md pc (a0 :: a1 :: a2 :: a3 :: a4 :: a5 :: a6 :: a7 :: a8 :: a9 :: a10 :: a11 :: a12 :: a13 :: b :: l) (.ref x :: st) n sh M r c0 s0 mc ms post := by
  intro p e R s m args below meth c Q C X H locs ls hW hS hl hc hs
  exact lv_astore (i := 14) C.1 C.2.1 hd hl.1 (hl.lt (i := 14) (by simp)) rfl (fun ls2 hl2 => k p e R s m args below meth c Q C X H locs ls2 hW hS (hl.set (v := .ref x) 14 rfl (fun a ha w hw => by (have : a = 13 := by omega); subst this; simp at hw; subst hw; exact hc1) (fun j hj => by match j with
    | 0 => rfl
    | 1 => rfl
    | 2 => rfl
    | 3 => rfl
    | 4 => rfl
    | 5 => rfl
    | 6 => rfl
    | 7 => rfl
    | 8 => rfl
    | 9 => rfl
    | 10 => rfl
    | 11 => rfl
    | 12 => rfl
    | 13 => rfl
    | 14 => exact absurd rfl hj
    | j + 15 => rfl) (fun w hw => by simp at hw; exact hw.symm) hl2) hc hs)
theorem J_iinc_14 {a0 a1 a2 a3 a4 a5 a6 a7 a8 a9 a10 a11 a12 a13 : Option Value} {l : List (Option Value)} {x : Int32} {q : Int} (v : Int32) (hd : decode md.2.2.1 pc = .ok (.iinc 14 q, 3)) (hv : Int32.ofInt q = v) (hc1 : jn2 a13 = true) (k : J G d md (pc + 3) (a0 :: a1 :: a2 :: a3 :: a4 :: a5 :: a6 :: a7 :: a8 :: a9 :: a10 :: a11 :: a12 :: a13 :: some (.int (x + v)) :: l) st n sh M r c0 s0 mc ms post) : J G d md pc (a0 :: a1 :: a2 :: a3 :: a4 :: a5 :: a6 :: a7 :: a8 :: a9 :: a10 :: a11 :: a12 :: a13 :: some (.int x) :: l) st n sh M r c0 s0 mc ms post := by
  intro p e R s m args below meth c Q C X H locs ls hW hS hl hc hs
  obtain ⟨t, ht⟩ := List.getElem?_of_mem (jtoL_get (jad G) (a0 :: a1 :: a2 :: a3 :: a4 :: a5 :: a6 :: a7 :: a8 :: a9 :: a10 :: a11 :: a12 :: a13 :: some (.int x) :: l) 0 14 (.int x) rfl)
  exact lv_iinc C.1 C.2.1 hd hl.1 (k := t) (x := x) (v := x + v) (by rw [ht, Nat.zero_add]; rfl) (by rw [hv]) (hl.lt (i := 14) (by simp)) rfl (fun ls2 hl2 => k p e R s m args below meth c Q C X H locs ls2 hW hS (hl.set (v := .int (x + v)) 14 rfl (fun a ha w hw => by (have : a = 13 := by omega); subst this; simp at hw; subst hw; exact hc1) (fun j hj => by match j with
    | 0 => rfl
    | 1 => rfl
    | 2 => rfl
    | 3 => rfl
    | 4 => rfl
    | 5 => rfl
    | 6 => rfl
    | 7 => rfl
    | 8 => rfl
    | 9 => rfl
    | 10 => rfl
    | 11 => rfl
    | 12 => rfl
    | 13 => rfl
    | 14 => exact absurd rfl hj
    | j + 15 => rfl) (fun w hw => by simp at hw; exact hw.symm) hl2) hc hs)
theorem J_iload_15 {a0 a1 a2 a3 a4 a5 a6 a7 a8 a9 a10 a11 a12 a13 a14 : Option Value} {l : List (Option Value)} {x : Int32} (hd : decode md.2.2.1 pc = .ok (.iload 15, 2)) (k : J G d md (pc + 2) (a0 :: a1 :: a2 :: a3 :: a4 :: a5 :: a6 :: a7 :: a8 :: a9 :: a10 :: a11 :: a12 :: a13 :: a14 :: some (.int x) :: l) (.int x :: st) n sh M r c0 s0 mc ms post) : J G d md pc (a0 :: a1 :: a2 :: a3 :: a4 :: a5 :: a6 :: a7 :: a8 :: a9 :: a10 :: a11 :: a12 :: a13 :: a14 :: some (.int x) :: l) st n sh M r c0 s0 mc ms post := by
  intro p e R s m args below meth c Q C X H locs ls hW hS hl hc hs
  exact lv_iload C.1 C.2.1 hd (hl.at 15 rfl) (k p e R s m args below meth c Q C X H locs ls hW hS hl hc hs)
theorem J_aload_15 {a0 a1 a2 a3 a4 a5 a6 a7 a8 a9 a10 a11 a12 a13 a14 : Option Value} {l : List (Option Value)} {x : Nat} (hd : decode md.2.2.1 pc = .ok (.aload 15, 2)) (k : J G d md (pc + 2) (a0 :: a1 :: a2 :: a3 :: a4 :: a5 :: a6 :: a7 :: a8 :: a9 :: a10 :: a11 :: a12 :: a13 :: a14 :: some (.ref x) :: l) (.ref x :: st) n sh M r c0 s0 mc ms post) : J G d md pc (a0 :: a1 :: a2 :: a3 :: a4 :: a5 :: a6 :: a7 :: a8 :: a9 :: a10 :: a11 :: a12 :: a13 :: a14 :: some (.ref x) :: l) st n sh M r c0 s0 mc ms post := by
  intro p e R s m args below meth c Q C X H locs ls hW hS hl hc hs
  exact lv_aload C.1 C.2.1 hd (hl.at 15 rfl) (k p e R s m args below meth c Q C X H locs ls hW hS hl hc hs)
theorem J_lload_15 {a0 a1 a2 a3 a4 a5 a6 a7 a8 a9 a10 a11 a12 a13 a14 : Option Value} {l : List (Option Value)} {x : Int64} (hd : decode md.2.2.1 pc = .ok (.lload 15, 2)) (k : J G d md (pc + 2) (a0 :: a1 :: a2 :: a3 :: a4 :: a5 :: a6 :: a7 :: a8 :: a9 :: a10 :: a11 :: a12 :: a13 :: a14 :: some (.long x) :: l) (.long x :: st) n sh M r c0 s0 mc ms post) : J G d md pc (a0 :: a1 :: a2 :: a3 :: a4 :: a5 :: a6 :: a7 :: a8 :: a9 :: a10 :: a11 :: a12 :: a13 :: a14 :: some (.long x) :: l) st n sh M r c0 s0 mc ms post := by
  intro p e R s m args below meth c Q C X H locs ls hW hS hl hc hs
  exact lv_lload C.1 C.2.1 hd (hl.at 15 rfl) (k p e R s m args below meth c Q C X H locs ls hW hS hl hc hs)
theorem J_istore_15 {a0 a1 a2 a3 a4 a5 a6 a7 a8 a9 a10 a11 a12 a13 a14 : Option Value} {l : List (Option Value)} {b : Option Value} {x : Int32} (hd : decode md.2.2.1 pc = .ok (.istore 15, 2)) (hc1 : jn2 a14 = true) (k : J G d md (pc + 2) (a0 :: a1 :: a2 :: a3 :: a4 :: a5 :: a6 :: a7 :: a8 :: a9 :: a10 :: a11 :: a12 :: a13 :: a14 :: some (.int x) :: l) st n sh M r c0 s0 mc ms post) : J G d md pc (a0 :: a1 :: a2 :: a3 :: a4 :: a5 :: a6 :: a7 :: a8 :: a9 :: a10 :: a11 :: a12 :: a13 :: a14 :: b :: l) (.int x :: st) n sh M r c0 s0 mc ms post := by
  intro p e R s m args below meth c Q C X H locs ls hW hS hl hc hs
  exact lv_istore (i := 15) C.1 C.2.1 hd hl.1 (hl.lt (i := 15) (by simp)) rfl (fun ls2 hl2 => k p e R s m args below meth c Q C X H locs ls2 hW hS (hl.set (v := .int x) 15 rfl (fun a ha w hw => by (have : a = 14 := by omega); subst this; simp at hw; subst hw; exact hc1) (fun j hj => by match j with
    | 0 => rfl
    | 1 => rfl
    | 2 => rfl
    | 3 => rfl
    | 4 => rfl
    | 5 => rfl
    | 6 => rfl
    | 7 => rfl
    | 8 => rfl
    | 9 => rfl
    | 10 => rfl
    | 11 => rfl
    | 12 => rfl
    | 13 => rfl
    | 14 => rfl
    | 15 => exact absurd rfl hj
    | j + 16 => rfl) (fun w hw => by simp at hw; exact hw.symm) hl2) hc hs)
theorem J_astore_15 {a0 a1 a2 a3 a4 a5 a6 a7 a8 a9 a10 a11 a12 a13 a14 : Option Value} {l : List (Option Value)} {b : Option Value} {x : Nat} (hd : decode md.2.2.1 pc = .ok (.astore 15, 2)) (hc1 : jn2 a14 = true) (k : J G d md (pc + 2) (a0 :: a1 :: a2 :: a3 :: a4 :: a5 :: a6 :: a7 :: a8 :: a9 :: a10 :: a11 :: a12 :: a13 :: a14 :: some (.ref x) :: l) st n sh M r c0 s0 mc ms post) : J G d md pc (a0 :: a1 :: a2 :: a3 :: a4 :: a5 :: a6 :: a7 :: a8 :: a9 :: a10 :: a11 :: a12 :: a13 :: a14 :: b :: l) (.ref x :: st) n sh M r c0 s0 mc ms post := by
  intro p e R s m args below meth c Q C X H locs ls hW hS hl hc hs
  exact lv_astore (i := 15) C.1 C.2.1 hd hl.1 (hl.lt (i := 15) (by simp)) rfl (fun ls2 hl2 => k p e R s m args below meth c Q C X H locs ls2 hW hS (hl.set (v := .ref x) 15 rfl (fun a ha w hw => by (have : a = 14 := by omega); subst this; simp at hw; subst hw; exact hc1) (fun j hj => by match j with
    | 0 => rfl
    | 1 => rfl
    | 2 => rfl
    | 3 => rfl
    | 4 => rfl
    | 5 => rfl
    | 6 => rfl
    | 7 => rfl
    | 8 => rfl
    | 9 => rfl
    | 10 => rfl
    | 11 => rfl
    | 12 => rfl
    | 13 => rfl
    | 14 => rfl
    | 15 => exact absurd rfl hj
    | j + 16 => rfl) (fun w hw => by simp at hw; exact hw.symm) hl2) hc hs)
theorem J_iinc_15 {a0 a1 a2 a3 a4 a5 a6 a7 a8 a9 a10 a11 a12 a13 a14 : Option Value} {l : List (Option Value)} {x : Int32} {q : Int} (v : Int32) (hd : decode md.2.2.1 pc = .ok (.iinc 15 q, 3)) (hv : Int32.ofInt q = v) (hc1 : jn2 a14 = true) (k : J G d md (pc + 3) (a0 :: a1 :: a2 :: a3 :: a4 :: a5 :: a6 :: a7 :: a8 :: a9 :: a10 :: a11 :: a12 :: a13 :: a14 :: some (.int (x + v)) :: l) st n sh M r c0 s0 mc ms post) : J G d md pc (a0 :: a1 :: a2 :: a3 :: a4 :: a5 :: a6 :: a7 :: a8 :: a9 :: a10 :: a11 :: a12 :: a13 :: a14 :: some (.int x) :: l) st n sh M r c0 s0 mc ms post := by
  intro p e R s m args below meth c Q C X H locs ls hW hS hl hc hs
  obtain ⟨t, ht⟩ := List.getElem?_of_mem (jtoL_get (jad G) (a0 :: a1 :: a2 :: a3 :: a4 :: a5 :: a6 :: a7 :: a8 :: a9 :: a10 :: a11 :: a12 :: a13 :: a14 :: some (.int x) :: l) 0 15 (.int x) rfl)
  exact lv_iinc C.1 C.2.1 hd hl.1 (k := t) (x := x) (v := x + v) (by rw [ht, Nat.zero_add]; rfl) (by rw [hv]) (hl.lt (i := 15) (by simp)) rfl (fun ls2 hl2 => k p e R s m args below meth c Q C X H locs ls2 hW hS (hl.set (v := .int (x + v)) 15 rfl (fun a ha w hw => by (have : a = 14 := by omega); subst this; simp at hw; subst hw; exact hc1) (fun j hj => by match j with
    | 0 => rfl
    | 1 => rfl
    | 2 => rfl
    | 3 => rfl
    | 4 => rfl
    | 5 => rfl
    | 6 => rfl
    | 7 => rfl
    | 8 => rfl
    | 9 => rfl
    | 10 => rfl
    | 11 => rfl
    | 12 => rfl
    | 13 => rfl
    | 14 => rfl
    | 15 => exact absurd rfl hj
    | j + 16 => rfl) (fun w hw => by simp at hw; exact hw.symm) hl2) hc hs)
theorem J_if_eq {x : Int32} {off : Int} {t : Nat} (hd : decode md.2.2.1 pc = .ok (.ifCond .eq off, 3)) (ht : (pc : Int) + off = (t : Int)) (kt : x = 0 → J G d md t lv st n sh M r c0 s0 mc ms post) (kf : ¬ x = 0 → J G d md (pc + 3) lv st n sh M r c0 s0 mc ms post) : J G d md pc lv (.int x :: st) n sh M r c0 s0 mc ms post := by
  intro p e R s m args below meth c Q C X H locs ls hW hS hl hc hs
  exact lv_if_eq C.1 C.2.1 hd ht (fun q => kt q p e R s m args below meth c Q C X H locs ls hW hS hl hc hs) (fun q => kf q p e R s m args below meth c Q C X H locs ls hW hS hl hc hs)
theorem J_if_ne {x : Int32} {off : Int} {t : Nat} (hd : decode md.2.2.1 pc = .ok (.ifCond .ne off, 3)) (ht : (pc : Int) + off = (t : Int)) (kt : ¬ x = 0 → J G d md t lv st n sh M r c0 s0 mc ms post) (kf : x = 0 → J G d md (pc + 3) lv st n sh M r c0 s0 mc ms post) : J G d md pc lv (.int x :: st) n sh M r c0 s0 mc ms post := by
  intro p e R s m args below meth c Q C X H locs ls hW hS hl hc hs
  exact lv_if_ne C.1 C.2.1 hd ht (fun q => kt q p e R s m args below meth c Q C X H locs ls hW hS hl hc hs) (fun q => kf q p e R s m args below meth c Q C X H locs ls hW hS hl hc hs)
theorem J_if_lt {x : Int32} {off : Int} {t : Nat} (hd : decode md.2.2.1 pc = .ok (.ifCond .lt off, 3)) (ht : (pc : Int) + off = (t : Int)) (kt : x < 0 → J G d md t lv st n sh M r c0 s0 mc ms post) (kf : ¬ x < 0 → J G d md (pc + 3) lv st n sh M r c0 s0 mc ms post) : J G d md pc lv (.int x :: st) n sh M r c0 s0 mc ms post := by
  intro p e R s m args below meth c Q C X H locs ls hW hS hl hc hs
  exact lv_if_lt C.1 C.2.1 hd ht (fun q => kt q p e R s m args below meth c Q C X H locs ls hW hS hl hc hs) (fun q => kf q p e R s m args below meth c Q C X H locs ls hW hS hl hc hs)
theorem J_if_ge {x : Int32} {off : Int} {t : Nat} (hd : decode md.2.2.1 pc = .ok (.ifCond .ge off, 3)) (ht : (pc : Int) + off = (t : Int)) (kt : 0 ≤ x → J G d md t lv st n sh M r c0 s0 mc ms post) (kf : ¬ 0 ≤ x → J G d md (pc + 3) lv st n sh M r c0 s0 mc ms post) : J G d md pc lv (.int x :: st) n sh M r c0 s0 mc ms post := by
  intro p e R s m args below meth c Q C X H locs ls hW hS hl hc hs
  exact lv_if_ge C.1 C.2.1 hd ht (fun q => kt q p e R s m args below meth c Q C X H locs ls hW hS hl hc hs) (fun q => kf q p e R s m args below meth c Q C X H locs ls hW hS hl hc hs)
theorem J_if_gt {x : Int32} {off : Int} {t : Nat} (hd : decode md.2.2.1 pc = .ok (.ifCond .gt off, 3)) (ht : (pc : Int) + off = (t : Int)) (kt : 0 < x → J G d md t lv st n sh M r c0 s0 mc ms post) (kf : ¬ 0 < x → J G d md (pc + 3) lv st n sh M r c0 s0 mc ms post) : J G d md pc lv (.int x :: st) n sh M r c0 s0 mc ms post := by
  intro p e R s m args below meth c Q C X H locs ls hW hS hl hc hs
  exact lv_if_gt C.1 C.2.1 hd ht (fun q => kt q p e R s m args below meth c Q C X H locs ls hW hS hl hc hs) (fun q => kf q p e R s m args below meth c Q C X H locs ls hW hS hl hc hs)
theorem J_if_le {x : Int32} {off : Int} {t : Nat} (hd : decode md.2.2.1 pc = .ok (.ifCond .le off, 3)) (ht : (pc : Int) + off = (t : Int)) (kt : x ≤ 0 → J G d md t lv st n sh M r c0 s0 mc ms post) (kf : ¬ x ≤ 0 → J G d md (pc + 3) lv st n sh M r c0 s0 mc ms post) : J G d md pc lv (.int x :: st) n sh M r c0 s0 mc ms post := by
  intro p e R s m args below meth c Q C X H locs ls hW hS hl hc hs
  exact lv_if_le C.1 C.2.1 hd ht (fun q => kt q p e R s m args below meth c Q C X H locs ls hW hS hl hc hs) (fun q => kf q p e R s m args below meth c Q C X H locs ls hW hS hl hc hs)
theorem J_icmp_eq {x y : Int32} {off : Int} {t : Nat} (hd : decode md.2.2.1 pc = .ok (.if_icmp .eq off, 3)) (ht : (pc : Int) + off = (t : Int)) (kt : x = y → J G d md t lv st n sh M r c0 s0 mc ms post) (kf : ¬ x = y → J G d md (pc + 3) lv st n sh M r c0 s0 mc ms post) : J G d md pc lv (.int y :: .int x :: st) n sh M r c0 s0 mc ms post := by
  intro p e R s m args below meth c Q C X H locs ls hW hS hl hc hs
  exact lv_icmp_eq C.1 C.2.1 hd ht (fun q => kt q p e R s m args below meth c Q C X H locs ls hW hS hl hc hs) (fun q => kf q p e R s m args below meth c Q C X H locs ls hW hS hl hc hs)
theorem J_icmp_ne {x y : Int32} {off : Int} {t : Nat} (hd : decode md.2.2.1 pc = .ok (.if_icmp .ne off, 3)) (ht : (pc : Int) + off = (t : Int)) (kt : ¬ x = y → J G d md t lv st n sh M r c0 s0 mc ms post) (kf : x = y → J G d md (pc + 3) lv st n sh M r c0 s0 mc ms post) : J G d md pc lv (.int y :: .int x :: st) n sh M r c0 s0 mc ms post := by
  intro p e R s m args below meth c Q C X H locs ls hW hS hl hc hs
  exact lv_icmp_ne C.1 C.2.1 hd ht (fun q => kt q p e R s m args below meth c Q C X H locs ls hW hS hl hc hs) (fun q => kf q p e R s m args below meth c Q C X H locs ls hW hS hl hc hs)
theorem J_icmp_lt {x y : Int32} {off : Int} {t : Nat} (hd : decode md.2.2.1 pc = .ok (.if_icmp .lt off, 3)) (ht : (pc : Int) + off = (t : Int)) (kt : x < y → J G d md t lv st n sh M r c0 s0 mc ms post) (kf : ¬ x < y → J G d md (pc + 3) lv st n sh M r c0 s0 mc ms post) : J G d md pc lv (.int y :: .int x :: st) n sh M r c0 s0 mc ms post := by
  intro p e R s m args below meth c Q C X H locs ls hW hS hl hc hs
  exact lv_icmp_lt C.1 C.2.1 hd ht (fun q => kt q p e R s m args below meth c Q C X H locs ls hW hS hl hc hs) (fun q => kf q p e R s m args below meth c Q C X H locs ls hW hS hl hc hs)
theorem J_icmp_ge {x y : Int32} {off : Int} {t : Nat} (hd : decode md.2.2.1 pc = .ok (.if_icmp .ge off, 3)) (ht : (pc : Int) + off = (t : Int)) (kt : y ≤ x → J G d md t lv st n sh M r c0 s0 mc ms post) (kf : ¬ y ≤ x → J G d md (pc + 3) lv st n sh M r c0 s0 mc ms post) : J G d md pc lv (.int y :: .int x :: st) n sh M r c0 s0 mc ms post := by
  intro p e R s m args below meth c Q C X H locs ls hW hS hl hc hs
  exact lv_icmp_ge C.1 C.2.1 hd ht (fun q => kt q p e R s m args below meth c Q C X H locs ls hW hS hl hc hs) (fun q => kf q p e R s m args below meth c Q C X H locs ls hW hS hl hc hs)
theorem J_icmp_gt {x y : Int32} {off : Int} {t : Nat} (hd : decode md.2.2.1 pc = .ok (.if_icmp .gt off, 3)) (ht : (pc : Int) + off = (t : Int)) (kt : y < x → J G d md t lv st n sh M r c0 s0 mc ms post) (kf : ¬ y < x → J G d md (pc + 3) lv st n sh M r c0 s0 mc ms post) : J G d md pc lv (.int y :: .int x :: st) n sh M r c0 s0 mc ms post := by
  intro p e R s m args below meth c Q C X H locs ls hW hS hl hc hs
  exact lv_icmp_gt C.1 C.2.1 hd ht (fun q => kt q p e R s m args below meth c Q C X H locs ls hW hS hl hc hs) (fun q => kf q p e R s m args below meth c Q C X H locs ls hW hS hl hc hs)
theorem J_icmp_le {x y : Int32} {off : Int} {t : Nat} (hd : decode md.2.2.1 pc = .ok (.if_icmp .le off, 3)) (ht : (pc : Int) + off = (t : Int)) (kt : x ≤ y → J G d md t lv st n sh M r c0 s0 mc ms post) (kf : ¬ x ≤ y → J G d md (pc + 3) lv st n sh M r c0 s0 mc ms post) : J G d md pc lv (.int y :: .int x :: st) n sh M r c0 s0 mc ms post := by
  intro p e R s m args below meth c Q C X H locs ls hW hS hl hc hs
  exact lv_icmp_le C.1 C.2.1 hd ht (fun q => kt q p e R s m args below meth c Q C X H locs ls hW hS hl hc hs) (fun q => kf q p e R s m args below meth c Q C X H locs ls hW hS hl hc hs)
theorem J_goto {off : Int} {t : Nat} (hd : decode md.2.2.1 pc = .ok (.goto off, 3)) (ht : (pc : Int) + off = (t : Int)) (k : J G d md t lv st n sh M r c0 s0 mc ms post) : J G d md pc lv st n sh M r c0 s0 mc ms post := by
  intro p e R s m args below meth c Q C X H locs ls hW hS hl hc hs
  exact lv_goto C.1 C.2.1 hd ht (k p e R s m args below meth c Q C X H locs ls hW hS hl hc hs)
theorem J_tsw {dflt lo hi : Int} {offs : Array Int} {len : Nat} {x : Int32} (hd : decode md.2.2.1 pc = .ok (.tableswitch dflt lo hi offs, len)) {td : Nat} (ht : (pc : Int) + dflt = (td : Int)) (hsz : (offs.size : Int) = hi - lo + 1)
    (kd : (x.toInt < lo ∨ hi < x.toInt) → J G d md td lv st n sh M r c0 s0 mc ms post) (k : ∀ i : Nat, x.toInt = lo + i → ∀ off t, offs[i]? = some off → (pc : Int) + off = ((t : Nat) : Int) → J G d md t lv st n sh M r c0 s0 mc ms post) (hpos : ∀ (i : Nat) off, offs[i]? = some off → 0 ≤ (pc : Int) + off) : J G d md pc lv (.int x :: st) n sh M r c0 s0 mc ms post := by
  intro p e R s m args below meth c Q C X H locs ls hW hS hl hc hs
  by_cases h1 : x.toInt < lo
  · exact lv_tableOut C.1 C.2.1 hd (Or.inl h1) ht (kd (Or.inl h1) p e R s m args below meth c Q C X H locs ls hW hS hl hc hs)
  · by_cases h2 : hi < x.toInt
    · exact lv_tableOut C.1 C.2.1 hd (Or.inr h2) ht (kd (Or.inr h2) p e R s m args below meth c Q C X H locs ls hW hS hl hc hs)
    · have hlt : (x.toInt - lo).toNat < offs.size := by omega
      have ho : offs[(x.toInt - lo).toNat]? = some offs[(x.toInt - lo).toNat] := Array.getElem?_eq_getElem hlt
      have hp := hpos _ _ ho
      have htt : (pc : Int) + offs[(x.toInt - lo).toNat] = ((((pc : Int) + offs[(x.toInt - lo).toNat]).toNat : Nat) : Int) := by omega
      exact lv_tableIn C.1 C.2.1 hd h1 h2 ho htt (k (x.toInt - lo).toNat (by omega) _ _ ho htt p e R s m args below meth c Q C X H locs ls hW hS hl hc hs)
theorem J_lsw {dflt : Int} {ps : Array (Int × Int)} {len : Nat} {x : Int32} {off : Int} {t : Nat} (hd : decode md.2.2.1 pc = .ok (.lookupswitch dflt ps, len)) (hp : (ps.toList.zip (ps.toList.drop 1)).all (fun (a, next) => a.1 < next.1) = true) (ho : Op.lookupswitch.offset ps.toList dflt x.toInt = off) (ht : (pc : Int) + off = (t : Int)) (k : J G d md t lv st n sh M r c0 s0 mc ms post) : J G d md pc lv (.int x :: st) n sh M r c0 s0 mc ms post := by
  intro p e R s m args below meth c Q C X H locs ls hW hS hl hc hs
  exact lv_lookup C.1 C.2.1 hd hp ho ht (k p e R s m args below meth c Q C X H locs ls hW hS hl hc hs)
end JR
end
section
theorem jgood_cls : ∀ q ∈ vwCl, (u_ws q.1 q.2.1 q.2.2).all goodWord = true := by decide +kernel
theorem jin_cls : ∀ q ∈ vwCl, ∀ w ∈ u_ws q.1 q.2.1 q.2.2, w ∈ lw_tbl := by
  intro q hq
  simp only [vwCl, List.mem_cons, List.not_mem_nil, or_false] at hq
  rcases hq with rfl | rfl | rfl | rfl | rfl | rfl | rfl | rfl | rfl
  · exact inX0
  · exact inX1
  · exact inX2
  · exact inX3
  · exact inX4
  · exact inX5
  · exact inX6
  · exact inX7
  · exact inX8
theorem jin_g {q : vw_C} (hq : q ∈ vwCl) : ∀ w ∈ u_ws q.1 q.2.1 q.2.2, w ∈ gTbl := fun w hw => List.mem_filter.mpr ⟨jin_cls q hq w hw, List.all_eq_true.mp (jgood_cls q hq) w hw⟩
theorem jty_cls : ∀ q ∈ vwCl, ∃ ty : Nat → FieldType, (∀ k, k < q.2.2 → parseFieldDescriptor (q.2.1 k).2.2.1 = some (ty k)) ∧ ∀ a, a < q.2.2 → ∀ b, b < q.2.2 → a ≠ b → (q.2.1 a).2.1 ≠ (q.2.1 b).2.1 := by
  intro q hq
  simp only [vwCl, List.mem_cons, List.not_mem_nil, or_false] at hq
  rcases hq with rfl | rfl | rfl | rfl | rfl | rfl | rfl | rfl | rfl
  · exact ⟨tyX0, tyX0_ok, nmX0⟩
  · exact ⟨tyX1, tyX1_ok, nmX1⟩
  · exact ⟨tyX2, tyX2_ok, nmX2⟩
  · exact ⟨tyX3, tyX3_ok, nmX3⟩
  · exact ⟨tyX4, tyX4_ok, nmX4⟩
  · exact ⟨tyX5, tyX5_ok, nmX5⟩
  · exact ⟨tyX6, tyX6_ok, nmX6⟩
  · exact ⟨tyX7, tyX7_ok, nmX7⟩
  · exact ⟨tyX8, tyX8_ok, nmX8⟩
/-- a field of a class, by an entry of a constant pool -/
def jFL (own : String) (i ci j : Nat) : Prop := ∃ q : vw_C, vwCl[ci]? = some q ∧ j < q.2.2 ∧ Cond.fieldLink own i (q.2.1 j).1 (q.2.1 j).2.1 (q.2.1 j).2.2.1 ∈ gTbl
def jup (M : jM) (k j : Nat) (x : Int32) : jM := fun a b => if a = k then (if b = j then x else M a b) else M a b
def jrup (r : jR) (k j : Nat) (x : Option Nat) : jR := fun a b => if a = k then (if b = j then x else r a b) else r a b
theorem jup_ne {M : jM} {k j a : Nat} {x : Int32} (h : a ≠ k) : jup M k j x a = M a := by funext b; simp [jup, h]
theorem jrup_ne {M : jR} {k j a : Nat} {x : Option Nat} (h : a ≠ k) : jrup M k j x a = M a := by funext b; simp [jrup, h]
theorem jent_congr {G : jGT} {sh : jS} {M M' : jM} {r r' : jR} {k : Nat} (h1 : M' k = M k) (h2 : r' k = r k) : jent G sh M' r' k = jent G sh M r k := by
  unfold jent
  have e : jfv G M' r' k = jfv G M r k := by funext ci j; unfold jfv; rw [h1, h2]
  rw [e, h1, h2]
theorem vwCl_lt {ci : Nat} {q : vw_C} (h : vwCl[ci]? = some q) : ci < 9 := (List.getElem?_eq_some_iff.mp h).1
theorem jent_obj {G : jGT} {sh : jS} {M : jM} {r : jR} {k ci N : Nat} (hs : sh k = (ci, N)) (hc : ci < 9) : jent G sh M r k = .inr (ci, (List.range N).map (jfv G M r k ci)) := by
  unfold jent
  rw [hs]
  exact if_pos (by show ci < 100; omega)
theorem jent_int {G : jGT} {sh : jS} {M : jM} {r : jR} {k t N : Nat} (hs : sh k = (100 + t, N)) (ht : t < 3) : jent G sh M r k = .inl (jcA G t, N, .inl (M k)) := by
  unfold jent
  rw [hs]
  rw [if_neg (by show ¬ 100 + t < 100; omega), if_neg (by show ¬ 100 + t = 103; omega)]
  rw [show (100 + t, N).1 - 100 = t by show 100 + t - 100 = t; omega]
theorem jent_ref {G : jGT} {sh : jS} {M : jM} {r : jR} {k N : Nat} (hs : sh k = (103, N)) : jent G sh M r k = .inl (jcA G 3, N, .inr (.inr (.inr (.inr (fun j => (r k j).map (jad G)))))) := by
  unfold jent
  rw [hs]
  rfl
theorem jP1 {D : va_G} {cl : List vw_C} {q : Nat × va_E} {H : Heap} (h : va_at D cl q H) : va_P D cl [q] H := fun k x hx => by
  cases k with
  | zero => cases hx; exact h
  | succ k => simp at hx
theorem jad_eq {G : jGT} (hG : jGok G) {k : Nat} (h : k < 1000) : jad G k = jb G + k := hG.2.1 k h
theorem jad_ne {G : jGT} (hG : jGok G) {k k' : Nat} (h : k < 1000) (h' : k' < 1000) (hn : k' ≠ k) : jad G k' ≠ jad G k := by rw [jad_eq hG h, jad_eq hG h']; omega
theorem jW.upd {G : jGT} (hG : jGok G) {n : Nat} {sh : jS} {M M' : jM} {r r' : jR} {H H1 : Heap} (hW : jW G n sh M r H) {k : Nat} (hk : k < n) (z : H1.size = H.size) (oq : ∀ q : Nat, q ≠ jad G k → H1[q]? = H[q]?)
    (hM : ∀ a, a ≠ k → M' a = M a) (hr : ∀ a, a ≠ k → r' a = r a) (hat : va_at (jD G) vwCl (jad G k, jent G sh M' r' k) H1) : jW G n sh M' r' H1 := by
  obtain ⟨w1, w2, w3⟩ := hW
  refine ⟨z.trans w1, fun k' hk' => ?_, w3⟩
  by_cases e : k' = k
  · subst e; exact hat
  · rw [jent_congr (hM k' e) (hr k' e)]
    exact (w2 k' hk').kept (oq _ (jad_ne hG (by omega) (by omega) e))
section JH
variable {p : Program} {l : Launch} {e : Env} {R : Room} {s : State} {m : MethodId} {args : Array Value} {below : List Frame} {meth : Method} {c : Code} {H : Heap} {locs : List Loc} {cells slots : Nat} {Q : State → Prop}
variable {cc : ByteArray} {pc : Nat} {ls : Array Slot} {rest : List Value} {D : va_G} {cl : List vw_C} {a : Nat} {tys : List (ClassId × FieldType)}
theorem j_put (hexec : p.tables.exec = Jvm.exec) (hb : c.code = cc) {own C : String} {T : u_T} {N ci index : Nat} {Ts : List Cond} (hts : ∀ w ∈ Ts, w.before args s = true) (hin : ∀ w ∈ u_ws C T N, w ∈ Ts) (ty0 : Nat → FieldType) (hty : ∀ k, k < N → parseFieldDescriptor (T k).2.2.1 = some (ty0 k)) (hnm : ∀ a, a < N → ∀ b, b < N → a ≠ b → (T a).2.1 ≠ (T b).2.1) (hown : s.vm.findClass own = some m.cls) (hK : va_K D cl tys s) {fs : List Value} (he : va_at D cl (a, .inr (ci, fs)) H) (hc : cl[ci]? = some (C, T, N)) (k : Nat) (hk : k < N) (hlink : (Cond.fieldLink own index (T k).1 (T k).2.1 (T k).2.2.1).before args s = true)
    (hfin : (T k).2.2.2 = false ∨ ((T k).2.2.2 = true ∧ meth.name = "<init>" ∧ (T k).1 = own)) {v : Value} (hn : narrow (ty0 k) v = v) (hfit : fits (ty0 k) v = true) (hl : k < fs.length)
    (hdg : decode cc pc = .ok (.putfield index, 3)) (kk : ∀ (H1 : Heap) (i : Nat), va_at D cl (a, .inr (ci, fs.set k v)) H1 → H1.size = H.size → (∀ q, q ≠ a → H1[q]? = H[q]?) → W p l e R s m args below meth c H1 (locs ++ [⟨a, i⟩]) cells slots Q (F0 m (pc + 3) ls rest)) : W p l e R s m args below meth c H locs cells slots Q (F0 m pc ls (v :: .ref a :: rest)) := by
  have hap := va_apart (own := own) hts hin ty0 hty hnm hK hc
  obtain ⟨r, h1, cell, q1, q2, q3, q4⟩ := he
  have hr : r = (C, T, N) := Option.some.inj (h1.symm.trans hc)
  subst hr
  obtain ⟨hS, hfc, kC, hkC, hkind⟩ := hK.1 ci _ hc
  obtain ⟨cf, kf, fi, f, hi, hsl⟩ := hS k hk
  have hst := (u_facts hfc hkC (u_lays hts hin hk) hi).1
  have hlay := hts _ (hin _ (u_in_lay hk))
  unfold u_lay at hlay
  rcases hfin with hfin | ⟨hfin, hin2, hdecl⟩
  · rw [if_neg (by rw [hfin]; decide)] at hlay
    have h6 := u_store hfc hkC hkind hlay hi (hty k hk) hn hfit
    refine W.putK hexec hb (f := f) ⟨hown, hlink, ⟨_, _, _, hi⟩, hst⟩ (by rw [q2]; exact h6) q1 q3 (by rw [hsl]; exact k2_hasslot (q4 k hk)) rfl rfl hdg fun H' e1 e2 e3 => ?_
    rw [hsl] at e1 ⊢
    exact kk H' _ ⟨_, hc, t_OB.to (V := updV (vp_V fs) k v) ⟨_, e1, q2, q3, t_set q4 hap hk v⟩ (fun j _ => vp_updV_set hl v j)⟩ e2 e3
  · rw [if_pos hfin] at hlay
    have hcf : m.cls = cf := by
      obtain ⟨_, _, c', _, _, _, -, -, hf', -, -, -, hown2, -⟩ := Cond.laysFinal_spec hlay
      have e1 : c' = cf := by have := hi.symm.trans hf'; simp at this; exact this.1.symm
      rw [hdecl] at hown2
      rw [← e1]; exact Option.some.inj (hown.symm.trans hown2)
    have h6 := u_fits hfc hkC hkind (Or.inr hlay) hi (hty k hk) hn hfit
    refine W.putFinK hexec hb hown hlink hi hst hcf hin2 (by rw [q2]; exact h6) q1 q3 (by rw [hsl]; exact k2_hasslot (q4 k hk)) rfl rfl hdg fun H' e1 e2 e3 => ?_
    rw [hsl] at e1 ⊢
    exact kk H' _ ⟨_, hc, t_OB.to (V := updV (vp_V fs) k v) ⟨_, e1, q2, q3, t_set q4 hap hk v⟩ (fun j _ => vp_updV_set hl v j)⟩ e2 e3
theorem j_vpset {cA : ClassId} {n k : Nat} {f : Nat → Int32} {x : Int32} : (vp_cell cA (n, .inl f)).setSlot k (.int x) = vp_cell cA (n, .inl (upd f k x)) := by
  rw [vp_cell_i, vp_cell_i, arrV_store]
  congr 2
  funext q
  by_cases hq : q = k
  · subst hq; simp [updV, upd]
  · simp [updV, upd, hq]
theorem j_vpsetq {cA : ClassId} {n k : Nat} {f : Nat → Option Nat} {x : Nat} : (vp_cell cA (n, .inr (.inr (.inr (.inr f))))).setSlot k (.ref x) = vp_cell cA (n, .inr (.inr (.inr (.inr (va_up f k (some x)))))) := by
  rw [vp_cell_q, vp_cell_q, arrV_store]
  congr 2
  funext q
  by_cases hq : q = k
  · subst hq; simp [updV, va_up, va_rf]
  · simp [updV, va_up, hq]
theorem j_copyi {cc : ByteArray} (hexec : p.tables.exec = Jvm.exec) (hb : c.code = cc) (hml : c.maxLocals = ls.size) {own : String} {index : Nat} (hown : s.vm.findClass own = some m.cls) (hlink : (Cond.methodLink own index arraycopyName).before args s = true) (hnat : (Cond.native arraycopyName).before args s = true) (hstat : (Cond.static arraycopyName).before args s = true) (hini : (Cond.initialized "java/lang/System").before args s = true)
    (hK : va_K D cl tys s) (t0 t1 : Nat) {a0 : Nat} {c0 c1 : ClassId} {n0 n1 : Nat} {f g : Nat → Int32} {ty : FieldType} (hc0 : H[a0]? = some (vp_cell c0 (n0, .inl f))) (hc1 : H[a]? = some (vp_cell c1 (n1, .inl g))) (ht0 : tys[t0]? = some (c0, ty)) (ht1 : tys[t1]? = some (c1, ty)) (hprim : refKind ty = false)
    {sp dp n : Int32} (h1 : ¬ sp < 0) (h2 : ¬ dp < 0) (h3 : ¬ n < 0) (h4 : sp.toNatClampNeg + n.toNatClampNeg ≤ n0) (h5 : dp.toNatClampNeg + n.toNatClampNeg ≤ n1) (hfit : ∀ i, i < n.toNatClampNeg → fits ty (.int (f (sp.toNatClampNeg + i))) = true)
    (hframes : 1 ≤ R.frames) (hlocals : (rest.map fun v => v.category).sum + (nativeFrameWords "java/lang/System" "arraycopy" 5 + 11) ≤ R.locals) (hdg : decode cc pc = .ok (.invokestatic index, 3))
    (kk : ∀ (H1 : Heap) (L1 : List Loc), (∀ q ∈ L1, q.base = a) → H1[a]? = some (vp_cell c1 (n1, .inl (va_cpy f g sp.toNatClampNeg dp.toNatClampNeg n.toNatClampNeg))) → H1.size = H.size → (∀ q, q ≠ a → H1[q]? = H[q]?) → W p l e R s m args below meth c H1 (locs ++ L1) cells slots Q (F0 m (pc + 3) ls rest)) : W p l e R s m args below meth c H locs cells slots Q (F0 m pc ls (.int n :: .int dp :: .ref a :: .int sp :: .ref a0 :: rest)) := by
  have nn : ∀ z : Int32, ¬ z < 0 → z.toInt = (z.toNatClampNeg : Int) := by
    intro z hz
    have hz0 : (0 : Int) ≤ z.toInt := by
      have := Int32.not_lt.mp hz
      simpa using Int32.le_iff_toInt_le.mp this
    show z.toInt = ((z.toInt.toNat : Nat) : Int)
    omega
  intro T hT X
  obtain ⟨-, k0, hk0, cm0, hkk0⟩ := (hK.2 t0 _ ht0).1 n0 (fun j => .int (f j))
  obtain ⟨-, k1, hk1, cm1, hkk1⟩ := (hK.2 t1 _ ht1).1 n1 (fun j => .int (g j))
  obtain ⟨vm', X', step⟩ := X.arraycopy hexec hown hlink hnat hstat hini (src := a0) (dst := a) (cs := vp_cell c0 (n0, .inl f)) (cd := vp_cell c1 (n1, .inl g)) (srcPos := sp) (destPos := dp) (n := n) (by rw [hT]; exact hc0) (by rw [hT]; exact hc1)
    (fun _ h => by cases h) (fun _ h => by cases h) (fun h => by cases h) (fun h => by cases h) hk0 hk1 hkk0 hkk1 (by simp [hprim]) h1 h2 h3
    (by rw [nn sp h1, nn n h3]; show ¬ _ > ((arrV c0 n0 (fun j => .int (f j))).slots.size : Int); rw [arrV_size]; omega)
    (by rw [nn dp h2, nn n h3]; show ¬ _ > ((arrV c1 n1 (fun j => .int (g j))).slots.size : Int); rw [arrV_size]; omega)
    (fun vm₁ _ i hi => by
      have e : (vp_cell c0 (n0, .inl f)).slots.getD (sp.toNatClampNeg + i) .null = .int (f (sp.toNatClampNeg + i)) := by
        show (arrV c0 n0 (fun j => .int (f j))).slots.getD _ _ = _
        rw [Array.getD_eq_getD_getElem?, arrV_read _ _ (by omega)]
        rfl
      refine ⟨?_, ?_⟩
      · rw [e]
        exact hfit i hi
      · rw [e]
        exact trivial)
    (g := F0 m pc ls (.int n :: .int dp :: .ref a :: .int sp :: .ref a0 :: rest)) rfl (by rw [hml]) (rest := rest) rfl (by rw [hb]; exact hdg) hframes (by show 2 * 0 + _ + _ ≤ _; omega)
  have e1 : copied (vp_cell c0 (n0, .inl f)) (vp_cell c1 (n1, .inl g)) sp dp n = vp_cell c1 (n1, .inl (va_cpy f g sp.toNatClampNeg dp.toNatClampNeg n.toNatClampNeg)) := va_copied (fun z => .int z) c0 c1 f g h4
  rw [e1] at X' step
  have hl : a < H.size := (Array.getElem?_eq_some_iff.mp hc1).1
  have hheap : ((T.setVm vm').setCell a (vp_cell c1 (n1, .inl (va_cpy f g sp.toNatClampNeg dp.toNatClampNeg n.toNatClampNeg)))).heap = H.setIfInBounds a (vp_cell c1 (n1, .inl (va_cpy f g sp.toNatClampNeg dp.toNatClampNeg n.toNatClampNeg))) := by rw [← hT]; rfl
  obtain ⟨t, a1, b1⟩ := kk _ _ (fun q hq => by obtain ⟨z, -, hz⟩ := List.mem_map.mp hq; rw [← hz]) (show (H.setIfInBounds a _)[a]? = some _ by simp [Array.getElem?_setIfInBounds, hl]) (by simp) (fun q hq => by simp [Array.getElem?_setIfInBounds, Ne.symm hq]) _ hheap X'
  exact ⟨t, step t a1, b1⟩
end JH
end
section
/-- a field that may be set: b: boolean -/
def jPL (own : String) (i ci j : Nat) (b : Bool) : Prop := ∃ q : vw_C, vwCl[ci]? = some q ∧ j < q.2.2 ∧ Cond.fieldLink own i (q.2.1 j).1 (q.2.1 j).2.1 (q.2.1 j).2.2.1 ∈ gTbl ∧ (q.2.1 j).2.2.2 = false ∧ (q.2.1 j).2.2.1 = (if b then "Z" else "I")
def jRL (own : String) (i ci j : Nat) : Prop := ∃ q : vw_C, vwCl[ci]? = some q ∧ j < q.2.2 ∧ Cond.fieldLink own i (q.2.1 j).1 (q.2.1 j).2.1 (q.2.1 j).2.2.1 ∈ gTbl ∧ (q.2.1 j).2.2.2 = true ∧ (q.2.1 j).1 = own ∧ ((∃ t, parseFieldDescriptor (q.2.1 j).2.2.1 = some (.object t)) ∨ ∃ t, parseFieldDescriptor (q.2.1 j).2.2.1 = some (.array t))
theorem jfs_set {G : jGT} {M : jM} {r : jR} {k ci N j : Nat} {x : Int32} (hj : j < N) (hr : jref ci j = false) : ((List.range N).map (jfv G M r k ci)).set j (.int x) = (List.range N).map (jfv G (jup M k j x) r k ci) := by
  apply List.ext_getElem?
  intro a
  by_cases ha : a = j
  · subst ha
    simp [hj, jfv, hr, jup]
  · by_cases hN : a < N
    · rw [List.getElem?_set_ne (Ne.symm ha)]
      simp [hN, jfv, jup, ha]
    · simp [Nat.not_lt.mp hN, List.getElem?_eq_none]
theorem jfs_setR {G : jGT} {M : jM} {r : jR} {k ci N j : Nat} {x : Nat} (hj : j < N) (hr : jref ci j = true) : ((List.range N).map (jfv G M r k ci)).set j (.ref (jad G x)) = (List.range N).map (jfv G M (jrup r k j (some x)) k ci) := by
  apply List.ext_getElem?
  intro a
  by_cases ha : a = j
  · subst ha
    simp [hj, jfv, hr, jrup, va_rf]
  · by_cases hN : a < N
    · rw [List.getElem?_set_ne (Ne.symm ha)]
      simp [hN, jfv, jrup, ha]
    · simp [Nat.not_lt.mp hN, List.getElem?_eq_none]
theorem jup_upd {M : jM} {k j : Nat} {x : Int32} : jup M k j x k = upd (M k) j x := by funext b; simp [jup, upd]
theorem jrup_up {r : jR} {k j : Nat} {x : Option Nat} : jrup r k j x k = va_up (r k) j x := by funext b; simp [jrup, va_up]
theorem j_cats (G : jGT) (st : List Value) : ((List.map (jrn (jad G)) st).map fun v => v.category) = st.map fun v => v.category := by
  rw [List.map_map]
  congr 1
  funext v
  exact jrn_cat _ v
section JR2
variable {G : jGT} {d : Nat} {md : jMD} {pc : Nat} {lv : List (Option Value)} {st : List Value} {n : Nat} {sh : jS} {M : jM} {r : jR} {c0 s0 mc ms : Nat} {post : jP}
theorem J_getI {i ci j k N : Nat} (hd : decode md.2.2.1 pc = .ok (.getfield i, 3)) (hf : jFL md.1 i ci j) (hk : k < n) (hs : sh k = (ci, N)) (hj : j < N) (hr : jref ci j = false) (kk : J G d md (pc + 3) lv (.int (M k j) :: st) n sh M r c0 s0 mc ms post) : J G d md pc lv (.ref k :: st) n sh M r c0 s0 mc ms post := by
  intro p e R s m args below meth c Q C X H locs ls hW hS hl hc hsl
  obtain ⟨hx, hb, hml, hown, hts, hlk, hrt, hnm, hO, hR, hsz, hHs⟩ := id C
  obtain ⟨q, hq, hj2, hw⟩ := hf
  have hat := hW.2.1 k hk
  rw [jent_obj hs (vwCl_lt hq)] at hat
  exact va_get (D := jD G) (cl := vwCl) (tys := jtys G) (ci := ci) (C := q.1) (T := q.2.1) (N := q.2.2) hx hb hts (jin_g (List.mem_of_getElem? hq)) hown hO.2.1 (jP1 hat) 0 rfl hq j hj2 (hts _ hw) (fun _ h => h) (v := .int (M k j)) (by simp [hj, jfv, hr]) hd (kk p e R s m args below meth c Q C X H locs ls hW hS hl hc hsl)
theorem J_getR {i ci j k N : Nat} (x : Nat) (hd : decode md.2.2.1 pc = .ok (.getfield i, 3)) (hf : jFL md.1 i ci j) (hk : k < n) (hs : sh k = (ci, N)) (hj : j < N) (hr : jref ci j = true) (hv : r k j = some x) (kk : J G d md (pc + 3) lv (.ref x :: st) n sh M r c0 s0 mc ms post) : J G d md pc lv (.ref k :: st) n sh M r c0 s0 mc ms post := by
  intro p e R s m args below meth c Q C X H locs ls hW hS hl hc hsl
  obtain ⟨hx, hb, hml, hown, hts, hlk, hrt, hnm, hO, hR, hsz, hHs⟩ := id C
  obtain ⟨q, hq, hj2, hw⟩ := hf
  have hat := hW.2.1 k hk
  rw [jent_obj hs (vwCl_lt hq)] at hat
  exact va_get (D := jD G) (cl := vwCl) (tys := jtys G) (ci := ci) (C := q.1) (T := q.2.1) (N := q.2.2) hx hb hts (jin_g (List.mem_of_getElem? hq)) hown hO.2.1 (jP1 hat) 0 rfl hq j hj2 (hts _ hw) (fun _ h => h) (v := .ref (jad G x)) (by simp [hj, jfv, hr, hv, va_rf]) hd (kk p e R s m args below meth c Q C X H locs ls hW hS hl hc hsl)
theorem J_putI {i ci j k N : Nat} {x : Int32} (b : Bool) (hd : decode md.2.2.1 pc = .ok (.putfield i, 3)) (hf : jPL md.1 i ci j b) (hk : k < n) (hs : sh k = (ci, N)) (hj : j < N) (hr : jref ci j = false) (hbx : b = true → x = 0 ∨ x = 1) (kk : J G d md (pc + 3) lv st n sh (jup M k j x) r c0 s0 mc ms post) : J G d md pc lv (.int x :: .ref k :: st) n sh M r c0 s0 mc ms post := by
  intro p e R s m args below meth c Q C X H locs ls hW hS hl hc hsl
  obtain ⟨hx, hb, hml, hown, hts, hlk, hrt, hnm, hO, hR, hsz, hHs⟩ := id C
  obtain ⟨q, hq, hj2, hw, hfin, hty⟩ := hf
  obtain ⟨ty0, ht0, hnm0⟩ := jty_cls q (List.mem_of_getElem? hq)
  have hat := hW.2.1 k hk
  have hlt := vwCl_lt hq
  rw [jent_obj hs hlt] at hat
  have h7 : narrow (ty0 j) (.int x) = .int x ∧ fits (ty0 j) (.int x) = true := by
    have h8 := ht0 j hj2
    rw [hty] at h8
    cases b with
    | false =>
      have : ty0 j = .int := (Option.some.inj (h8.symm.trans (by decide +kernel : parseFieldDescriptor "I" = some .int)))
      rw [this]; exact ⟨rfl, rfl⟩
    | true =>
      have : ty0 j = .boolean := (Option.some.inj (h8.symm.trans (by decide +kernel : parseFieldDescriptor "Z" = some .boolean)))
      rw [this]
      rcases hbx rfl with e | e <;> subst e <;> exact ⟨by decide +kernel, by decide +kernel⟩
  refine j_put (D := jD G) (cl := vwCl) (tys := jtys G) (ci := ci) (C := q.1) (T := q.2.1) (N := q.2.2) hx hb hts (jin_g (List.mem_of_getElem? hq)) ty0 ht0 hnm0 hown hO.2.1 hat hq j hj2 (hts _ hw) (Or.inl hfin) h7.1 h7.2 (by simp [hj]) hd (fun H1 a hat1 z oq => ?_)
  refine kk p e R s m args below meth c Q C X H1 _ ls ?_ (hS.put z oq (by show jb G ≤ jad G k; rw [jad_eq hO.1 (by have := hW.2.2; omega)]; omega)) hl hc hsl
  refine jW.upd hO.1 hW hk z oq (fun a ha => jup_ne ha) (fun _ _ => rfl) ?_
  rw [jent_obj hs hlt, ← jfs_set hj hr]
  exact hat1
theorem J_putF {i ci j k N x : Nat} (hd : decode md.2.2.1 pc = .ok (.putfield i, 3)) (hf : jRL md.1 i ci j) (hi : md.2.1.name = "<init>") (hk : k < n) (hs : sh k = (ci, N)) (hj : j < N) (hr : jref ci j = true) (kk : J G d md (pc + 3) lv st n sh M (jrup r k j (some x)) c0 s0 mc ms post) : J G d md pc lv (.ref x :: .ref k :: st) n sh M r c0 s0 mc ms post := by
  intro p e R s m args below meth c Q C X H locs ls hW hS hl hc hsl
  obtain ⟨hx, hb, hml, hown, hts, hlk, hrt, hnm, hO, hR, hsz, hHs⟩ := id C
  obtain ⟨q, hq, hj2, hw, hfin, hdecl, hty⟩ := hf
  obtain ⟨ty0, ht0, hnm0⟩ := jty_cls q (List.mem_of_getElem? hq)
  have hat := hW.2.1 k hk
  have hlt := vwCl_lt hq
  rw [jent_obj hs hlt] at hat
  have h7 : narrow (ty0 j) (.ref (jad G x)) = .ref (jad G x) ∧ fits (ty0 j) (.ref (jad G x)) = true := by
    have h8 := ht0 j hj2
    rcases hty with ⟨t, h9⟩ | ⟨t, h9⟩
    · rw [Option.some.inj (h8.symm.trans h9)]; exact ⟨rfl, rfl⟩
    · rw [Option.some.inj (h8.symm.trans h9)]; exact ⟨rfl, rfl⟩
  refine j_put (D := jD G) (cl := vwCl) (tys := jtys G) (ci := ci) (C := q.1) (T := q.2.1) (N := q.2.2) hx hb hts (jin_g (List.mem_of_getElem? hq)) ty0 ht0 hnm0 hown hO.2.1 hat hq j hj2 (hts _ hw) (Or.inr ⟨hfin, hnm.trans hi, hdecl⟩) h7.1 h7.2 (by simp [hj]) hd (fun H1 a hat1 z oq => ?_)
  refine kk p e R s m args below meth c Q C X H1 _ ls ?_ (hS.put z oq (by show jb G ≤ jad G k; rw [jad_eq hO.1 (by have := hW.2.2; omega)]; omega)) hl hc hsl
  refine jW.upd hO.1 hW hk z oq (fun _ _ => rfl) (fun a ha => jrup_ne ha) ?_
  rw [jent_obj hs hlt, ← jfs_setR hj hr]
  exact hat1
theorem J_iald {k N : Nat} {i : Int32} (hd : decode md.2.2.1 pc = .ok (.iaload, 1)) (hk : k < n) (hs : sh k = (100, N)) (hi : vp_in i N) (kk : J G d md (pc + 1) lv (.int (M k i.toNatClampNeg) :: st) n sh M r c0 s0 mc ms post) : J G d md pc lv (.int i :: .ref k :: st) n sh M r c0 s0 mc ms post := by
  intro p e R s m args below meth c Q C X H locs ls hW hS hl hc hsl
  have hat := hW.2.1 k hk
  rw [jent_int (t := 0) hs (by omega)] at hat
  exact va_iald (D := jD G) (cl := vwCl) (tys := jtys G) C.1 C.2.1 C.2.2.2.2.2.2.2.2.1.2.1 (jP1 hat) 0 0 rfl rfl hi hd (kk p e R s m args below meth c Q C X H locs ls hW hS hl hc hsl)
theorem J_bald {k N : Nat} {i : Int32} (hd : decode md.2.2.1 pc = .ok (.baload, 1)) (hk : k < n) (hs : sh k = (101, N)) (hi : vp_in i N) (kk : J G d md (pc + 1) lv (.int (M k i.toNatClampNeg) :: st) n sh M r c0 s0 mc ms post) : J G d md pc lv (.int i :: .ref k :: st) n sh M r c0 s0 mc ms post := by
  intro p e R s m args below meth c Q C X H locs ls hW hS hl hc hsl
  have hat := hW.2.1 k hk
  rw [jent_int (t := 1) hs (by omega)] at hat
  exact va_bald (D := jD G) (cl := vwCl) (tys := jtys G) C.1 C.2.1 C.2.2.2.2.2.2.2.2.1.2.1 (jP1 hat) 0 1 rfl rfl hi hd (kk p e R s m args below meth c Q C X H locs ls hW hS hl hc hsl)
theorem J_zald {k N : Nat} {i : Int32} (hd : decode md.2.2.1 pc = .ok (.baload, 1)) (hk : k < n) (hs : sh k = (102, N)) (hi : vp_in i N) (kk : J G d md (pc + 1) lv (.int (M k i.toNatClampNeg) :: st) n sh M r c0 s0 mc ms post) : J G d md pc lv (.int i :: .ref k :: st) n sh M r c0 s0 mc ms post := by
  intro p e R s m args below meth c Q C X H locs ls hW hS hl hc hsl
  have hat := hW.2.1 k hk
  rw [jent_int (t := 2) hs (by omega)] at hat
  exact va_zald (D := jD G) (cl := vwCl) (tys := jtys G) C.1 C.2.1 C.2.2.2.2.2.2.2.2.1.2.1 (jP1 hat) 0 2 rfl rfl hi hd (kk p e R s m args below meth c Q C X H locs ls hW hS hl hc hsl)
theorem J_aald {k N : Nat} {i : Int32} (x : Nat) (hd : decode md.2.2.1 pc = .ok (.aaload, 1)) (hk : k < n) (hs : sh k = (103, N)) (hi : vp_in i N) (hv : r k i.toNatClampNeg = some x) (kk : J G d md (pc + 1) lv (.ref x :: st) n sh M r c0 s0 mc ms post) : J G d md pc lv (.int i :: .ref k :: st) n sh M r c0 s0 mc ms post := by
  intro p e R s m args below meth c Q C X H locs ls hW hS hl hc hsl
  have hat := hW.2.1 k hk
  rw [jent_ref hs] at hat
  refine va_aldq (D := jD G) (cl := vwCl) (tys := jtys G) C.1 C.2.1 C.2.2.2.2.2.2.2.2.1.2.1 (jP1 hat) 0 3 rfl rfl hi hd ?_
  rw [hv]
  exact kk p e R s m args below meth c Q C X H locs ls hW hS hl hc hsl
theorem J_iast {k N : Nat} {i x : Int32} (hd : decode md.2.2.1 pc = .ok (.iastore, 1)) (hk : k < n) (hs : sh k = (100, N)) (hi : vp_in i N) (kk : J G d md (pc + 1) lv st n sh (jup M k i.toNatClampNeg x) r c0 s0 mc ms post) : J G d md pc lv (.int x :: .int i :: .ref k :: st) n sh M r c0 s0 mc ms post := by
  intro p e R s m args below meth c Q C X H locs ls hW hS hl hc hsl
  obtain ⟨hx, hb, hml, hown, hts, hlk, hrt, hnm, hO, hR, hsz, hHs⟩ := id C
  have hat := hW.2.1 k hk
  rw [jent_int (t := 0) hs (by omega)] at hat
  refine W.iast hx hb hat ((hO.2.1.2 0 _ rfl).1 N (fun j => .int (M k j))) (fun q => by cases q) (by show ¬ (i < 0 ∨ (arrV _ _ _).slots.size ≤ _); rw [arrV_size]; exact hi) rfl rfl hd fun H1 e1 z oq => ?_
  refine kk p e R s m args below meth c Q C X H1 _ ls ?_ (hS.put z oq (by show jb G ≤ jad G k; rw [jad_eq hO.1 (by have := hW.2.2; omega)]; omega)) hl hc hsl
  refine jW.upd hO.1 hW hk z oq (fun a ha => jup_ne ha) (fun _ _ => rfl) ?_
  rw [jent_int (t := 0) hs (by omega), jup_upd]
  exact e1.trans (congrArg some j_vpset)
theorem J_bast {k N : Nat} {i x : Int32} (hd : decode md.2.2.1 pc = .ok (.bastore, 1)) (hk : k < n) (hs : sh k = (101, N)) (hi : vp_in i N) (kk : J G d md (pc + 1) lv st n sh (jup M k i.toNatClampNeg (vp_nar .byte x)) r c0 s0 mc ms post) : J G d md pc lv (.int x :: .int i :: .ref k :: st) n sh M r c0 s0 mc ms post := by
  intro p e R s m args below meth c Q C X H locs ls hW hS hl hc hsl
  obtain ⟨hx, hb, hml, hown, hts, hlk, hrt, hnm, hO, hR, hsz, hHs⟩ := id C
  have hat := hW.2.1 k hk
  rw [jent_int (t := 1) hs (by omega)] at hat
  refine W.bast hx hb hat ((hO.2.1.2 1 _ rfl).1 N (fun j => .int (M k j))) (fun q => by cases q) (by show ¬ (i < 0 ∨ (arrV _ _ _).slots.size ≤ _); rw [arrV_size]; exact hi) rfl rfl hd fun H1 e1 z oq => ?_
  refine kk p e R s m args below meth c Q C X H1 _ ls ?_ (hS.put z oq (by show jb G ≤ jad G k; rw [jad_eq hO.1 (by have := hW.2.2; omega)]; omega)) hl hc hsl
  refine jW.upd hO.1 hW hk z oq (fun a ha => jup_ne ha) (fun _ _ => rfl) ?_
  rw [jent_int (t := 1) hs (by omega), jup_upd]
  have h9 : narrow .byte (.int x) = .int (vp_nar .byte x) := rfl
  rw [h9] at e1
  exact e1.trans (congrArg some j_vpset)
theorem J_zast {k N : Nat} {i x : Int32} (hd : decode md.2.2.1 pc = .ok (.bastore, 1)) (hk : k < n) (hs : sh k = (102, N)) (hi : vp_in i N) (kk : J G d md (pc + 1) lv st n sh (jup M k i.toNatClampNeg (vp_nar .boolean x)) r c0 s0 mc ms post) : J G d md pc lv (.int x :: .int i :: .ref k :: st) n sh M r c0 s0 mc ms post := by
  intro p e R s m args below meth c Q C X H locs ls hW hS hl hc hsl
  obtain ⟨hx, hb, hml, hown, hts, hlk, hrt, hnm, hO, hR, hsz, hHs⟩ := id C
  have hat := hW.2.1 k hk
  rw [jent_int (t := 2) hs (by omega)] at hat
  refine W.zast hx hb hat ((hO.2.1.2 2 _ rfl).1 N (fun j => .int (M k j))) (fun q => by cases q) (by show ¬ (i < 0 ∨ (arrV _ _ _).slots.size ≤ _); rw [arrV_size]; exact hi) rfl rfl hd fun H1 e1 z oq => ?_
  refine kk p e R s m args below meth c Q C X H1 _ ls ?_ (hS.put z oq (by show jb G ≤ jad G k; rw [jad_eq hO.1 (by have := hW.2.2; omega)]; omega)) hl hc hsl
  refine jW.upd hO.1 hW hk z oq (fun a ha => jup_ne ha) (fun _ _ => rfl) ?_
  rw [jent_int (t := 2) hs (by omega), jup_upd]
  have h9 : narrow .boolean (.int x) = .int (vp_nar .boolean x) := rfl
  rw [h9] at e1
  exact e1.trans (congrArg some j_vpset)
theorem J_aast {k N x : Nat} {i : Int32} (hd : decode md.2.2.1 pc = .ok (.aastore, 1)) (hk : k < n) (hs : sh k = (103, N)) (hi : vp_in i N) (hxn : x < n) (hsx : sh x = (6, 8)) (kk : J G d md (pc + 1) lv st n sh M (jrup r k i.toNatClampNeg (some x)) c0 s0 mc ms post) : J G d md pc lv (.ref x :: .int i :: .ref k :: st) n sh M r c0 s0 mc ms post := by
  intro p e R s m args below meth c Q C X H locs ls hW hS hl hc hsl
  obtain ⟨hx, hb, hml, hown, hts, hlk, hrt, hnm, hO, hR, hsz, hHs⟩ := id C
  have hat := hW.2.1 k hk
  rw [jent_ref hs] at hat
  have hax := hW.2.1 x hxn
  rw [jent_obj hsx (by omega)] at hax
  have h0 : ¬ i < 0 := fun q => hi (Or.inl q)
  have hlt : i.toNatClampNeg < N := Nat.not_le.mp fun q => hi (Or.inr q)
  obtain ⟨r', hr', cellV, g1, g2, g3, -⟩ := hax
  have hcls := (hO.2.1.1 6 _ rfl).2
  obtain ⟨kA, comp, k1, k2, k3, -⟩ := (hO.2.1.2 3 _ rfl).2
  have hcomp : comp = (jD G).1 6 := Option.some.inj (k3.symm.trans hcls.1)
  subst hcomp
  obtain ⟨kC, hkC, -⟩ := hcls.2
  refine W.aast hx hb hat (fun q h => by cases h) (fun h => by cases h) k1 k2 rfl hkC ⟨h0, by show _ < (arrV _ _ _).slots.size; rw [arrV_size]; exact hlt⟩ g1 (fun q h => by rw [g3] at h; cases h) (by rw [g2]; exact hkC) (by rw [g2]; exact va_assign hcls) rfl rfl hd fun H1 e1 z oq => ?_
  refine kk p e R s m args below meth c Q C X H1 _ ls ?_ (hS.put z oq (by show jb G ≤ jad G k; rw [jad_eq hO.1 (by have := hW.2.2; omega)]; omega)) hl hc hsl
  refine jW.upd hO.1 hW hk z oq (fun _ _ => rfl) (fun a ha => jrup_ne ha) ?_
  rw [jent_ref hs, jrup_up]
  refine e1.trans (congrArg some (j_vpsetq.trans ?_))
  congr 6
  funext q
  by_cases hq : q = i.toNatClampNeg
  · subst hq; simp [va_up]
  · simp [va_up, hq]
theorem J_alen {k t N : Nat} (v : Int32) (hd : decode md.2.2.1 pc = .ok (.arraylength, 1)) (hk : k < n) (hs : sh k = (100 + t, N)) (ht : t < 3) (hv : Int32.ofNat N = v) (kk : J G d md (pc + 1) lv (.int v :: st) n sh M r c0 s0 mc ms post) : J G d md pc lv (.ref k :: st) n sh M r c0 s0 mc ms post := by
  intro p e R s m args below meth c Q C X H locs ls hW hS hl hc hsl
  have hat := hW.2.1 k hk
  rw [jent_int hs ht] at hat
  match t, ht with
  | 0, _ => exact va_alen (D := jD G) (cl := vwCl) (tys := jtys G) C.1 C.2.1 C.2.2.2.2.2.2.2.2.1.2.1 (jP1 hat) 0 0 rfl rfl hv hd (kk p e R s m args below meth c Q C X H locs ls hW hS hl hc hsl)
  | 1, _ => exact va_alen (D := jD G) (cl := vwCl) (tys := jtys G) C.1 C.2.1 C.2.2.2.2.2.2.2.2.1.2.1 (jP1 hat) 0 1 rfl rfl hv hd (kk p e R s m args below meth c Q C X H locs ls hW hS hl hc hsl)
  | 2, _ => exact va_alen (D := jD G) (cl := vwCl) (tys := jtys G) C.1 C.2.1 C.2.2.2.2.2.2.2.2.1.2.1 (jP1 hat) 0 2 rfl rfl hv hd (kk p e R s m args below meth c Q C X H locs ls hW hS hl hc hsl)
theorem j_oldH {G : jGT} {s : State} {H : Heap} {locs : List Loc} (hG : jGok G) (hsz : jb G ≤ s.heap.size) (hHs : ∀ q, q < jb G → s.heap[q]? = (jHs G)[q]?) (hS : va_S (jA G) s.heap H locs) {a : Nat} {cell : Cell} (h : (jHs G)[a]? = some cell) : H[a]? = some cell := by
  have h1 : a < jb G := hG.1 ▸ (Array.getElem?_eq_some_iff.mp h).1
  rw [hS.2.1 a (by omega) (by show ¬ jb G ≤ a; omega), hHs a h1, h]
theorem J_ialdO {k N : Nat} {f : Nat → Int32} {i : Int32} (hd : decode md.2.2.1 pc = .ok (.iaload, 1)) (hk : jold G k = some (N, f)) (hi : vp_in i N) (kk : J G d md (pc + 1) lv (.int (f i.toNatClampNeg) :: st) n sh M r c0 s0 mc ms post) : J G d md pc lv (.int i :: .ref k :: st) n sh M r c0 s0 mc ms post := by
  intro p e R s m args below meth c Q C X H locs ls hW hS hl hc hsl
  obtain ⟨hx, hb, hml, hown, hts, hlk, hrt, hnm, hO, hR, hsz, hHs⟩ := id C
  obtain ⟨hN, cell, h1, h2, h3, h4, h5, h6, h7⟩ := hO.2.2.2.2.2.2.1 k N f hk
  have hlt : i.toNatClampNeg < N := Nat.not_le.mp fun q => hi (Or.inr q)
  exact W.iald hx hb (j_oldH hO.1 hsz hHs hS h1) h2 h3 (fun q => hi (q.imp id (fun q => Nat.le_trans h4 q))) (h6 _ hlt) rfl rfl hd (kk p e R s m args below meth c Q C X H locs ls hW hS hl hc hsl)
theorem J_alenO {k N : Nat} {f : Nat → Int32} (hd : decode md.2.2.1 pc = .ok (.arraylength, 1)) (hk : jold G k = some (N, f)) (kk : J G d md (pc + 1) lv (.int (Int32.ofNat N) :: st) n sh M r c0 s0 mc ms post) : J G d md pc lv (.ref k :: st) n sh M r c0 s0 mc ms post := by
  intro p e R s m args below meth c Q C X H locs ls hW hS hl hc hsl
  obtain ⟨hx, hb, hml, hown, hts, hlk, hrt, hnm, hO, hR, hsz, hHs⟩ := id C
  obtain ⟨hN, cell, h1, h2, h3, h4, h5, h6, h7⟩ := hO.2.2.2.2.2.2.1 k N f hk
  exact W.alen hx hb (j_oldH hO.1 hsz hHs hS h1) h2 h5 rfl rfl hd (kk p e R s m args below meth c Q C X H locs ls hW hS hl hc hsl)
theorem j_Z {G : jGT} {s : State} {C n d : String} {v : Value} (hG : jGok G) (hHs : ∀ q, q < jb G → s.heap[q]? = (jHs G)[q]?) (h : va_Z C n d v (jA G) s (jHs G)) : va_Z C n d v (jA G) s s.heap := h.kept fun a ha _ => hHs a (hG.1 ▸ ha)
theorem J_getsA {i : Nat} (hd : decode md.2.2.1 pc = .ok (.getstatic i, 3)) (hw : Cond.fieldLink md.1 i RX7 "ABOVE" "[I" ∈ gTbl) (kk : J G d md (pc + 3) lv (.ref 1000 :: st) n sh M r c0 s0 mc ms post) : J G d md pc lv st n sh M r c0 s0 mc ms post := by
  intro p e R s m args below meth c Q C X H locs ls hW hS hl hc hsl
  obtain ⟨hx, hb, hml, hown, hts, hlk, hrt, hnm, hO, hR, hsz, hHs⟩ := id C
  exact va_gets hx hb (j_Z hO.1 hHs hO.2.2.2.2.1) hS hown (hts _ hw) (fun _ h => h) hd (kk p e R s m args below meth c Q C X H locs ls hW hS hl hc hsl)
theorem J_getsB {i : Nat} (hd : decode md.2.2.1 pc = .ok (.getstatic i, 3)) (hw : Cond.fieldLink md.1 i RX1 "BODIES" "[I" ∈ gTbl) (kk : J G d md (pc + 3) lv (.ref 1001 :: st) n sh M r c0 s0 mc ms post) : J G d md pc lv st n sh M r c0 s0 mc ms post := by
  intro p e R s m args below meth c Q C X H locs ls hW hS hl hc hsl
  obtain ⟨hx, hb, hml, hown, hts, hlk, hrt, hnm, hO, hR, hsz, hHs⟩ := id C
  exact va_gets hx hb (j_Z hO.1 hHs hO.2.2.2.2.2.1) hS hown (hts _ hw) (fun _ h => h) hd (kk p e R s m args below meth c Q C X H locs ls hW hS hl hc hsl)
theorem J_getsN (hd : decode md.2.2.1 pc = .ok (.getstatic 39, 3)) (hm : md.1 = RX1) (kk : J G d md (pc + 3) lv (.ref 1000 :: st) n sh M r c0 s0 mc ms post) : J G d md pc lv st n sh M r c0 s0 mc ms post := by
  intro p e R s m args below meth c Q C X H locs ls hW hS hl hc hsl
  obtain ⟨hx, hb, hml, hown, hts, hlk, hrt, hnm, hO, hR, hsz, hHs⟩ := id C
  rw [hm] at hown
  exact va_getsN hx hb (j_Z hO.1 hHs hO.2.2.2.2.1) hS hown (va_Nw.use rfl (hO.2.2.2.1 _ (List.mem_append_left _ List.mem_cons_self))) (fun _ h => h) hd (kk p e R s m args below meth c Q C X H locs ls hW hS hl hc hsl)
theorem j_copyok {G : jGT} {sh : jS} {M : jM} {r : jR} {k t N : Nat} {H : Heap} (hs : sh k = (100 + t, N)) (ht : t < 3) (hat : va_at (jD G) vwCl (jad G k, jent G sh M r k) H) : H[jad G k]? = some (vp_cell (jcA G t) (N, .inl (M k))) := by
  rw [jent_int hs ht] at hat
  exact hat
/-- System.arraycopy(x, 0, y, 0, N) between int arrays (t 0) or byte arrays (t 1) -/
theorem J_copy {i k k' t N N' : Nat} {q : Int32} (hd : decode md.2.2.1 pc = .ok (.invokestatic i, 3)) (hw : Cond.methodLink md.1 i arraycopyName ∈ gTbl) (hk : k < n) (hs : sh k = (100 + t, N)) (hk' : k' < n) (hs' : sh k' = (100 + t, N')) (ht : t < 2) (hq : ¬ q < 0) (hqN : q.toNatClampNeg ≤ N) (hqN' : q.toNatClampNeg ≤ N') (hd2 : 2 ≤ d)
    (hfit : t = 1 → ∀ j, j < N → fits .byte (.int (M k j)) = true) (hst : (st.map fun v => v.category).sum ≤ 8)
    (kk : J G d md (pc + 3) lv st n sh (fun a b => if a = k' then (if b < q.toNatClampNeg then M k b else M k' b) else M a b) r c0 s0 mc ms post) : J G d md pc lv (.int q :: .int 0 :: .ref k' :: .int 0 :: .ref k :: st) n sh M r c0 s0 mc ms post := by
  intro p e R s m args below meth c Q C X H locs ls hW hS hl hc hsl
  obtain ⟨hx, hb, hml, hown, hts, hlk, hrt, hnm, hO, hR, hsz, hHs⟩ := id C
  have hg : ∀ w ∈ ([.native arraycopyName, .static arraycopyName, .initialized "java/lang/System"] : List Cond), w ∈ gTbl := by decide +kernel
  have hnf : nativeFrameWords "java/lang/System" "arraycopy" 5 + 19 ≤ 80 := by decide +kernel
  have hty : (jtys G)[t]? = some (jcA G t, if t = 0 then .int else .byte) := by
    match t, ht with
    | 0, _ => rfl
    | 1, _ => rfl
  have hl2 : 40 * d ≤ R.locals := hR.2.1
  have hsum : ((List.map (jrn (jad G)) st).map fun v => v.category).sum ≤ 8 := by rw [j_cats]; exact hst
  refine j_copyi (D := jD G) (cl := vwCl) (tys := jtys G) hx hb (hml.trans hl.1.1.symm) hown (hts _ hw) (hts _ (hg _ (by simp))) (hts _ (hg _ (by simp))) (hts _ (hg _ (by simp))) hO.2.1 t t (j_copyok hs (by omega) (hW.2.1 k hk)) (j_copyok hs' (by omega) (hW.2.1 k' hk')) hty hty (by split <;> rfl) (by decide) (by decide) hq (by simpa using hqN) (by simpa using hqN') ?_ (by have := hR.1; omega) (by omega) hd (fun H1 L1 hL1 e1 z oq => ?_)
  · intro j hj
    by_cases h0 : t = 0
    · subst h0; rfl
    · have h1 : t = 1 := by omega
      subst h1
      exact hfit rfl _ (by simpa using Nat.lt_of_lt_of_le hj hqN)
  · have hA : jA G (jad G k') := by show jb G ≤ jad G k'; rw [jad_eq hO.1 (by have := hW.2.2; omega)]; omega
    refine kk p e R s m args below meth c Q C X H1 _ ls ?_ ⟨by rw [z]; exact hS.1, fun x h1 h2 => by rw [oq x (fun e => h2 (by rw [e]; exact hA))]; exact hS.2.1 x h1 h2, fun x hx => by
      rcases List.mem_append.mp hx with h | h
      · exact hS.2.2 x h
      · rw [hL1 x h]; exact hA⟩ hl hc hsl
    refine jW.upd hO.1 hW hk' z oq (fun a ha => by funext b; simp [ha]) (fun _ _ => rfl) ?_
    rw [jent_int hs' (by omega)]
    refine e1.trans ?_
    congr 4
    funext b
    simp [va_cpy]
theorem J_new {i ci N : Nat} (hd : decode md.2.2.1 pc = .ok (.new i, 3)) (q : vw_C) (hq : vwCl[ci]? = some q) (hN : q.2.2 = N) (hcl : Cond.classLink md.1 i q.1 ∈ gTbl) (hin : Cond.instantiable q.1 N ∈ gTbl) (hini : Cond.initialized q.1 ∈ gTbl) (hc1 : c0 + 1 ≤ mc) (hs1 : s0 + N ≤ ms) (hn : n < 1000)
    (hty : ∀ j, j < N → ∀ ty, parseFieldDescriptor (q.2.1 j).2.2.1 = some ty → defaultValue ty = if jref ci j = true then .null else .int 0)
    (hM : M n = fun _ => 0) (hr : r n = fun _ => none)
    (kk : J G d md (pc + 3) lv (.ref n :: st) (n + 1) (fun a => if a = n then (ci, N) else sh a) M r (c0 + 1) (s0 + N) mc ms post) : J G d md pc lv st n sh M r c0 s0 mc ms post := by
  intro p e R s m args below meth c Q C X H locs ls hW hS hl hc hsl
  obtain ⟨hx, hb, hml, hown, hts, hlk, hrt, hnm, hO, hR, hsz, hHs⟩ := id C
  subst hN
  have hKn := hO.2.1.1 ci _ hq
  obtain ⟨ty0, ht0, hnm0⟩ := jty_cls q (List.mem_of_getElem? hq)
  refine W.newcK hx hb hown (hts _ hcl) (hts _ hin) (hts _ hini) rfl hd (by have := hR.2.2.1; omega) (by have := hR.2.2.2; omega) hKn.2.1 hW.1 fun H1 kC hkC e1 z1 o1 => ?_
  rw [← jad_eq hO.1 hn] at e1 ⊢
  refine kk p e R s m args below meth c Q C X H1 locs ls ?_ ⟨Nat.le_trans hS.1 (by rw [z1, hW.1]; omega), fun x h1 h2 => (o1 x (by have := hS.1; have := hW.1; omega)).trans (hS.2.1 x h1 h2), hS.2.2⟩ hl hc1 hs1
  refine ⟨by rw [z1]; omega, fun k hk => ?_, by omega⟩
  by_cases hkn : k = n
  · subst hkn
    rw [jent_obj (ci := ci) (N := q.2.2) (by simp) (vwCl_lt hq)]
    refine ⟨q, hq, (u_born ty0 hts (jin_g (List.mem_of_getElem? hq)) hKn hkC e1 ht0).to fun j hj => ?_⟩
    rw [hty j hj _ (ht0 j hj)]
    have hj' : j < (q.2).2 := hj
    simp only [vp_V, List.getD_eq_getElem?_getD, List.getElem?_map, List.getElem?_range hj', Option.map_some, Option.getD_some, jfv, hM, hr]
    split <;> rfl
  · have h5 := (hW.2.1 k (by omega)).kept (H1 := H1) (o1 _ (by rw [jad_eq hO.1 (by omega)]; omega))
    have h6 : jent G (fun a => if a = n then (ci, q.2.2) else sh a) M r k = jent G sh M r k := by unfold jent; simp [hkn]
    rw [h6]; exact h5
theorem J_newa {t : Nat} {at1 : ArrayType} {q : Int32} {N : Nat} (hd : decode md.2.2.1 pc = .ok (.newarray at1, 2)) (ht : t < 3) (hat : newarray.typeOf at1 = if t = 0 then .int else if t = 1 then .byte else .boolean) (hw : Cond.arrayClass (newarray.typeOf at1) ∈ gTbl) (hq : ¬ q < 0) (hN : q.toNatClampNeg = N) (hsm : N ≤ 1000) (hc1 : c0 + 1 ≤ mc) (hs1 : s0 + N ≤ ms) (hn : n < 1000)
    (hM : M n = fun _ => 0)
    (kk : J G d md (pc + 2) lv (.ref n :: st) (n + 1) (fun a => if a = n then (100 + t, N) else sh a) M r (c0 + 1) (s0 + N) mc ms post) : J G d md pc lv (.int q :: st) n sh M r c0 s0 mc ms post := by
  intro p e R s m args below meth c Q C X H locs ls hW hS hl hc hsl
  obtain ⟨hx, hb, hml, hown, hts, hlk, hrt, hnm, hO, hR, hsz, hHs⟩ := id C
  have hty : (jtys G)[t]? = some (jcA G t, newarray.typeOf at1) := by
    rw [hat]
    match t, ht with
    | 0, _ => rfl
    | 1, _ => rfl
    | 2, _ => rfl
  have hcb : N * componentBytes (newarray.typeOf at1) ≤ 536870912 := by
    rw [hat]
    match t, ht with
    | 0, _ => exact Nat.le_trans (Nat.mul_le_mul_right _ hsm) (by decide +kernel)
    | 1, _ => exact Nat.le_trans (Nat.mul_le_mul_right _ hsm) (by decide +kernel)
    | 2, _ => exact Nat.le_trans (Nat.mul_le_mul_right _ hsm) (by decide +kernel)
  have hdv : defaultValue (newarray.typeOf at1) = .int 0 := by
    rw [hat]
    match t, ht with
    | 0, _ => rfl
    | 1, _ => rfl
    | 2, _ => rfl
  have hfc : s.vm.findClass ("[" ++ (newarray.typeOf at1).toString) = some (jcA G t) := by
    have h := (hO.2.1.2 t _ hty).2
    revert h
    rw [hat]
    match t, ht with
    | 0, _ => exact fun h => h
    | 1, _ => exact fun h => h
    | 2, _ => exact fun h => h
  refine va_newaK hx hb (hts _ hw) rfl hd rfl hq hN hcb (by have := hR.2.2.1; omega) (by have := hR.2.2.2; omega) hW.1 fun H1 cA e1 z1 o1 hAr hNm => ?_
  have hcA : cA = jcA G t := Option.some.inj (hNm.symm.trans hfc)
  subst hcA
  rw [← jad_eq hO.1 hn] at e1 ⊢
  refine kk p e R s m args below meth c Q C X H1 locs ls ?_ ⟨Nat.le_trans hS.1 (by rw [z1, hW.1]; omega), fun x h1 h2 => (o1 x (by have := hS.1; have := hW.1; omega)).trans (hS.2.1 x h1 h2), hS.2.2⟩ hl hc1 hs1
  refine ⟨by rw [z1]; omega, fun k hk => ?_, by omega⟩
  by_cases hkn : k = n
  · subst hkn
    rw [jent_int (t := t) (N := N) (by simp) ht]
    rw [hM]
    rw [hdv] at e1
    exact e1
  · have h5 := (hW.2.1 k (by omega)).kept (H1 := H1) (o1 _ (by rw [jad_eq hO.1 (by omega)]; omega))
    have h6 : jent G (fun a => if a = n then (100 + t, N) else sh a) M r k = jent G sh M r k := by unfold jent; simp [hkn]
    rw [h6]; exact h5
theorem J_newq {i : Nat} {q : Int32} {N : Nat} (hd : decode md.2.2.1 pc = .ok (.anewarray i, 3)) (hw : Cond.classLink md.1 i RX6 ∈ gTbl) (hq : ¬ q < 0) (hN : q.toNatClampNeg = N) (hsm : N ≤ 1000) (hc1 : c0 + 1 ≤ mc) (hs1 : s0 + N ≤ ms) (hn : n < 1000)
    (hr : r n = fun _ => none)
    (kk : J G d md (pc + 3) lv (.ref n :: st) (n + 1) (fun a => if a = n then (103, N) else sh a) M r (c0 + 1) (s0 + N) mc ms post) : J G d md pc lv (.int q :: st) n sh M r c0 s0 mc ms post := by
  intro p e R s m args below meth c Q C X H locs ls hW hS hl hc hsl
  obtain ⟨hx, hb, hml, hown, hts, hlk, hrt, hnm, hO, hR, hsz, hHs⟩ := id C
  subst hN
  refine W.anew hx hb hown (hts _ hw) (va_AO.use hO.2.2.1) rfl hd rfl hq (by omega) (by have := hR.2.2.1; omega) (by have := hR.2.2.2; omega) fun cA kA comp f1 f2 f3 f4 => ?_
  generalize hH1 : H.push ({ cls := cA, slots := Array.replicate q.toNatClampNeg .null, vm := .none } : Cell) = H1
  have z1 : H1.size = H.size + 1 := by rw [← hH1, Array.size_push]
  have e1 : H1[H.size]? = some (arrV cA q.toNatClampNeg (fun _ => .null)) := by rw [← hH1, Array.getElem?_push_size, ← arrV_new]
  have o1 : ∀ q : Nat, q < H.size → H1[q]? = H[q]? := fun q hq => by rw [← hH1, Array.getElem?_push, if_neg (Nat.ne_of_lt hq)]
  obtain ⟨kA', comp', k1, k2, k3, k4⟩ := (hO.2.1.2 3 _ rfl).2
  have hcA : cA = jcA G 3 := Option.some.inj (f1.symm.trans k4)
  subst hcA
  rw [hW.1, ← jad_eq hO.1 hn] at e1 ⊢
  refine kk p e R s m args below meth c Q C X H1 locs ls ?_ ⟨Nat.le_trans hS.1 (by rw [z1]; omega), fun x h1 h2 => (o1 x (by have := hS.1; omega)).trans (hS.2.1 x h1 h2), hS.2.2⟩ hl hc1 hs1
  refine ⟨by rw [z1, hW.1]; omega, fun k hk => ?_, by omega⟩
  by_cases hkn : k = n
  · subst hkn
    rw [jent_ref (N := q.toNatClampNeg) (by simp), hr]
    exact e1
  · have h5 := (hW.2.1 k (by omega)).kept (H1 := H1) (o1 _ (by rw [jad_eq hO.1 (by omega), hW.1]; omega))
    have h6 : jent G (fun a => if a = n then (103, q.toNatClampNeg) else sh a) M r k = jent G sh M r k := by unfold jent; simp [hkn]
    rw [h6]; exact h5
theorem J_objInit {i k : Nat} (hd : decode md.2.2.1 pc = .ok (.invokespecial i, 3)) (hw : Cond.methodLink md.1 i objectInit ∈ gTbl) (hd1 : 1 ≤ d) (hst : (st.map fun v => v.category).sum ≤ 8) (kk : J G d md (pc + 3) lv st n sh M r c0 s0 mc ms post) : J G d md pc lv (.ref k :: st) n sh M r c0 s0 mc ms post := by
  intro p e R s m args below meth c Q C X H locs ls hW hS hl hc hsl
  obtain ⟨hx, hb, hml, hown, hts, hlk, hrt, hnm, hO, hR, hsz, hHs⟩ := id C
  have hg : ∀ w ∈ ([.instanceMethod objectInit, .code objectInit ⟨#[0xb1]⟩ 1 none] : List Cond), w ∈ gTbl := by decide +kernel
  have hsum : ((List.map (jrn (jad G)) st).map fun v => v.category).sum ≤ 8 := by rw [j_cats]; exact hst
  refine W.objInit hx hb hown (hts _ hw) (hts _ (hg _ (by simp))) (hts _ (hg _ (by simp))) rfl (by rw [hml]; exact hl.1.1) rfl hd (by have := hR.1; omega) (by have := hR.2.1; show 2 * 0 + _ + _ ≤ _; omega) ?_
  exact kk p e R s m args below meth c Q C X H locs ls hW hS hl hc hsl
end JR2
end
section
theorem jO.same {G : jGT} {s U : State} (h : jO G s) (hv : s.vm = U.vm) : jO G U := by
  have hA : s.vm.Alike U.vm := by rw [hv]; exact Vm.Alike.refl _
  exact ⟨h.1, va_K.moved hA h.2.1, h.2.2.1.moved hA, fun w hw => by
    refine va_Nw.same ?_ hv (h.2.2.2.1 w hw)
    rcases List.mem_append.mp hw with h1 | h1
    · rcases List.mem_singleton.mp h1 with rfl
      rfl
    · have h2 := (List.mem_filter.mp h1).2
      cases w <;> simp at h2
      rfl, h.2.2.2.2.1.moved hA, h.2.2.2.2.2.1.moved hA, fun k N f e => ⟨(h.2.2.2.2.2.2.1 k N f e).1, (h.2.2.2.2.2.2.1 k N f e).2.moved hA⟩, h.2.2.2.2.2.2.2.alike hA fun own k tx a q => vk_R.same hv.symm q⟩
section JS1
variable {G : jGT} {d : Nat} {md : jMD} {pc : Nat} {lv : List (Option Value)} {st : List Value} {n : Nat} {sh : jS} {M : jM} {r : jR} {c0 s0 mc ms : Nat} {post : jP}
theorem J_ldcS {i t : Nat} {tx : String} (hd : decode md.2.2.1 pc = .ok (.ldc i, 2)) (hq : (md.1, i, tx, t) ∈ jSrefs) (kk : J G d md (pc + 2) lv (.ref (3000 + t) :: st) n sh M r c0 s0 mc ms post) : J G d md pc lv st n sh M r c0 s0 mc ms post := by
  intro p e R s m args below meth c Q C X H locs ls hW hS hl hc hsl
  obtain ⟨hx, hb, hml, hown, hts, hlk, hrt, hnm, hO, hR, hsz, hHs⟩ := id C
  exact va_ldcS hx hb hown (hO.2.2.2.2.2.2.2.2.2.2 _ hq) hd (kk p e R s m args below meth c Q C X H locs ls hW hS hl hc hsl)
theorem J_getSV {i t : Nat} (hd : decode md.2.2.1 pc = .ok (.getfield i, 3)) (hw : Cond.fieldLink md.1 i RJ0 "value" "[B" ∈ gTbl) (ht : t < 5) (kk : J G d md (pc + 3) lv (.ref (4000 + t) :: st) n sh M r c0 s0 mc ms post) : J G d md pc lv (.ref (3000 + t) :: st) n sh M r c0 s0 mc ms post := by
  intro p e R s m args below meth c Q C X H locs ls hW hS hl hc hsl
  obtain ⟨hx, hb, hml, hown, hts, hlk, hrt, hnm, hO, hR, hsz, hHs⟩ := id C
  exact vk_getf hx hb ((hO.2.2.2.2.2.2.2.2.2.1 t ht).2.2.1.kept fun a ha _ => hHs a (hO.1.1 ▸ ha)) hS hown (hts _ hw) (fun _ h => h) hd (kk p e R s m args below meth c Q C X H locs ls hW hS hl hc hsl)
theorem J_getSC {i t : Nat} (hd : decode md.2.2.1 pc = .ok (.getfield i, 3)) (hw : Cond.fieldLink md.1 i RJ0 "coder" "B" ∈ gTbl) (ht : t < 5) (kk : J G d md (pc + 3) lv (.int 0 :: st) n sh M r c0 s0 mc ms post) : J G d md pc lv (.ref (3000 + t) :: st) n sh M r c0 s0 mc ms post := by
  intro p e R s m args below meth c Q C X H locs ls hW hS hl hc hsl
  obtain ⟨hx, hb, hml, hown, hts, hlk, hrt, hnm, hO, hR, hsz, hHs⟩ := id C
  exact vk_getf hx hb ((hO.2.2.2.2.2.2.2.2.2.1 t ht).2.1.kept fun a ha _ => hHs a (hO.1.1 ▸ ha)) hS hown (hts _ hw) (fun _ h => h) hd (kk p e R s m args below meth c Q C X H locs ls hW hS hl hc hsl)
theorem J_getCS {i : Nat} (hd : decode md.2.2.1 pc = .ok (.getstatic i, 3)) (hw : Cond.fieldLink md.1 i RJ0 "COMPACT_STRINGS" "Z" ∈ gTbl) (kk : J G d md (pc + 3) lv (.int 1 :: st) n sh M r c0 s0 mc ms post) : J G d md pc lv st n sh M r c0 s0 mc ms post := by
  intro p e R s m args below meth c Q C X H locs ls hW hS hl hc hsl
  obtain ⟨hx, hb, hml, hown, hts, hlk, hrt, hnm, hO, hR, hsz, hHs⟩ := id C
  exact va_gets hx hb (j_Z hO.1 hHs hO.2.2.2.2.2.2.2.1) hS hown (hts _ hw) (fun _ h => h) hd (kk p e R s m args below meth c Q C X H locs ls hW hS hl hc hsl)
theorem J_getFM {i : Nat} (hd : decode md.2.2.1 pc = .ok (.getstatic i, 3)) (hw : Cond.fieldLink md.1 i RJ3 "SIOOBE_FORMATTER" jFMT ∈ gTbl) (kn : J G d md (pc + 3) lv (.null :: st) n sh M r c0 s0 mc ms post) (kr : J G d md (pc + 3) lv (.ref 5000 :: st) n sh M r c0 s0 mc ms post) : J G d md pc lv st n sh M r c0 s0 mc ms post := by
  intro p e R s m args below meth c Q C X H locs ls hW hS hl hc hsl
  obtain ⟨hx, hb, hml, hown, hts, hlk, hrt, hnm, hO, hR, hsz, hHs⟩ := id C
  rcases hO.2.2.2.2.2.2.2.2.1 with h | h
  · exact va_gets hx hb (j_Z hO.1 hHs h) hS hown (hts _ hw) (fun _ h => h) hd (kn p e R s m args below meth c Q C X H locs ls hW hS hl hc hsl)
  · exact va_gets hx hb (j_Z hO.1 hHs h) hS hown (hts _ hw) (fun _ h => h) hd (kr p e R s m args below meth c Q C X H locs ls hW hS hl hc hsl)
theorem J_baldO {t : Nat} {i : Int32} (hd : decode md.2.2.1 pc = .ok (.baload, 1)) (ht : t < 5) (hi : vp_in i (jSlen.getD t 0)) (kk : J G d md (pc + 1) lv (.int ((jSbyt.getD t []).getD i.toNatClampNeg 0) :: st) n sh M r c0 s0 mc ms post) : J G d md pc lv (.int i :: .ref (4000 + t) :: st) n sh M r c0 s0 mc ms post := by
  intro p e R s m args below meth c Q C X H locs ls hW hS hl hc hsl
  obtain ⟨hx, hb, hml, hown, hts, hlk, hrt, hnm, hO, hR, hsz, hHs⟩ := id C
  exact va_tb hx hb ((hO.2.2.2.2.2.2.2.2.2.1 t ht).2.2.2.kept fun a ha _ => hHs a (hO.1.1 ▸ ha)) hS hi rfl hd (kk p e R s m args below meth c Q C X H locs ls hW hS hl hc hsl)
theorem J_alenS {t : Nat} (v : Int32) (hd : decode md.2.2.1 pc = .ok (.arraylength, 1)) (ht : t < 5) (hv : Int32.ofNat (jSlen.getD t 0) = v) (kk : J G d md (pc + 1) lv (.int v :: st) n sh M r c0 s0 mc ms post) : J G d md pc lv (.ref (4000 + t) :: st) n sh M r c0 s0 mc ms post := by
  intro p e R s m args below meth c Q C X H locs ls hW hS hl hc hsl
  obtain ⟨hx, hb, hml, hown, hts, hlk, hrt, hnm, hO, hR, hsz, hHs⟩ := id C
  obtain ⟨cell, h1, h2, h3, h4, h5, h6, h7⟩ := (hO.2.2.2.2.2.2.2.2.2.1 t ht).2.2.2
  exact W.alen hx hb (j_oldH hO.1 hsz hHs hS h1) h2 (h5.trans hv) rfl rfl hd (kk p e R s m args below meth c Q C X H locs ls hW hS hl hc hsl)
end JS1
def jU (G : jGT) (n : Nat) (sh : jS) (M : jM) (r : jR) (U : State) : Prop := jO G U ∧ jW G n sh M r U.heap ∧ ∀ q, q < jb G → U.heap[q]? = (jHs G)[q]?
def jwords (md : jMD) : List Cond := Cond.code md.2.1 md.2.2.1 md.2.2.2.1 md.2.2.2.2 :: gTbl
def jroom (d mc ms : Nat) : Room := { frames := d, cells := mc, slots := ms, locals := 40 * d }
def jQc (G : jGT) (P : jP) : Array Value → State → Outcome → State → Prop := fun _ u o t => (∃ (v : Option Value) (n' : Nat) (sh' : jS) (M' : jM) (r' : jR), o = .returned (v.map (jrn (jad G))) ∧ P v n' sh' M' r' ∧ jU G n' sh' M' r' t) ∧ va_F (jA G) u t
/-- the contract of a method: from these arguments and this world it comes back, and P holds of what comes back and of the world -/
def Con (G : jGT) (d : Nat) (md : jMD) (A : List Value) (n : Nat) (sh : jS) (M : jM) (r : jR) (mc ms : Nat) (P : jP) : Prop :=
  Met (jl G) md.2.1 (jwords md) (jroom d mc ms) (va_Pc (jst G A) (jU G n sh M r)) (jQc G P) mc ms (jA G)
def jMok (md : jMD) : Prop := md.1 = md.2.1.cls ∧ plainName md.2.1.cls = true
def jargs : List Value → List (Option Value)
  | [] => []
  | v :: vs => if v.category = 2 then some v :: none :: jargs vs else some v :: jargs vs
theorem jargs_toL (ad : Nat → Nat) (k : Nat) : ∀ (A : List Value) (i : Nat), jtoL ad i (jargs A ++ List.replicate k none) = lv_args i (A.map (jrn ad)) := by
  have h0 : ∀ (k i : Nat), jtoL ad i (List.replicate k none) = [] := by
    intro k
    induction k with
    | zero => intro i; rfl
    | succ k ih => intro i; rw [List.replicate_succ]; exact ih (i + 1)
  intro A
  induction A with
  | nil => intro i; exact h0 k i
  | cons v vs ih =>
    intro i
    show jtoL ad i ((if v.category = 2 then some v :: none :: jargs vs else some v :: jargs vs) ++ _) = lv_args i (jrn ad v :: vs.map (jrn ad))
    rw [lv_args, jrn_cat]
    by_cases h : v.category = 2
    · rw [if_pos h, if_pos h, ← ih (i + 2)]
      rfl
    · rw [if_neg h, if_neg h, ← ih (i + 1)]
      rfl
theorem jargs_len (A : List Value) (ad : Nat → Nat) : (jargs A).length = (lg_sl (A.map (jrn ad))).length := by
  induction A with
  | nil => rfl
  | cons v vs ih =>
    have e : lg_sl ((v :: vs).map (jrn ad)) = (if (jrn ad v).category = 2 then [.val (jrn ad v), .second] else [.val (jrn ad v)]) ++ lg_sl (vs.map (jrn ad)) := by
      simp only [lg_sl, List.map_cons, List.flatMap_cons]
    rw [e, jrn_cat]
    unfold jargs
    by_cases h : v.category = 2
    · simp [h, ih]
    · simp [h, ih]
theorem jU.called {G : jGT} {n : Nat} {sh : jS} {M : jM} {r : jR} {A : List Value} : FrameBlind (va_Pc A (jU G n sh M r)) := by
  intro a U g mk q
  obtain ⟨q0, q1, q2, q3⟩ := q
  exact ⟨q0, q1.same rfl, q2, q3⟩
/-- the body's proof gives the contract -/
theorem Con_of_J {G : jGT} {d : Nat} {md : jMD} {A : List Value} {n : Nat} {sh : jS} {M : jM} {r : jR} {mc ms : Nat} {P : jP} (hmd : jMok md) (k : Nat) {lv : List (Option Value)} (hlv : jargs A ++ List.replicate k none = lv) (hlen : lv.length = md.2.2.2.1)
    (h : J G d md 0 lv [] n sh M r 0 0 mc ms P) : Con G d md A n sh M r mc ms P := by
  subst hlv
  refine Met.ofW (cc := md.2.2.1) (maxL := md.2.2.2.1) (ret := md.2.2.2.2) hmd.2 rfl ?_
  intro p e s m args below meth c s₁ B hml hv
  obtain ⟨rfl, hO, hW, hHs⟩ := hv
  have hts := atoms_spec (ws := jwords md) B.pre
  have hown : s.vm.findClass md.1 = some m.cls := by rw [hmd.1]; exact findClass_of_methodNamed B.named
  have hnm : meth.name = md.2.1.name := (name_of_methodNamed B.named B.method).1
  rw [lg_entry_eq]
  have hlen2 : (lg_sl (jst G A)).length + k = md.2.2.2.1 := by
    rw [← hlen, List.length_append, List.length_replicate, jargs_len A (jad G)]
    rfl
  have hl := lv_entry (jst G A) (n := md.2.2.2.1) (by omega)
  generalize (lg_sl (jst G A) ++ List.replicate (md.2.2.2.1 - (lg_sl (jst G A)).length) Slot.unset).toArray = ls at hl ⊢
  have hsz : jb G ≤ s.heap.size := by rw [hW.1]; omega
  refine h p e (headSpec (jwords md) (jroom d mc ms)).room s m _ below meth c _ ⟨B.exec, B.bytes, hml, hown, fun w hw => hts w (List.mem_cons_of_mem _ hw), B.notSynchronized, B.returns, hnm, hO, ⟨Nat.le_refl _, Nat.le_refl _, Nat.le_refl _, Nat.le_refl _⟩, hsz, hHs⟩ ?_ s.heap [] ls hW va_S.rf ⟨?_, hlen⟩ (Nat.zero_le _) (Nat.zero_le _)
  · intro H locs ls pc' v n' sh' M' r' hp hret hW' hS'
    have hwl : ∀ t : State, t.heap = H → s.WarmedH t.vm → jU G n' sh' M' r' t := fun t ht hw => ⟨hO.moved hw, by rw [ht]; exact hW', fun q hq => by rw [ht, hS'.2.1 q (by omega) (by show ¬ jb G ≤ q; omega)]; exact hHs q hq⟩
    match v, hret with
    | none, hret => exact W.vret B.exec B.bytes (B.returns.trans hret.2) (fun t ht hw => ⟨⟨none, n', sh', M', r', rfl, hp, hwl t ht hw⟩, hS'.F ht⟩) hS'.2.2 hret.1 B.notSynchronized
    | some (.int x), hret =>
      obtain ⟨h1, ty, h2, h3⟩ := hret
      exact W.zret B.exec B.bytes (B.returns.trans h2) h3 (fun t ht hw => ⟨⟨some (.int x), n', sh', M', r', rfl, hp, hwl t ht hw⟩, hS'.F ht⟩) hS'.2.2 h1 B.notSynchronized
    | some (.long x), hret => exact W.lret B.exec B.bytes (B.returns.trans hret.2) (fun t ht hw => ⟨⟨some (.long x), n', sh', M', r', rfl, hp, hwl t ht hw⟩, hS'.F ht⟩) hS'.2.2 hret.1 B.notSynchronized
    | some (.ref x), hret =>
      obtain ⟨h1, t1, h2⟩ := hret
      exact W.aret B.exec B.bytes (B.returns.trans h2) (Or.inl ⟨_, rfl⟩) (Or.inr ⟨_, rfl⟩) (fun t ht hw => ⟨⟨some (.ref x), n', sh', M', r', rfl, hp, hwl t ht hw⟩, hS'.F ht⟩) hS'.2.2 h1 B.notSynchronized
  · rw [jargs_toL]
    exact hl
theorem j_callk {p : Program} {l : Launch} {e : Env} {R : Room} {s : State} {m : MethodId} {args : Array Value} {below : List Frame} {meth : Method} {c : Code} {H : Heap} {locs : List Loc} {cells slots : Nat} {Q : State → Prop} {pc : Nat} {ls : Array Slot} {rest st0 : List Value} {a : Array Value} {mc ms : Nat} {G : jGT} {P : jP}
    (hr : va_Run p l e R s m args below meth c H locs cells slots mc ms (F0 m pc ls st0) rest (jQc G P a) (jA G)) (hS : va_S (jA G) s.heap H locs)
    (kk : ∀ (v : Option Value) (n' : Nat) (sh' : jS) (M' : jM) (r' : jR) (H1 : Heap) (locs1 : List Loc), P v n' sh' M' r' → jW G n' sh' M' r' H1 → va_S (jA G) s.heap H1 locs1 → W p l e R s m args below meth c H1 locs1 (cells + mc) (slots + ms) Q (F0 m (pc + 3) ls ((v.map (jrn (jad G))).toList ++ rest))) : W p l e R s m args below meth c H locs cells slots Q (F0 m pc ls st0) := by
  intro T hT X
  obtain ⟨v, st₀, t, T', L, h0, X', hL, e1, e2, ⟨⟨v', n', sh', M', r', hv, hp, hU⟩, hz, hk⟩, st⟩ := hr T hT X
  cases hv
  rw [h0] at hz hk
  obtain ⟨t2, a1, b1⟩ := kk v' n' sh' M' r' T'.heap (locs ++ L) hp (by rw [e1]; exact hU.2.1)
    ⟨Nat.le_trans hS.1 (by rw [e1]; exact hz), fun q h1 h2 => by rw [e1, hk q (Nat.lt_of_lt_of_le h1 hS.1) h2]; exact hS.2.1 q h1 h2, fun q hq => by
      rcases List.mem_append.mp hq with h | h
      · exact hS.2.2 q h
      · exact hL q h⟩ T' rfl X'
  exact ⟨t2, st t2 a1, b1⟩
/-- a call's words: k the number of arguments -/
def jVL (own : String) (i : Nat) (md : jMD) (k : Nat) : Prop := (∀ w ∈ ([.methodLink own i md.2.1, .instanceMethod md.2.1, .selects md.2.1.cls md.2.1 md.2.1, .initialized md.2.1.cls, .code md.2.1 md.2.2.1 md.2.2.2.1 md.2.2.2.2] : List Cond), w ∈ gTbl) ∧ md.2.2.2.1 ≤ 21 ∧ md.2.1.cls ≠ "java/lang/invoke/MethodHandle" ∧ md.2.1.cls ≠ "java/lang/invoke/VarHandle" ∧ (parseMethodDescriptor md.2.1.desc).map (fun d => d.parameters.length) = some k
def jSL (own : String) (i : Nat) (md : jMD) (k : Nat) : Prop := (∀ w ∈ ([.methodLink own i md.2.1, .static md.2.1, .initialized md.2.1.cls, .code md.2.1 md.2.2.1 md.2.2.2.1 md.2.2.2.2] : List Cond), w ∈ gTbl) ∧ md.2.2.2.1 ≤ 21 ∧ md.2.1.cls ≠ "java/lang/invoke/MethodHandle" ∧ md.2.1.cls ≠ "java/lang/invoke/VarHandle" ∧ (parseMethodDescriptor md.2.1.desc).map (fun d => d.parameters.length) = some k
/-- a constructor's: by a plain link or a nest mate's -/
def jIL (own : String) (i : Nat) (md : jMD) (k : Nat) : Prop := (∀ w ∈ ([.instanceMethod md.2.1, .initialized md.2.1.cls, .code md.2.1 md.2.2.1 md.2.2.2.1 none] : List Cond), w ∈ gTbl) ∧ md.2.2.2.1 ≤ 21 ∧ md.2.1.cls ≠ "java/lang/invoke/MethodHandle" ∧ md.2.1.cls ≠ "java/lang/invoke/VarHandle" ∧ (parseMethodDescriptor md.2.1.desc).map (fun d => d.parameters.length) = some k ∧ md.2.1.name = "<init>" ∧ md.2.2.2.2 = none ∧ (Cond.methodLink own i md.2.1 ∈ gTbl ∨ ∃ host, Cond.methodLinkNest own i md.2.1 host ∈ jnests)
theorem jgw {md : jMD} {L : List Cond} (h : ∀ w ∈ L, w ∈ gTbl) (hc : Cond.code md.2.1 md.2.2.1 md.2.2.2.1 md.2.2.2.2 ∈ gTbl) : GoodIn gTbl (L ++ jwords md) := by
  intro w hw
  rcases List.mem_append.mp hw with h1 | h1
  · exact gTbl_good w (h w h1)
  · rcases List.mem_cons.mp h1 with h2 | h2
    · rw [h2]; exact gTbl_good _ hc
    · exact gTbl_good w h2
section JC
variable {G : jGT} {d : Nat} {md : jMD} {pc : Nat} {lv : List (Option Value)} {st : List Value} {n : Nat} {sh : jS} {M : jM} {r : jR} {c0 s0 mc ms : Nat} {post : jP}
theorem J_callV {i d' k b ci N : Nat} {md' : jMD} {As rest : List Value} {mc' ms' : Nat} {P : jP} (hd : decode md.2.2.1 pc = .ok (.invokevirtual i, 3)) (hv : jVL md.1 i md' k) (hC : Con G d' md' (.ref b :: As) n sh M r mc' ms' P) (hk : As.length = k) (hst : st = As.reverse ++ .ref b :: rest) (hdd : d' + 1 ≤ d) (hb : b < n) (hs : sh b = (ci, N)) (q : vw_C) (hq : vwCl[ci]? = some q) (hqc : md'.2.1.cls = q.1) (hrest : (rest.map fun v => v.category).sum ≤ 8) (hc1 : c0 + mc' ≤ mc) (hs1 : s0 + ms' ≤ ms)
    (kk : ∀ (v : Option Value) (n' : Nat) (sh' : jS) (M' : jM) (r' : jR), P v n' sh' M' r' → J G d md (pc + 3) lv (v.toList ++ rest) n' sh' M' r' (c0 + mc') (s0 + ms') mc ms post) : J G d md pc lv st n sh M r c0 s0 mc ms post := by
  intro p e R s m args below meth c Q C X H locs ls hW hS hl hc hsl
  obtain ⟨hx, hb2, hml, hown, hts, hlk, hrt, hnm, hO, hR, hsz, hHs⟩ := id C
  obtain ⟨hw, hmax, hn1, hn2, hpar⟩ := hv
  have hat := hW.2.1 b hb
  rw [jent_obj hs (vwCl_lt hq)] at hat
  subst hst
  have hU : ∀ U : State, U.heap = H → s.WarmedH U.vm → va_Pc (jst G (.ref b :: As)) (jU G n sh M r) (Value.ref (jad G b) :: As.map (jrn (jad G))).toArray U := fun U hU hWm => ⟨rfl, hO.moved hWm, by rw [hU]; exact hW, fun q hq => by rw [hU, hS.2.1 q (by omega) (by show ¬ jb G ≤ q; omega)]; exact hHs q hq⟩
  have hfr : (jroom d' mc' ms').frames + 1 ≤ R.frames ∧ 8 + (md'.2.2.2.1 + 11) + (jroom d' mc' ms').locals ≤ R.locals := ⟨by show d' + 1 ≤ _; have := hR.1; omega, by show _ + 40 * d' ≤ _; have := hR.2.1; omega⟩
  have hrun : va_Run p (jl G) e R s m args below meth c H locs c0 s0 mc' ms' (F0 m pc ls (jst G (As.reverse ++ .ref b :: rest))) (rest.map (jrn (jad G))) (jQc G P (Value.ref (jad G b) :: As.map (jrn (jad G))).toArray) (jA G) := va_runV (rm := jroom d' mc' ms') (As := As.map (jrn (jad G))) (rest := rest.map (jrn (jad G))) (b := jad G b) (C := q.1) (g := F0 m pc ls (jst G (As.reverse ++ .ref b :: rest))) (cells := c0) (slots := s0) (locs := locs) ⟨hx, hb2, hml, hown, hts⟩ hC (cwV (ws' := gTbl) k hts (by
      refine fun w hw2 => jgw (md := md') (L := [.methodLink md.1 i md'.2.1, .instanceMethod md'.2.1, .selects md'.2.1.cls md'.2.1 md'.2.1, .initialized md'.2.1.cls]) (fun w h => hw w (by simp only [List.mem_cons, List.not_mem_nil, or_false] at h ⊢; rcases h with h | h | h | h <;> simp [h])) (hw _ (by simp)) w ?_
      rw [← hqc] at hw2
      exact hw2) rfl rfl rfl ⟨hqc, hn1, hn2, hpar⟩ hfr) ⟨jU.called, va_recv hO.2.1 (jP1 hat) (ci := ci) (q0 := 0) hq rfl, hU⟩ rfl (by simp [hk]) hl.1.1 (by simp [jst, jrn]) (by rw [j_cats]; show 2 * 0 + _ ≤ _; omega) hd ⟨by have := hR.2.2.1; omega, by have := hR.2.2.2; omega⟩
  refine j_callk hrun hS (fun v n' sh' M' r' H1 locs1 hp hW1 hS1 => ?_)
  have h9 := kk v n' sh' M' r' hp p e R s m args below meth c Q C X H1 locs1 ls hW1 hS1 hl hc1 hs1
  have e9 : jst G (v.toList ++ rest) = (v.map (jrn (jad G))).toList ++ rest.map (jrn (jad G)) := by cases v <;> simp [jst]
  rw [e9] at h9
  exact h9
theorem J_callVS {i d' k t : Nat} {md' : jMD} {As rest : List Value} {mc' ms' : Nat} {P : jP} (hd : decode md.2.2.1 pc = .ok (.invokevirtual i, 3)) (hv : jVL md.1 i md' k) (hC : Con G d' md' (.ref (3000 + t) :: As) n sh M r mc' ms' P) (hk : As.length = k) (hst : st = As.reverse ++ .ref (3000 + t) :: rest) (hdd : d' + 1 ≤ d) (ht : t < 5) (hqc : md'.2.1.cls = RJ0) (hrest : (rest.map fun v => v.category).sum ≤ 8) (hc1 : c0 + mc' ≤ mc) (hs1 : s0 + ms' ≤ ms)
    (kk : ∀ (v : Option Value) (n' : Nat) (sh' : jS) (M' : jM) (r' : jR), P v n' sh' M' r' → J G d md (pc + 3) lv (v.toList ++ rest) n' sh' M' r' (c0 + mc') (s0 + ms') mc ms post) : J G d md pc lv st n sh M r c0 s0 mc ms post := by
  intro p e R s m args below meth c Q C X H locs ls hW hS hl hc hsl
  obtain ⟨hx, hb2, hml, hown, hts, hlk, hrt, hnm, hO, hR, hsz, hHs⟩ := id C
  obtain ⟨hw, hmax, hn1, hn2, hpar⟩ := hv
  subst hst
  have hU : ∀ U : State, U.heap = H → s.WarmedH U.vm → va_Pc (jst G (.ref (3000 + t) :: As)) (jU G n sh M r) (Value.ref (jad G (3000 + t)) :: As.map (jrn (jad G))).toArray U := fun U hU hWm => ⟨rfl, hO.moved hWm, by rw [hU]; exact hW, fun q hq => by rw [hU, hS.2.1 q (by omega) (by show ¬ jb G ≤ q; omega)]; exact hHs q hq⟩
  have hfr : (jroom d' mc' ms').frames + 1 ≤ R.frames ∧ 8 + (md'.2.2.2.1 + 11) + (jroom d' mc' ms').locals ≤ R.locals := ⟨by show d' + 1 ≤ _; have := hR.1; omega, by show _ + 40 * d' ≤ _; have := hR.2.1; omega⟩
  have hrecv : ∃ cell : Cell, H[jad G (3000 + t)]? = some cell ∧ cell.vm.isStatics = false ∧ s.vm.findClass RJ0 = some cell.cls := by
    obtain ⟨cell, h1, h2, h3, -⟩ := (hO.2.2.2.2.2.2.2.2.2.1 t ht).1
    exact ⟨cell, j_oldH hO.1 hsz hHs hS h1, h2, h3⟩
  have hrun : va_Run p (jl G) e R s m args below meth c H locs c0 s0 mc' ms' (F0 m pc ls (jst G (As.reverse ++ .ref (3000 + t) :: rest))) (rest.map (jrn (jad G))) (jQc G P (Value.ref (jad G (3000 + t)) :: As.map (jrn (jad G))).toArray) (jA G) := va_runV (rm := jroom d' mc' ms') (As := As.map (jrn (jad G))) (rest := rest.map (jrn (jad G))) (b := jad G (3000 + t)) (C := RJ0) (g := F0 m pc ls (jst G (As.reverse ++ .ref (3000 + t) :: rest))) (cells := c0) (slots := s0) (locs := locs) ⟨hx, hb2, hml, hown, hts⟩ hC (cwV (ws' := gTbl) k hts (by
      refine fun w hw2 => jgw (md := md') (L := [.methodLink md.1 i md'.2.1, .instanceMethod md'.2.1, .selects md'.2.1.cls md'.2.1 md'.2.1, .initialized md'.2.1.cls]) (fun w h => hw w (by simp only [List.mem_cons, List.not_mem_nil, or_false] at h ⊢; rcases h with h | h | h | h <;> simp [h])) (hw _ (by simp)) w ?_
      rw [← hqc] at hw2
      exact hw2) rfl rfl rfl ⟨hqc, hn1, hn2, hpar⟩ hfr) ⟨jU.called, hrecv, hU⟩ rfl (by simp [hk]) hl.1.1 (by simp [jst, jrn]) (by rw [j_cats]; show 2 * 0 + _ ≤ _; omega) hd ⟨by have := hR.2.2.1; omega, by have := hR.2.2.2; omega⟩
  refine j_callk hrun hS (fun v n' sh' M' r' H1 locs1 hp hW1 hS1 => ?_)
  have h9 := kk v n' sh' M' r' hp p e R s m args below meth c Q C X H1 locs1 ls hW1 hS1 hl hc1 hs1
  have e9 : jst G (v.toList ++ rest) = (v.map (jrn (jad G))).toList ++ rest.map (jrn (jad G)) := by cases v <;> simp [jst]
  rw [e9] at h9
  exact h9
theorem J_callS {i d' k : Nat} {md' : jMD} {As rest : List Value} {mc' ms' : Nat} {P : jP} (hd : decode md.2.2.1 pc = .ok (.invokestatic i, 3)) (hv : jSL md.1 i md' k) (hC : Con G d' md' As n sh M r mc' ms' P) (hk : As.length = k) (hst : st = As.reverse ++ rest) (hdd : d' + 1 ≤ d) (hrest : (rest.map fun v => v.category).sum ≤ 8) (hc1 : c0 + mc' ≤ mc) (hs1 : s0 + ms' ≤ ms)
    (kk : ∀ (v : Option Value) (n' : Nat) (sh' : jS) (M' : jM) (r' : jR), P v n' sh' M' r' → J G d md (pc + 3) lv (v.toList ++ rest) n' sh' M' r' (c0 + mc') (s0 + ms') mc ms post) : J G d md pc lv st n sh M r c0 s0 mc ms post := by
  intro p e R s m args below meth c Q C X H locs ls hW hS hl hc hsl
  obtain ⟨hx, hb2, hml, hown, hts, hlk, hrt, hnm, hO, hR, hsz, hHs⟩ := id C
  obtain ⟨hw, hmax, hn1, hn2, hpar⟩ := hv
  subst hst
  have hU : ∀ U : State, U.heap = H → s.WarmedH U.vm → va_Pc (jst G As) (jU G n sh M r) (As.map (jrn (jad G))).toArray U := fun U hU hWm => ⟨rfl, hO.moved hWm, by rw [hU]; exact hW, fun q hq => by rw [hU, hS.2.1 q (by omega) (by show ¬ jb G ≤ q; omega)]; exact hHs q hq⟩
  have hfr : (jroom d' mc' ms').frames + 1 ≤ R.frames ∧ 8 + (md'.2.2.2.1 + 11) + (jroom d' mc' ms').locals ≤ R.locals := ⟨by show d' + 1 ≤ _; have := hR.1; omega, by show _ + 40 * d' ≤ _; have := hR.2.1; omega⟩
  have hrun : va_Run p (jl G) e R s m args below meth c H locs c0 s0 mc' ms' (F0 m pc ls (jst G (As.reverse ++ rest))) (rest.map (jrn (jad G))) (jQc G P (As.map (jrn (jad G))).toArray) (jA G) := va_runS (rm := jroom d' mc' ms') (As := As.map (jrn (jad G))) (rest := rest.map (jrn (jad G))) (g := F0 m pc ls (jst G (As.reverse ++ rest))) (cells := c0) (slots := s0) (locs := locs) ⟨hx, hb2, hml, hown, hts⟩ hC (va_cwS (ws' := gTbl) k hts (jgw (md := md') (L := [.methodLink md.1 i md'.2.1, .static md'.2.1, .initialized md'.2.1.cls]) (fun w h => hw w (by simp only [List.mem_cons, List.not_mem_nil, or_false] at h ⊢; rcases h with h | h | h <;> simp [h])) (hw _ (by simp))) rfl rfl rfl ⟨hn1, hn2, hpar⟩ hfr) ⟨jU.called, hU⟩ rfl (by simp [hk]) hl.1.1 (by simp [jst]) (by rw [j_cats]; show 2 * 0 + _ ≤ _; omega) hd ⟨by have := hR.2.2.1; omega, by have := hR.2.2.2; omega⟩
  refine j_callk hrun hS (fun v n' sh' M' r' H1 locs1 hp hW1 hS1 => ?_)
  have h9 := kk v n' sh' M' r' hp p e R s m args below meth c Q C X H1 locs1 ls hW1 hS1 hl hc1 hs1
  have e9 : jst G (v.toList ++ rest) = (v.map (jrn (jad G))).toList ++ rest.map (jrn (jad G)) := by cases v <;> simp [jst]
  rw [e9] at h9
  exact h9
theorem J_callI {i d' k b : Nat} {md' : jMD} {As rest : List Value} {mc' ms' : Nat} {P : jP} (hd : decode md.2.2.1 pc = .ok (.invokespecial i, 3)) (hv : jIL md.1 i md' k) (hC : Con G d' md' (.ref b :: As) n sh M r mc' ms' P) (hk : As.length = k) (hst : st = As.reverse ++ .ref b :: rest) (hdd : d' + 1 ≤ d) (hrest : (rest.map fun v => v.category).sum ≤ 8) (hc1 : c0 + mc' ≤ mc) (hs1 : s0 + ms' ≤ ms)
    (kk : ∀ (v : Option Value) (n' : Nat) (sh' : jS) (M' : jM) (r' : jR), P v n' sh' M' r' → J G d md (pc + 3) lv (v.toList ++ rest) n' sh' M' r' (c0 + mc') (s0 + ms') mc ms post) : J G d md pc lv st n sh M r c0 s0 mc ms post := by
  intro p e R s m args below meth c Q C X H locs ls hW hS hl hc hsl
  obtain ⟨hx, hb2, hml, hown, hts, hlk, hrt, hnm, hO, hR, hsz, hHs⟩ := id C
  obtain ⟨hw, hmax, hn1, hn2, hpar, hinit, hnone, hlink⟩ := hv
  subst hst
  have hU : ∀ U : State, U.heap = H → s.WarmedH U.vm → va_Pc (jst G (.ref b :: As)) (jU G n sh M r) (Value.ref (jad G b) :: As.map (jrn (jad G))).toArray U := fun U hU hWm => ⟨rfl, hO.moved hWm, by rw [hU]; exact hW, fun q hq => by rw [hU, hS.2.1 q (by omega) (by show ¬ jb G ≤ q; omega)]; exact hHs q hq⟩
  have hwd : jwords md' = Cond.code md'.2.1 md'.2.2.1 md'.2.2.2.1 none :: gTbl := by unfold jwords; rw [hnone]
  have hG : GoodIn gTbl (jwords md') := by
    rw [hwd]
    intro w hw2
    rcases List.mem_cons.mp hw2 with h2 | h2
    · rw [h2]; exact gTbl_good _ (hw _ (by simp))
    · exact gTbl_good w h2
  have hfr : (jroom d' mc' ms').frames + 1 ≤ R.frames ∧ 8 + (md'.2.2.2.1 + 11) + (jroom d' mc' ms').locals ≤ R.locals := ⟨by show d' + 1 ≤ _; have := hR.1; omega, by show _ + 40 * d' ≤ _; have := hR.2.1; omega⟩
  have hrun : va_Run p (jl G) e R s m args below meth c H locs c0 s0 mc' ms' (F0 m pc ls (jst G (As.reverse ++ .ref b :: rest))) (rest.map (jrn (jad G))) (jQc G P (Value.ref (jad G b) :: As.map (jrn (jad G))).toArray) (jA G) := by
    rcases hlink with h1 | ⟨host, h1⟩
    · exact va_runI (As := As.map (jrn (jad G))) (rest := rest.map (jrn (jad G))) (b := jad G b) (g := F0 m pc ls (jst G (As.reverse ++ .ref b :: rest))) ⟨hx, hb2, hml, hown, hts⟩ hC (cwI (ws' := gTbl) k hts hG hwd rfl rfl (hts _ (hw _ (by simp))) (hts _ h1) (hts _ (hw _ (by simp))) hinit ⟨hn1, hn2, hpar⟩ hfr) ⟨jU.called, hU⟩ rfl (by simp [hk]) hl.1.1 (by simp [jst, jrn]) (by rw [j_cats]; show 2 * 0 + _ ≤ _; omega) hd ⟨by have := hR.2.2.1; omega, by have := hR.2.2.2; omega⟩
    · exact va_runIN (As := As.map (jrn (jad G))) (rest := rest.map (jrn (jad G))) (b := jad G b) (g := F0 m pc ls (jst G (As.reverse ++ .ref b :: rest))) ⟨hx, hb2, hml, hown, hts⟩ hC ⟨va_cnB (ws' := gTbl) k hts hG hwd rfl rfl (hO.2.2.2.1 _ h1) (hts _ (hw _ (by simp))) ⟨hn1, hn2, hpar⟩ hfr, hinit, hts _ (hw _ (by simp))⟩ ⟨jU.called, hU⟩ rfl (by simp [hk]) hl.1.1 (by simp [jst, jrn]) (by rw [j_cats]; show 2 * 0 + _ ≤ _; omega) hd ⟨by have := hR.2.2.1; omega, by have := hR.2.2.2; omega⟩
  refine j_callk hrun hS (fun v n' sh' M' r' H1 locs1 hp hW1 hS1 => ?_)
  have h9 := kk v n' sh' M' r' hp p e R s m args below meth c Q C X H1 locs1 ls hW1 hS1 hl hc1 hs1
  have e9 : jst G (v.toList ++ rest) = (v.map (jrn (jad G))).toList ++ rest.map (jrn (jad G)) := by cases v <;> simp [jst]
  rw [e9] at h9
  exact h9
theorem J_ret (hd : decode md.2.2.1 pc = .ok (.return_, 1)) (hr : md.2.2.2.2 = none) (hp : post none n sh M r) : J G d md pc lv [] n sh M r c0 s0 mc ms post := by
  intro p e R s m args below meth c Q C X H locs ls hW hS hl hc hsl
  exact W.widen hc hsl (X H locs ls pc none n sh M r hp ⟨hd, hr⟩ hW hS)
theorem J_iret {x : Int32} (hd : decode md.2.2.1 pc = .ok (.ireturn, 1)) (hr : md.2.2.2.2 = some .int) (hp : post (some (.int x)) n sh M r) : J G d md pc lv [.int x] n sh M r c0 s0 mc ms post := by
  intro p e R s m args below meth c Q C X H locs ls hW hS hl hc hsl
  exact W.widen hc hsl (X H locs ls pc (some (.int x)) n sh M r hp ⟨hd, _, hr, rfl⟩ hW hS)
theorem J_zret {x : Int32} {ty : FieldType} (hd : decode md.2.2.1 pc = .ok (.ireturn, 1)) (hr : md.2.2.2.2 = some ty) (hn : narrow ty (.int x) = .int x) (hp : post (some (.int x)) n sh M r) : J G d md pc lv [.int x] n sh M r c0 s0 mc ms post := by
  intro p e R s m args below meth c Q C X H locs ls hW hS hl hc hsl
  exact W.widen hc hsl (X H locs ls pc (some (.int x)) n sh M r hp ⟨hd, _, hr, hn⟩ hW hS)
theorem J_lret {x : Int64} (hd : decode md.2.2.1 pc = .ok (.lreturn, 1)) (hr : md.2.2.2.2 = some .long) (hp : post (some (.long x)) n sh M r) : J G d md pc lv [.long x] n sh M r c0 s0 mc ms post := by
  intro p e R s m args below meth c Q C X H locs ls hW hS hl hc hsl
  exact W.widen hc hsl (X H locs ls pc (some (.long x)) n sh M r hp ⟨hd, hr⟩ hW hS)
theorem J_aret {x : Nat} {t : String} (hd : decode md.2.2.1 pc = .ok (.areturn, 1)) (hr : md.2.2.2.2 = some (.object t)) (hp : post (some (.ref x)) n sh M r) : J G d md pc lv [.ref x] n sh M r c0 s0 mc ms post := by
  intro p e R s m args below meth c Q C X H locs ls hW hS hl hc hsl
  exact W.widen hc hsl (X H locs ls pc (some (.ref x)) n sh M r hp ⟨hd, t, hr⟩ hW hS)
end JC
end
