section
-- ===== PART A: goes FIRST, ahead of the names: the tables' words, and 'selects' of the private methods out of them =====
/-- a private method of a class that the tables say can be made, by its rows of tables_1 -/
def lw_okq (q : MethodName × Nat) : Prop := (q.1.cls ≠ "java/lang/invoke/MethodHandle" ∧ q.1.cls ≠ "java/lang/invoke/VarHandle") ∧ Cond.instantiable q.1.cls q.2 ∈ tables_1 ∧ Cond.privateMethod q.1 ∈ tables_1 ∧ Cond.instanceMethod q.1 ∈ tables_1
theorem lw_p0 : lw_okq (⟨"StairCourt", "error", "(I)I"⟩, 9) := ⟨⟨by decide +kernel, by decide +kernel⟩, List.mem_of_getElem? (i := 20) (by decide +kernel), List.mem_of_getElem? (i := 285) (by decide +kernel), List.mem_of_getElem? (i := 286) (by decide +kernel)⟩
theorem lw_p1 : lw_okq (⟨"StairCourt$Judge", "nodsStrictly", "(I)Z"⟩, 4) := ⟨⟨by decide +kernel, by decide +kernel⟩, List.mem_of_getElem? (i := 54) (by decide +kernel), List.mem_of_getElem? (i := 398) (by decide +kernel), List.mem_of_getElem? (i := 399) (by decide +kernel)⟩
theorem lw_p2 : lw_okq (⟨"StairCourt$Judge", "nodsPlainly", "(I)Z"⟩, 4) := ⟨⟨by decide +kernel, by decide +kernel⟩, List.mem_of_getElem? (i := 54) (by decide +kernel), List.mem_of_getElem? (i := 402) (by decide +kernel), List.mem_of_getElem? (i := 403) (by decide +kernel)⟩
theorem lw_p3 : lw_okq (⟨"StairCourt$Judge", "nodsMildly", "(I)Z"⟩, 4) := ⟨⟨by decide +kernel, by decide +kernel⟩, List.mem_of_getElem? (i := 54) (by decide +kernel), List.mem_of_getElem? (i := 406) (by decide +kernel), List.mem_of_getElem? (i := 407) (by decide +kernel)⟩
theorem lw_p4 : lw_okq (⟨"StairCourt$Reader", "readLevel", "(II)Z"⟩, 5) := ⟨⟨by decide +kernel, by decide +kernel⟩, List.mem_of_getElem? (i := 155) (by decide +kernel), List.mem_of_getElem? (i := 455) (by decide +kernel), List.mem_of_getElem? (i := 456) (by decide +kernel)⟩
theorem lw_p5 : lw_okq (⟨"StairCourt$Reader", "readLast", "(I)Z"⟩, 5) := ⟨⟨by decide +kernel, by decide +kernel⟩, List.mem_of_getElem? (i := 155) (by decide +kernel), List.mem_of_getElem? (i := 459) (by decide +kernel), List.mem_of_getElem? (i := 460) (by decide +kernel)⟩
theorem lw_p6 : lw_okq (⟨"StairCourt$Reader", "next", "()I"⟩, 5) := ⟨⟨by decide +kernel, by decide +kernel⟩, List.mem_of_getElem? (i := 155) (by decide +kernel), List.mem_of_getElem? (i := 463) (by decide +kernel), List.mem_of_getElem? (i := 464) (by decide +kernel)⟩
theorem lw_p7 : lw_okq (⟨"StairCourt$Reader", "readNumber", "()V"⟩, 5) := ⟨⟨by decide +kernel, by decide +kernel⟩, List.mem_of_getElem? (i := 155) (by decide +kernel), List.mem_of_getElem? (i := 470) (by decide +kernel), List.mem_of_getElem? (i := 471) (by decide +kernel)⟩
theorem lw_p8 : lw_okq (⟨"StairCourt$Reader", "readNot", "(I)Z"⟩, 5) := ⟨⟨by decide +kernel, by decide +kernel⟩, List.mem_of_getElem? (i := 155) (by decide +kernel), List.mem_of_getElem? (i := 560) (by decide +kernel), List.mem_of_getElem? (i := 561) (by decide +kernel)⟩
theorem lw_p9 : lw_okq (⟨"StairCourt$Reader", "readInner", "(I)Z"⟩, 5) := ⟨⟨by decide +kernel, by decide +kernel⟩, List.mem_of_getElem? (i := 155) (by decide +kernel), List.mem_of_getElem? (i := 564) (by decide +kernel), List.mem_of_getElem? (i := 565) (by decide +kernel)⟩
theorem lw_p10 : lw_okq (⟨"StairCourt$Court", "draw", "()I"⟩, 12) := ⟨⟨by decide +kernel, by decide +kernel⟩, List.mem_of_getElem? (i := 28) (by decide +kernel), List.mem_of_getElem? (i := 606) (by decide +kernel), List.mem_of_getElem? (i := 607) (by decide +kernel)⟩
theorem lw_p11 : lw_okq (⟨"StairCourt", "sheetOf", "(I)LStairCourt$Sheet;"⟩, 9) := ⟨⟨by decide +kernel, by decide +kernel⟩, List.mem_of_getElem? (i := 20) (by decide +kernel), List.mem_of_getElem? (i := 648) (by decide +kernel), List.mem_of_getElem? (i := 649) (by decide +kernel)⟩
theorem lw_p12 : lw_okq (⟨"StairCourt$Cover", "choose", "(IIII)Z"⟩, 4) := ⟨⟨by decide +kernel, by decide +kernel⟩, List.mem_of_getElem? (i := 210) (by decide +kernel), List.mem_of_getElem? (i := 683) (by decide +kernel), List.mem_of_getElem? (i := 684) (by decide +kernel)⟩
theorem lw_p13 : lw_okq (⟨"StairCourt", "isContentByAny", "(LStairCourt$Judge;LStairCourt$Sheet;)Z"⟩, 9) := ⟨⟨by decide +kernel, by decide +kernel⟩, List.mem_of_getElem? (i := 20) (by decide +kernel), List.mem_of_getElem? (i := 695) (by decide +kernel), List.mem_of_getElem? (i := 696) (by decide +kernel)⟩
theorem lw_p14 : lw_okq (⟨"StairCourt", "isToldBy", "(LStairCourt$Sheet;I)Z"⟩, 9) := ⟨⟨by decide +kernel, by decide +kernel⟩, List.mem_of_getElem? (i := 20) (by decide +kernel), List.mem_of_getElem? (i := 711) (by decide +kernel), List.mem_of_getElem? (i := 712) (by decide +kernel)⟩
theorem lw_p15 : lw_okq (⟨"StairCourt$Voices", "own", "(III)I"⟩, 6) := ⟨⟨by decide +kernel, by decide +kernel⟩, List.mem_of_getElem? (i := 183) (by decide +kernel), List.mem_of_getElem? (i := 723) (by decide +kernel), List.mem_of_getElem? (i := 724) (by decide +kernel)⟩
def lw_privs_1 : List (MethodName × Nat) := [(⟨"StairCourt", "error", "(I)I"⟩, 9), (⟨"StairCourt$Judge", "nodsStrictly", "(I)Z"⟩, 4), (⟨"StairCourt$Judge", "nodsPlainly", "(I)Z"⟩, 4), (⟨"StairCourt$Judge", "nodsMildly", "(I)Z"⟩, 4), (⟨"StairCourt$Reader", "readLevel", "(II)Z"⟩, 5), (⟨"StairCourt$Reader", "readLast", "(I)Z"⟩, 5), (⟨"StairCourt$Reader", "next", "()I"⟩, 5), (⟨"StairCourt$Reader", "readNumber", "()V"⟩, 5), (⟨"StairCourt$Reader", "readNot", "(I)Z"⟩, 5), (⟨"StairCourt$Reader", "readInner", "(I)Z"⟩, 5), (⟨"StairCourt$Court", "draw", "()I"⟩, 12), (⟨"StairCourt", "sheetOf", "(I)LStairCourt$Sheet;"⟩, 9), (⟨"StairCourt$Cover", "choose", "(IIII)Z"⟩, 4), (⟨"StairCourt", "isContentByAny", "(LStairCourt$Judge;LStairCourt$Sheet;)Z"⟩, 9), (⟨"StairCourt", "isToldBy", "(LStairCourt$Sheet;I)Z"⟩, 9), (⟨"StairCourt$Voices", "own", "(III)I"⟩, 6)]
theorem lw_r1 : ∀ q ∈ lw_privs_1, lw_okq q := List.forall_mem_cons.mpr ⟨lw_p0, List.forall_mem_cons.mpr ⟨lw_p1, List.forall_mem_cons.mpr ⟨lw_p2, List.forall_mem_cons.mpr ⟨lw_p3, List.forall_mem_cons.mpr ⟨lw_p4, List.forall_mem_cons.mpr ⟨lw_p5, List.forall_mem_cons.mpr ⟨lw_p6, List.forall_mem_cons.mpr ⟨lw_p7, List.forall_mem_cons.mpr ⟨lw_p8, List.forall_mem_cons.mpr ⟨lw_p9, List.forall_mem_cons.mpr ⟨lw_p10, List.forall_mem_cons.mpr ⟨lw_p11, List.forall_mem_cons.mpr ⟨lw_p12, List.forall_mem_cons.mpr ⟨lw_p13, List.forall_mem_cons.mpr ⟨lw_p14, List.forall_mem_cons.mpr ⟨lw_p15, fun _ h => absurd h List.not_mem_nil⟩⟩⟩⟩⟩⟩⟩⟩⟩⟩⟩⟩⟩⟩⟩⟩
theorem lw_p16 : lw_okq (⟨"StairCourt$Voices", "begin", "(III)I"⟩, 6) := ⟨⟨by decide +kernel, by decide +kernel⟩, List.mem_of_getElem? (i := 183) (by decide +kernel), List.mem_of_getElem? (i := 736) (by decide +kernel), List.mem_of_getElem? (i := 737) (by decide +kernel)⟩
theorem lw_p17 : lw_okq (⟨"StairCourt$Voices", "note", "(I)V"⟩, 6) := ⟨⟨by decide +kernel, by decide +kernel⟩, List.mem_of_getElem? (i := 183) (by decide +kernel), List.mem_of_getElem? (i := 740) (by decide +kernel), List.mem_of_getElem? (i := 741) (by decide +kernel)⟩
theorem lw_p18 : lw_okq (⟨"StairCourt$Voices", "part", "(I)I"⟩, 6) := ⟨⟨by decide +kernel, by decide +kernel⟩, List.mem_of_getElem? (i := 183) (by decide +kernel), List.mem_of_getElem? (i := 744) (by decide +kernel), List.mem_of_getElem? (i := 745) (by decide +kernel)⟩
theorem lw_p19 : lw_okq (⟨"StairCourt$Voices", "above", "(IIII)I"⟩, 6) := ⟨⟨by decide +kernel, by decide +kernel⟩, List.mem_of_getElem? (i := 183) (by decide +kernel), List.mem_of_getElem? (i := 748) (by decide +kernel), List.mem_of_getElem? (i := 749) (by decide +kernel)⟩
theorem lw_p20 : lw_okq (⟨"StairCourt$Sheet", "lowest", "(I)I"⟩, 3) := ⟨⟨by decide +kernel, by decide +kernel⟩, List.mem_of_getElem? (i := 230) (by decide +kernel), List.mem_of_getElem? (i := 780) (by decide +kernel), List.mem_of_getElem? (i := 781) (by decide +kernel)⟩
theorem lw_p21 : lw_okq (⟨"StairCourtModel", "error", "(I)I"⟩, 21) := ⟨⟨by decide +kernel, by decide +kernel⟩, List.mem_of_getElem? (i := 826) (by decide +kernel), List.mem_of_getElem? (i := 907) (by decide +kernel), List.mem_of_getElem? (i := 908) (by decide +kernel)⟩
theorem lw_p22 : lw_okq (⟨"StairCourtModel", "isStep", "(I)Z"⟩, 21) := ⟨⟨by decide +kernel, by decide +kernel⟩, List.mem_of_getElem? (i := 826) (by decide +kernel), List.mem_of_getElem? (i := 917) (by decide +kernel), List.mem_of_getElem? (i := 918) (by decide +kernel)⟩
theorem lw_p23 : lw_okq (⟨"StairCourtModel", "of", "(II)I"⟩, 21) := ⟨⟨by decide +kernel, by decide +kernel⟩, List.mem_of_getElem? (i := 826) (by decide +kernel), List.mem_of_getElem? (i := 921) (by decide +kernel), List.mem_of_getElem? (i := 922) (by decide +kernel)⟩
theorem lw_p24 : lw_okq (⟨"StairCourtModel", "bribeOf", "(I)I"⟩, 21) := ⟨⟨by decide +kernel, by decide +kernel⟩, List.mem_of_getElem? (i := 826) (by decide +kernel), List.mem_of_getElem? (i := 925) (by decide +kernel), List.mem_of_getElem? (i := 926) (by decide +kernel)⟩
theorem lw_p25 : lw_okq (⟨"StairCourtModel", "wantsOf", "(I)I"⟩, 21) := ⟨⟨by decide +kernel, by decide +kernel⟩, List.mem_of_getElem? (i := 826) (by decide +kernel), List.mem_of_getElem? (i := 929) (by decide +kernel), List.mem_of_getElem? (i := 930) (by decide +kernel)⟩
theorem lw_p26 : lw_okq (⟨"StairCourtModel", "gives", "(IIII)I"⟩, 21) := ⟨⟨by decide +kernel, by decide +kernel⟩, List.mem_of_getElem? (i := 826) (by decide +kernel), List.mem_of_getElem? (i := 933) (by decide +kernel), List.mem_of_getElem? (i := 934) (by decide +kernel)⟩
theorem lw_p27 : lw_okq (⟨"StairCourtModel", "works", "(I)I"⟩, 21) := ⟨⟨by decide +kernel, by decide +kernel⟩, List.mem_of_getElem? (i := 826) (by decide +kernel), List.mem_of_getElem? (i := 937) (by decide +kernel), List.mem_of_getElem? (i := 938) (by decide +kernel)⟩
theorem lw_p28 : lw_okq (⟨"StairCourtModel", "becomes", "(II)I"⟩, 21) := ⟨⟨by decide +kernel, by decide +kernel⟩, List.mem_of_getElem? (i := 826) (by decide +kernel), List.mem_of_getElem? (i := 951) (by decide +kernel), List.mem_of_getElem? (i := 952) (by decide +kernel)⟩
theorem lw_p29 : lw_okq (⟨"StairCourtModel", "lets", "(III)V"⟩, 21) := ⟨⟨by decide +kernel, by decide +kernel⟩, List.mem_of_getElem? (i := 826) (by decide +kernel), List.mem_of_getElem? (i := 964) (by decide +kernel), List.mem_of_getElem? (i := 965) (by decide +kernel)⟩
theorem lw_p30 : lw_okq (⟨"StairCourtModel", "isPerson", "(I)Z"⟩, 21) := ⟨⟨by decide +kernel, by decide +kernel⟩, List.mem_of_getElem? (i := 826) (by decide +kernel), List.mem_of_getElem? (i := 972) (by decide +kernel), List.mem_of_getElem? (i := 973) (by decide +kernel)⟩
theorem lw_p31 : lw_okq (⟨"StairCourtModel", "about", "(II)I"⟩, 21) := ⟨⟨by decide +kernel, by decide +kernel⟩, List.mem_of_getElem? (i := 826) (by decide +kernel), List.mem_of_getElem? (i := 976) (by decide +kernel), List.mem_of_getElem? (i := 977) (by decide +kernel)⟩
def lw_privs_2 : List (MethodName × Nat) := [(⟨"StairCourt$Voices", "begin", "(III)I"⟩, 6), (⟨"StairCourt$Voices", "note", "(I)V"⟩, 6), (⟨"StairCourt$Voices", "part", "(I)I"⟩, 6), (⟨"StairCourt$Voices", "above", "(IIII)I"⟩, 6), (⟨"StairCourt$Sheet", "lowest", "(I)I"⟩, 3), (⟨"StairCourtModel", "error", "(I)I"⟩, 21), (⟨"StairCourtModel", "isStep", "(I)Z"⟩, 21), (⟨"StairCourtModel", "of", "(II)I"⟩, 21), (⟨"StairCourtModel", "bribeOf", "(I)I"⟩, 21), (⟨"StairCourtModel", "wantsOf", "(I)I"⟩, 21), (⟨"StairCourtModel", "gives", "(IIII)I"⟩, 21), (⟨"StairCourtModel", "works", "(I)I"⟩, 21), (⟨"StairCourtModel", "becomes", "(II)I"⟩, 21), (⟨"StairCourtModel", "lets", "(III)V"⟩, 21), (⟨"StairCourtModel", "isPerson", "(I)Z"⟩, 21), (⟨"StairCourtModel", "about", "(II)I"⟩, 21)]
theorem lw_r2 : ∀ q ∈ lw_privs_2, lw_okq q := List.forall_mem_cons.mpr ⟨lw_p16, List.forall_mem_cons.mpr ⟨lw_p17, List.forall_mem_cons.mpr ⟨lw_p18, List.forall_mem_cons.mpr ⟨lw_p19, List.forall_mem_cons.mpr ⟨lw_p20, List.forall_mem_cons.mpr ⟨lw_p21, List.forall_mem_cons.mpr ⟨lw_p22, List.forall_mem_cons.mpr ⟨lw_p23, List.forall_mem_cons.mpr ⟨lw_p24, List.forall_mem_cons.mpr ⟨lw_p25, List.forall_mem_cons.mpr ⟨lw_p26, List.forall_mem_cons.mpr ⟨lw_p27, List.forall_mem_cons.mpr ⟨lw_p28, List.forall_mem_cons.mpr ⟨lw_p29, List.forall_mem_cons.mpr ⟨lw_p30, List.forall_mem_cons.mpr ⟨lw_p31, fun _ h => absurd h List.not_mem_nil⟩⟩⟩⟩⟩⟩⟩⟩⟩⟩⟩⟩⟩⟩⟩⟩
theorem lw_p32 : lw_okq (⟨"StairCourtModel", "isUp", "(I)Z"⟩, 21) := ⟨⟨by decide +kernel, by decide +kernel⟩, List.mem_of_getElem? (i := 826) (by decide +kernel), List.mem_of_getElem? (i := 980) (by decide +kernel), List.mem_of_getElem? (i := 981) (by decide +kernel)⟩
theorem lw_p33 : lw_okq (⟨"StairCourtModel", "isContent", "(II)Z"⟩, 21) := ⟨⟨by decide +kernel, by decide +kernel⟩, List.mem_of_getElem? (i := 826) (by decide +kernel), List.mem_of_getElem? (i := 999) (by decide +kernel), List.mem_of_getElem? (i := 1000) (by decide +kernel)⟩
theorem lw_p34 : lw_okq (⟨"StairCourtModel", "doesNod", "(II)Z"⟩, 21) := ⟨⟨by decide +kernel, by decide +kernel⟩, List.mem_of_getElem? (i := 826) (by decide +kernel), List.mem_of_getElem? (i := 1003) (by decide +kernel), List.mem_of_getElem? (i := 1004) (by decide +kernel)⟩
theorem lw_p35 : lw_okq (⟨"StairCourtModel", "canGo", "(I)Z"⟩, 21) := ⟨⟨by decide +kernel, by decide +kernel⟩, List.mem_of_getElem? (i := 826) (by decide +kernel), List.mem_of_getElem? (i := 1011) (by decide +kernel), List.mem_of_getElem? (i := 1012) (by decide +kernel)⟩
theorem lw_p36 : lw_okq (⟨"StairCourtModel", "says", "(II)Z"⟩, 21) := ⟨⟨by decide +kernel, by decide +kernel⟩, List.mem_of_getElem? (i := 826) (by decide +kernel), List.mem_of_getElem? (i := 1016) (by decide +kernel), List.mem_of_getElem? (i := 1017) (by decide +kernel)⟩
theorem lw_p37 : lw_okq (⟨"StairCourtModel", "any", "()V"⟩, 21) := ⟨⟨by decide +kernel, by decide +kernel⟩, List.mem_of_getElem? (i := 826) (by decide +kernel), List.mem_of_getElem? (i := 1034) (by decide +kernel), List.mem_of_getElem? (i := 1035) (by decide +kernel)⟩
theorem lw_p38 : lw_okq (⟨"StairCourtModel", "all", "()V"⟩, 21) := ⟨⟨by decide +kernel, by decide +kernel⟩, List.mem_of_getElem? (i := 826) (by decide +kernel), List.mem_of_getElem? (i := 1038) (by decide +kernel), List.mem_of_getElem? (i := 1039) (by decide +kernel)⟩
theorem lw_p39 : lw_okq (⟨"StairCourtModel", "compares", "()V"⟩, 21) := ⟨⟨by decide +kernel, by decide +kernel⟩, List.mem_of_getElem? (i := 826) (by decide +kernel), List.mem_of_getElem? (i := 1042) (by decide +kernel), List.mem_of_getElem? (i := 1043) (by decide +kernel)⟩
theorem lw_p40 : lw_okq (⟨"StairCourtModel", "sum", "()V"⟩, 21) := ⟨⟨by decide +kernel, by decide +kernel⟩, List.mem_of_getElem? (i := 826) (by decide +kernel), List.mem_of_getElem? (i := 1046) (by decide +kernel), List.mem_of_getElem? (i := 1047) (by decide +kernel)⟩
theorem lw_p41 : lw_okq (⟨"StairCourtModel", "times", "()V"⟩, 21) := ⟨⟨by decide +kernel, by decide +kernel⟩, List.mem_of_getElem? (i := 826) (by decide +kernel), List.mem_of_getElem? (i := 1050) (by decide +kernel), List.mem_of_getElem? (i := 1051) (by decide +kernel)⟩
theorem lw_p42 : lw_okq (⟨"StairCourtModel", "one", "()V"⟩, 21) := ⟨⟨by decide +kernel, by decide +kernel⟩, List.mem_of_getElem? (i := 826) (by decide +kernel), List.mem_of_getElem? (i := 1054) (by decide +kernel), List.mem_of_getElem? (i := 1055) (by decide +kernel)⟩
theorem lw_p43 : lw_okq (⟨"StairCourtModel", "look", "()I"⟩, 21) := ⟨⟨by decide +kernel, by decide +kernel⟩, List.mem_of_getElem? (i := 826) (by decide +kernel), List.mem_of_getElem? (i := 1058) (by decide +kernel), List.mem_of_getElem? (i := 1059) (by decide +kernel)⟩
theorem lw_p44 : lw_okq (⟨"StairCourtModel", "nameOf", "(I)I"⟩, 21) := ⟨⟨by decide +kernel, by decide +kernel⟩, List.mem_of_getElem? (i := 826) (by decide +kernel), List.mem_of_getElem? (i := 1062) (by decide +kernel), List.mem_of_getElem? (i := 1063) (by decide +kernel)⟩
theorem lw_p45 : lw_okq (⟨"StairCourtModel", "lays", "(II)V"⟩, 21) := ⟨⟨by decide +kernel, by decide +kernel⟩, List.mem_of_getElem? (i := 826) (by decide +kernel), List.mem_of_getElem? (i := 1066) (by decide +kernel), List.mem_of_getElem? (i := 1067) (by decide +kernel)⟩
theorem lw_p46 : lw_okq (⟨"StairCourtModel", "opens", "(I)V"⟩, 21) := ⟨⟨by decide +kernel, by decide +kernel⟩, List.mem_of_getElem? (i := 826) (by decide +kernel), List.mem_of_getElem? (i := 1070) (by decide +kernel), List.mem_of_getElem? (i := 1071) (by decide +kernel)⟩
theorem lw_p47 : lw_okq (⟨"StairCourtModel", "number", "()V"⟩, 21) := ⟨⟨by decide +kernel, by decide +kernel⟩, List.mem_of_getElem? (i := 826) (by decide +kernel), List.mem_of_getElem? (i := 1074) (by decide +kernel), List.mem_of_getElem? (i := 1075) (by decide +kernel)⟩
def lw_privs_3 : List (MethodName × Nat) := [(⟨"StairCourtModel", "isUp", "(I)Z"⟩, 21), (⟨"StairCourtModel", "isContent", "(II)Z"⟩, 21), (⟨"StairCourtModel", "doesNod", "(II)Z"⟩, 21), (⟨"StairCourtModel", "canGo", "(I)Z"⟩, 21), (⟨"StairCourtModel", "says", "(II)Z"⟩, 21), (⟨"StairCourtModel", "any", "()V"⟩, 21), (⟨"StairCourtModel", "all", "()V"⟩, 21), (⟨"StairCourtModel", "compares", "()V"⟩, 21), (⟨"StairCourtModel", "sum", "()V"⟩, 21), (⟨"StairCourtModel", "times", "()V"⟩, 21), (⟨"StairCourtModel", "one", "()V"⟩, 21), (⟨"StairCourtModel", "look", "()I"⟩, 21), (⟨"StairCourtModel", "nameOf", "(I)I"⟩, 21), (⟨"StairCourtModel", "lays", "(II)V"⟩, 21), (⟨"StairCourtModel", "opens", "(I)V"⟩, 21), (⟨"StairCourtModel", "number", "()V"⟩, 21)]
theorem lw_r3 : ∀ q ∈ lw_privs_3, lw_okq q := List.forall_mem_cons.mpr ⟨lw_p32, List.forall_mem_cons.mpr ⟨lw_p33, List.forall_mem_cons.mpr ⟨lw_p34, List.forall_mem_cons.mpr ⟨lw_p35, List.forall_mem_cons.mpr ⟨lw_p36, List.forall_mem_cons.mpr ⟨lw_p37, List.forall_mem_cons.mpr ⟨lw_p38, List.forall_mem_cons.mpr ⟨lw_p39, List.forall_mem_cons.mpr ⟨lw_p40, List.forall_mem_cons.mpr ⟨lw_p41, List.forall_mem_cons.mpr ⟨lw_p42, List.forall_mem_cons.mpr ⟨lw_p43, List.forall_mem_cons.mpr ⟨lw_p44, List.forall_mem_cons.mpr ⟨lw_p45, List.forall_mem_cons.mpr ⟨lw_p46, List.forall_mem_cons.mpr ⟨lw_p47, fun _ h => absurd h List.not_mem_nil⟩⟩⟩⟩⟩⟩⟩⟩⟩⟩⟩⟩⟩⟩⟩⟩
theorem lw_p48 : lw_okq (⟨"StairCourtModel", "goes", "()V"⟩, 21) := ⟨⟨by decide +kernel, by decide +kernel⟩, List.mem_of_getElem? (i := 826) (by decide +kernel), List.mem_of_getElem? (i := 1090) (by decide +kernel), List.mem_of_getElem? (i := 1091) (by decide +kernel)⟩
theorem lw_p49 : lw_okq (⟨"StairCourtModel", "drawn", "()I"⟩, 21) := ⟨⟨by decide +kernel, by decide +kernel⟩, List.mem_of_getElem? (i := 826) (by decide +kernel), List.mem_of_getElem? (i := 1098) (by decide +kernel), List.mem_of_getElem? (i := 1099) (by decide +kernel)⟩
theorem lw_p50 : lw_okq (⟨"StairCourtModel", "draw", "()I"⟩, 21) := ⟨⟨by decide +kernel, by decide +kernel⟩, List.mem_of_getElem? (i := 826) (by decide +kernel), List.mem_of_getElem? (i := 1102) (by decide +kernel), List.mem_of_getElem? (i := 1103) (by decide +kernel)⟩
theorem lw_p51 : lw_okq (⟨"StairCourtModel", "wordsOf", "(I)I"⟩, 21) := ⟨⟨by decide +kernel, by decide +kernel⟩, List.mem_of_getElem? (i := 826) (by decide +kernel), List.mem_of_getElem? (i := 1115) (by decide +kernel), List.mem_of_getElem? (i := 1116) (by decide +kernel)⟩
theorem lw_p52 : lw_okq (⟨"StairCourtModel", "areWords", "(I)Z"⟩, 21) := ⟨⟨by decide +kernel, by decide +kernel⟩, List.mem_of_getElem? (i := 826) (by decide +kernel), List.mem_of_getElem? (i := 1127) (by decide +kernel), List.mem_of_getElem? (i := 1128) (by decide +kernel)⟩
theorem lw_p53 : lw_okq (⟨"StairCourtModel", "thinks", "()V"⟩, 21) := ⟨⟨by decide +kernel, by decide +kernel⟩, List.mem_of_getElem? (i := 826) (by decide +kernel), List.mem_of_getElem? (i := 1131) (by decide +kernel), List.mem_of_getElem? (i := 1132) (by decide +kernel)⟩
theorem lw_p54 : lw_okq (⟨"StairCourtModel", "putsBack", "()V"⟩, 21) := ⟨⟨by decide +kernel, by decide +kernel⟩, List.mem_of_getElem? (i := 826) (by decide +kernel), List.mem_of_getElem? (i := 1138) (by decide +kernel), List.mem_of_getElem? (i := 1139) (by decide +kernel)⟩
theorem lw_p55 : lw_okq (⟨"StairCourtModel", "findWhom", "(I)V"⟩, 21) := ⟨⟨by decide +kernel, by decide +kernel⟩, List.mem_of_getElem? (i := 826) (by decide +kernel), List.mem_of_getElem? (i := 1146) (by decide +kernel), List.mem_of_getElem? (i := 1147) (by decide +kernel)⟩
theorem lw_p56 : lw_okq (⟨"StairCourtModel", "wordAt", "(IIIII)I"⟩, 21) := ⟨⟨by decide +kernel, by decide +kernel⟩, List.mem_of_getElem? (i := 826) (by decide +kernel), List.mem_of_getElem? (i := 1150) (by decide +kernel), List.mem_of_getElem? (i := 1151) (by decide +kernel)⟩
theorem lw_p57 : lw_okq (⟨"StairCourtModel", "isContentBy", "(II)Z"⟩, 21) := ⟨⟨by decide +kernel, by decide +kernel⟩, List.mem_of_getElem? (i := 826) (by decide +kernel), List.mem_of_getElem? (i := 1158) (by decide +kernel), List.mem_of_getElem? (i := 1159) (by decide +kernel)⟩
theorem lw_p58 : lw_okq (⟨"StairCourtModel", "isSo", "(II)Z"⟩, 21) := ⟨⟨by decide +kernel, by decide +kernel⟩, List.mem_of_getElem? (i := 826) (by decide +kernel), List.mem_of_getElem? (i := 1171) (by decide +kernel), List.mem_of_getElem? (i := 1172) (by decide +kernel)⟩
theorem lw_p59 : lw_okq (⟨"StairCourtModel", "asks", "(II)I"⟩, 21) := ⟨⟨by decide +kernel, by decide +kernel⟩, List.mem_of_getElem? (i := 826) (by decide +kernel), List.mem_of_getElem? (i := 1179) (by decide +kernel), List.mem_of_getElem? (i := 1180) (by decide +kernel)⟩
theorem lw_p60 : lw_okq (⟨"StairCourtModel", "strictAsks", "(II)I"⟩, 21) := ⟨⟨by decide +kernel, by decide +kernel⟩, List.mem_of_getElem? (i := 826) (by decide +kernel), List.mem_of_getElem? (i := 1183) (by decide +kernel), List.mem_of_getElem? (i := 1184) (by decide +kernel)⟩
theorem lw_p61 : lw_okq (⟨"StairCourtModel", "begins", "(I)V"⟩, 21) := ⟨⟨by decide +kernel, by decide +kernel⟩, List.mem_of_getElem? (i := 826) (by decide +kernel), List.mem_of_getElem? (i := 1187) (by decide +kernel), List.mem_of_getElem? (i := 1188) (by decide +kernel)⟩
theorem lw_p62 : lw_okq (⟨"StairCourtModel", "plainAsks", "(II)I"⟩, 21) := ⟨⟨by decide +kernel, by decide +kernel⟩, List.mem_of_getElem? (i := 826) (by decide +kernel), List.mem_of_getElem? (i := 1191) (by decide +kernel), List.mem_of_getElem? (i := 1192) (by decide +kernel)⟩
theorem lw_p63 : lw_okq (⟨"StairCourtModel", "nods", "(II)I"⟩, 21) := ⟨⟨by decide +kernel, by decide +kernel⟩, List.mem_of_getElem? (i := 826) (by decide +kernel), List.mem_of_getElem? (i := 1195) (by decide +kernel), List.mem_of_getElem? (i := 1196) (by decide +kernel)⟩
def lw_privs_4 : List (MethodName × Nat) := [(⟨"StairCourtModel", "goes", "()V"⟩, 21), (⟨"StairCourtModel", "drawn", "()I"⟩, 21), (⟨"StairCourtModel", "draw", "()I"⟩, 21), (⟨"StairCourtModel", "wordsOf", "(I)I"⟩, 21), (⟨"StairCourtModel", "areWords", "(I)Z"⟩, 21), (⟨"StairCourtModel", "thinks", "()V"⟩, 21), (⟨"StairCourtModel", "putsBack", "()V"⟩, 21), (⟨"StairCourtModel", "findWhom", "(I)V"⟩, 21), (⟨"StairCourtModel", "wordAt", "(IIIII)I"⟩, 21), (⟨"StairCourtModel", "isContentBy", "(II)Z"⟩, 21), (⟨"StairCourtModel", "isSo", "(II)Z"⟩, 21), (⟨"StairCourtModel", "asks", "(II)I"⟩, 21), (⟨"StairCourtModel", "strictAsks", "(II)I"⟩, 21), (⟨"StairCourtModel", "begins", "(I)V"⟩, 21), (⟨"StairCourtModel", "plainAsks", "(II)I"⟩, 21), (⟨"StairCourtModel", "nods", "(II)I"⟩, 21)]
theorem lw_r4 : ∀ q ∈ lw_privs_4, lw_okq q := List.forall_mem_cons.mpr ⟨lw_p48, List.forall_mem_cons.mpr ⟨lw_p49, List.forall_mem_cons.mpr ⟨lw_p50, List.forall_mem_cons.mpr ⟨lw_p51, List.forall_mem_cons.mpr ⟨lw_p52, List.forall_mem_cons.mpr ⟨lw_p53, List.forall_mem_cons.mpr ⟨lw_p54, List.forall_mem_cons.mpr ⟨lw_p55, List.forall_mem_cons.mpr ⟨lw_p56, List.forall_mem_cons.mpr ⟨lw_p57, List.forall_mem_cons.mpr ⟨lw_p58, List.forall_mem_cons.mpr ⟨lw_p59, List.forall_mem_cons.mpr ⟨lw_p60, List.forall_mem_cons.mpr ⟨lw_p61, List.forall_mem_cons.mpr ⟨lw_p62, List.forall_mem_cons.mpr ⟨lw_p63, fun _ h => absurd h List.not_mem_nil⟩⟩⟩⟩⟩⟩⟩⟩⟩⟩⟩⟩⟩⟩⟩⟩
theorem lw_p64 : lw_okq (⟨"StairCourtModel", "mildNods", "(II)I"⟩, 21) := ⟨⟨by decide +kernel, by decide +kernel⟩, List.mem_of_getElem? (i := 826) (by decide +kernel), List.mem_of_getElem? (i := 1199) (by decide +kernel), List.mem_of_getElem? (i := 1200) (by decide +kernel)⟩
theorem lw_p65 : lw_okq (⟨"StairCourtModel", "plainNods", "(II)I"⟩, 21) := ⟨⟨by decide +kernel, by decide +kernel⟩, List.mem_of_getElem? (i := 826) (by decide +kernel), List.mem_of_getElem? (i := 1203) (by decide +kernel), List.mem_of_getElem? (i := 1204) (by decide +kernel)⟩
theorem lw_p66 : lw_okq (⟨"StairCourtModel", "echoes", "(II)I"⟩, 21) := ⟨⟨by decide +kernel, by decide +kernel⟩, List.mem_of_getElem? (i := 826) (by decide +kernel), List.mem_of_getElem? (i := 1207) (by decide +kernel), List.mem_of_getElem? (i := 1208) (by decide +kernel)⟩
theorem lw_p67 : lw_okq (⟨"StairCourtModel", "plainEchoes", "(II)I"⟩, 21) := ⟨⟨by decide +kernel, by decide +kernel⟩, List.mem_of_getElem? (i := 826) (by decide +kernel), List.mem_of_getElem? (i := 1211) (by decide +kernel), List.mem_of_getElem? (i := 1212) (by decide +kernel)⟩
theorem lw_p68 : lw_okq (⟨"StairCourtModel", "partsBy", "(II)I"⟩, 21) := ⟨⟨by decide +kernel, by decide +kernel⟩, List.mem_of_getElem? (i := 826) (by decide +kernel), List.mem_of_getElem? (i := 1215) (by decide +kernel), List.mem_of_getElem? (i := 1216) (by decide +kernel)⟩
theorem lw_p69 : lw_okq (⟨"StairCourtModel", "plainParts", "(II)I"⟩, 21) := ⟨⟨by decide +kernel, by decide +kernel⟩, List.mem_of_getElem? (i := 826) (by decide +kernel), List.mem_of_getElem? (i := 1219) (by decide +kernel), List.mem_of_getElem? (i := 1220) (by decide +kernel)⟩
theorem lw_p70 : lw_okq (⟨"StairCourtModel", "notThere", "(I)I"⟩, 21) := ⟨⟨by decide +kernel, by decide +kernel⟩, List.mem_of_getElem? (i := 826) (by decide +kernel), List.mem_of_getElem? (i := 1236) (by decide +kernel), List.mem_of_getElem? (i := 1237) (by decide +kernel)⟩
theorem lw_p71 : lw_okq (⟨"StairCourtModel", "notMoved", "(IIIII)I"⟩, 21) := ⟨⟨by decide +kernel, by decide +kernel⟩, List.mem_of_getElem? (i := 826) (by decide +kernel), List.mem_of_getElem? (i := 1244) (by decide +kernel), List.mem_of_getElem? (i := 1245) (by decide +kernel)⟩
def lw_privs_5 : List (MethodName × Nat) := [(⟨"StairCourtModel", "mildNods", "(II)I"⟩, 21), (⟨"StairCourtModel", "plainNods", "(II)I"⟩, 21), (⟨"StairCourtModel", "echoes", "(II)I"⟩, 21), (⟨"StairCourtModel", "plainEchoes", "(II)I"⟩, 21), (⟨"StairCourtModel", "partsBy", "(II)I"⟩, 21), (⟨"StairCourtModel", "plainParts", "(II)I"⟩, 21), (⟨"StairCourtModel", "notThere", "(I)I"⟩, 21), (⟨"StairCourtModel", "notMoved", "(IIIII)I"⟩, 21)]
theorem lw_r5 : ∀ q ∈ lw_privs_5, lw_okq q := List.forall_mem_cons.mpr ⟨lw_p64, List.forall_mem_cons.mpr ⟨lw_p65, List.forall_mem_cons.mpr ⟨lw_p66, List.forall_mem_cons.mpr ⟨lw_p67, List.forall_mem_cons.mpr ⟨lw_p68, List.forall_mem_cons.mpr ⟨lw_p69, List.forall_mem_cons.mpr ⟨lw_p70, List.forall_mem_cons.mpr ⟨lw_p71, fun _ h => absurd h List.not_mem_nil⟩⟩⟩⟩⟩⟩⟩⟩
def lw_privs : List (MethodName × Nat) := lw_privs_1 ++ (lw_privs_2 ++ (lw_privs_3 ++ (lw_privs_4 ++ (lw_privs_5))))
def lw_tbl : List Cond := k2_sels lw_privs ++ tables_1
theorem lw_privs_ok : ∀ q ∈ lw_privs, lw_okq q := by
  show ∀ q ∈ lw_privs_1 ++ (lw_privs_2 ++ (lw_privs_3 ++ (lw_privs_4 ++ (lw_privs_5)))), lw_okq q
  exact List.forall_mem_append.mpr ⟨lw_r1, List.forall_mem_append.mpr ⟨lw_r2, List.forall_mem_append.mpr ⟨lw_r3, List.forall_mem_append.mpr ⟨lw_r4, lw_r5⟩⟩⟩⟩
-- ===== end of PART A; then your names; then what follows =====
end
section
/-! ===== BEGIN words of one list among another's, by their places ===== -/
theorem goodIn_r {big : List Cond} (ws : List Cond) (ps : List Nat) (hp : ws = ps.filterMap (fun i => big[i]?)) (h : ws.all goodWord = true) : GoodIn big ws := by
  intro w hw
  have h1 := List.all_eq_true.mp h w hw
  rw [hp] at hw
  obtain ⟨i, -, hi⟩ := List.mem_filterMap.mp hw
  have hm : w ∈ big := by first | exact List.mem_of_getElem? hi | exact List.getElem?_mem hi
  exact ⟨hm, good_of_word h1⟩
theorem goodIn_app {big a b : List Cond} (ha : GoodIn big a) (hb : GoodIn big b) : GoodIn big (a ++ b) := fun w h => (List.mem_append.mp h).elim (ha w) (hb w)
theorem goodIn_ca {big a b : List Cond} {c : Cond} (ha : GoodIn big (c :: a)) (hb : GoodIn big b) : GoodIn big (c :: (a ++ b)) := fun w h => (List.mem_cons.mp h).elim (fun e => ha w (List.mem_cons.mpr (Or.inl e))) (fun h => (List.mem_append.mp h).elim (fun h => ha w (List.mem_cons.mpr (Or.inr h))) (hb w))
theorem goodIn_sub {big ws : List Cond} (hm : ∀ w ∈ ws, w ∈ big) (h : ws.all goodWord = true) : GoodIn big ws := fun w hw => ⟨hm w hw, good_of_word (List.all_eq_true.mp h w hw)⟩
/-! ===== END ===== -/

/-! ===== BEGIN printed: names, fields, word lists, decode rows ===== -/
def RX0 : String := "StairCourt$Court"
def TX0 : u_T := fun k => match k with
  | 0 => ("StairCourt$Court", "judges", "[LStairCourt$Judge;", true)
  | 1 => ("StairCourt$Court", "steps", "I", false)
  | 2 => ("StairCourt$Court", "persons", "[LStairCourt$Person;", true)
  | 3 => ("StairCourt$Court", "people", "I", false)
  | 4 => ("StairCourt$Court", "heeds", "LStairCourt$Text;", true)
  | 5 => ("StairCourt$Court", "bribes", "LStairCourt$Text;", true)
  | 6 => ("StairCourt$Court", "tape", "[I", true)
  | 7 => ("StairCourt$Court", "taped", "I", false)
  | 8 => ("StairCourt$Court", "waits", "[I", true)
  | 9 => ("StairCourt$Court", "waiting", "I", false)
  | 10 => ("StairCourt$Court", "hour", "I", false)
  | _ => ("StairCourt$Court", "z", "I", false)
def tyX0 : Nat → FieldType := fun k => match k with
  | 0 => .array (.object "StairCourt$Judge")
  | 1 => .int
  | 2 => .array (.object "StairCourt$Person")
  | 3 => .int
  | 4 => .object "StairCourt$Text"
  | 5 => .object "StairCourt$Text"
  | 6 => .array .int
  | 7 => .int
  | 8 => .array .int
  | 9 => .int
  | 10 => .int
  | _ => .int
abbrev wsX00 : List Cond := u_ws RX0 TX0 12
theorem nmX0 : ∀ a, a < 12 → ∀ b, b < 12 → a ≠ b → (TX0 a).2.1 ≠ (TX0 b).2.1 := by decide +kernel
theorem tyX0_ok : ∀ k, k < 12 → parseFieldDescriptor (TX0 k).2.2.1 = some (tyX0 k) := by decide +kernel
abbrev cX0_init : ByteArray := prog_2_method_1_code
def yX0_init : MethodName := ⟨RX0, "<init>", "()V"⟩
abbrev cX0_copyFrom : ByteArray := prog_2_method_2_code
def yX0_copyFrom : MethodName := ⟨RX0, "copyFrom", "(LStairCourt$Court;)V"⟩
abbrev cX0_judgeOn : ByteArray := prog_2_method_3_code
def yX0_judgeOn : MethodName := ⟨RX0, "judgeOn", "(I)LStairCourt$Judge;"⟩
abbrev cX0_personOf : ByteArray := prog_2_method_4_code
def yX0_personOf : MethodName := ⟨RX0, "personOf", "(I)LStairCourt$Person;"⟩
abbrev cX0_textOf : ByteArray := prog_2_method_5_code
def yX0_textOf : MethodName := ⟨RX0, "textOf", "(I)LStairCourt$Text;"⟩
abbrev cX0_addStep : ByteArray := prog_2_method_6_code
def yX0_addStep : MethodName := ⟨RX0, "addStep", "(II)I"⟩
abbrev cX0_addPerson : ByteArray := prog_2_method_7_code
def yX0_addPerson : MethodName := ⟨RX0, "addPerson", "(I)I"⟩
abbrev cX0_isUp : ByteArray := prog_2_method_8_code
def yX0_isUp : MethodName := ⟨RX0, "isUp", "(LStairCourt$Person;)Z"⟩
abbrev cX0_canGo : ByteArray := prog_2_method_9_code
def yX0_canGo : MethodName := ⟨RX0, "canGo", "(LStairCourt$Person;)Z"⟩
abbrev cX0_gives : ByteArray := prog_2_method_10_code
def yX0_gives : MethodName := ⟨RX0, "gives", "(IIII)I"⟩
abbrev cX0_hold : ByteArray := prog_2_method_11_code
def yX0_hold : MethodName := ⟨RX0, "hold", "(II)I"⟩
abbrev cX0_isContent : ByteArray := prog_2_method_12_code
def yX0_isContent : MethodName := ⟨RX0, "isContent", "(LStairCourt$Judge;I)Z"⟩
abbrev cX0_bribeOf : ByteArray := prog_2_method_13_code
def yX0_bribeOf : MethodName := ⟨RX0, "bribeOf", "(LStairCourt$Judge;)I"⟩
abbrev cX0_contentWords : ByteArray := prog_2_method_14_code
def yX0_contentWords : MethodName := ⟨RX0, "contentWords", "(LStairCourt$Judge;)I"⟩
abbrev cX0_leastContent : ByteArray := prog_2_method_15_code
def yX0_leastContent : MethodName := ⟨RX0, "leastContent", "(LStairCourt$Judge;)I"⟩
abbrev cX0_hear : ByteArray := prog_2_method_16_code
def yX0_hear : MethodName := ⟨RX0, "hear", "(LStairCourt$Person;I)Z"⟩
abbrev cX0_passHour : ByteArray := prog_2_method_17_code
def yX0_passHour : MethodName := ⟨RX0, "passHour", "()V"⟩
abbrev cX0_passHourByDraws : ByteArray := prog_2_method_18_code
def yX0_passHourByDraws : MethodName := ⟨RX0, "passHourByDraws", "()I"⟩
abbrev cX0_draw : ByteArray := prog_2_method_19_code
def yX0_draw : MethodName := ⟨RX0, "draw", "()I"⟩
def RX1 : String := "StairCourt$Cover"
def TX1 : u_T := fun k => match k with
  | 0 => ("StairCourt$Cover", "judgesBy", "[I", true)
  | 1 => ("StairCourt$Cover", "judgesFrom", "[I", true)
  | 2 => ("StairCourt$Cover", "chosen", "[I", true)
  | _ => ("StairCourt$Cover", "all", "I", false)
def tyX1 : Nat → FieldType := fun k => match k with
  | 0 => .array .int
  | 1 => .array .int
  | 2 => .array .int
  | _ => .int
abbrev wsX10 : List Cond := u_ws RX1 TX1 4
theorem nmX1 : ∀ a, a < 4 → ∀ b, b < 4 → a ≠ b → (TX1 a).2.1 ≠ (TX1 b).2.1 := by decide +kernel
theorem tyX1_ok : ∀ k, k < 4 → parseFieldDescriptor (TX1 k).2.2.1 = some (tyX1 k) := by decide +kernel
abbrev cX1_init : ByteArray := prog_3_method_1_code
def yX1_init : MethodName := ⟨RX1, "<init>", "()V"⟩
abbrev cX1_find : ByteArray := prog_3_method_2_code
def yX1_find : MethodName := ⟨RX1, "find", "(LStairCourt$Court;I)I"⟩
abbrev cX1_wordAt : ByteArray := prog_3_method_3_code
def yX1_wordAt : MethodName := ⟨RX1, "wordAt", "(I)I"⟩
abbrev cX1_contentFrom : ByteArray := prog_3_method_4_code
def yX1_contentFrom : MethodName := ⟨RX1, "contentFrom", "(LStairCourt$Court;II)I"⟩
abbrev cX1_choose : ByteArray := prog_3_method_5_code
def yX1_choose : MethodName := ⟨RX1, "choose", "(IIII)Z"⟩
def RX2 : String := "StairCourt$Judge"
def TX2 : u_T := fun k => match k with
  | 0 => ("StairCourt$Judge", "place", "I", true)
  | 1 => ("StairCourt$Judge", "kind", "I", false)
  | 2 => ("StairCourt$Judge", "m", "I", false)
  | _ => ("StairCourt$Judge", "heard", "I", false)
def tyX2 : Nat → FieldType := fun k => match k with
  | 0 => .int
  | 1 => .int
  | 2 => .int
  | _ => .int
abbrev wsX20 : List Cond := u_ws RX2 TX2 4
theorem nmX2 : ∀ a, a < 4 → ∀ b, b < 4 → a ≠ b → (TX2 a).2.1 ≠ (TX2 b).2.1 := by decide +kernel
theorem tyX2_ok : ∀ k, k < 4 → parseFieldDescriptor (TX2 k).2.2.1 = some (tyX2 k) := by decide +kernel
abbrev cX2_init : ByteArray := prog_4_method_1_code
def yX2_init : MethodName := ⟨RX2, "<init>", "(I)V"⟩
abbrev cX2_copyFrom : ByteArray := prog_4_method_2_code
def yX2_copyFrom : MethodName := ⟨RX2, "copyFrom", "(LStairCourt$Judge;)V"⟩
abbrev cX2_nods : ByteArray := prog_4_method_3_code
def yX2_nods : MethodName := ⟨RX2, "nods", "(II)Z"⟩
abbrev cX2_nodsPlainly : ByteArray := prog_4_method_4_code
def yX2_nodsPlainly : MethodName := ⟨RX2, "nodsPlainly", "(I)Z"⟩
abbrev cX2_nodsStrictly : ByteArray := prog_4_method_5_code
def yX2_nodsStrictly : MethodName := ⟨RX2, "nodsStrictly", "(I)Z"⟩
abbrev cX2_nodsMildly : ByteArray := prog_4_method_6_code
def yX2_nodsMildly : MethodName := ⟨RX2, "nodsMildly", "(I)Z"⟩
abbrev cX2_wants : ByteArray := prog_4_method_7_code
def yX2_wants : MethodName := ⟨RX2, "wants", "()I"⟩
def RX3 : String := "StairCourt$Person"
def TX3 : u_T := fun k => match k with
  | 0 => ("StairCourt$Person", "at", "I", false)
  | 1 => ("StairCourt$Person", "legs", "I", false)
  | 2 => ("StairCourt$Person", "paid", "I", false)
  | _ => ("StairCourt$Person", "falls", "I", false)
def tyX3 : Nat → FieldType := fun k => match k with
  | 0 => .int
  | 1 => .int
  | 2 => .int
  | _ => .int
abbrev wsX30 : List Cond := u_ws RX3 TX3 4
theorem nmX3 : ∀ a, a < 4 → ∀ b, b < 4 → a ≠ b → (TX3 a).2.1 ≠ (TX3 b).2.1 := by decide +kernel
theorem tyX3_ok : ∀ k, k < 4 → parseFieldDescriptor (TX3 k).2.2.1 = some (tyX3 k) := by decide +kernel
abbrev cX3_init : ByteArray := prog_5_method_1_code
def yX3_init : MethodName := ⟨RX3, "<init>", "()V"⟩
abbrev cX3_copyFrom : ByteArray := prog_5_method_2_code
def yX3_copyFrom : MethodName := ⟨RX3, "copyFrom", "(LStairCourt$Person;)V"⟩
def RX4 : String := "StairCourt$Reader"
def TX4 : u_T := fun k => match k with
  | 0 => ("StairCourt$Reader", "draft", "LStairCourt$Text;", true)
  | 1 => ("StairCourt$Reader", "at", "I", false)
  | 2 => ("StairCourt$Reader", "tape", "[I", true)
  | 3 => ("StairCourt$Reader", "length", "I", false)
  | _ => ("StairCourt$Reader", "names", "Ljava/lang/String;", false)
def tyX4 : Nat → FieldType := fun k => match k with
  | 0 => .object "StairCourt$Text"
  | 1 => .int
  | 2 => .array .int
  | 3 => .int
  | _ => .object "java/lang/String"
abbrev wsX40 : List Cond := u_ws RX4 TX4 5
theorem nmX4 : ∀ a, a < 5 → ∀ b, b < 5 → a ≠ b → (TX4 a).2.1 ≠ (TX4 b).2.1 := by decide +kernel
theorem tyX4_ok : ∀ k, k < 5 → parseFieldDescriptor (TX4 k).2.2.1 = some (tyX4 k) := by decide +kernel
abbrev cX4_init : ByteArray := prog_6_method_1_code
def yX4_init : MethodName := ⟨RX4, "<init>", "([I)V"⟩
abbrev cX4_read : ByteArray := prog_6_method_2_code
def yX4_read : MethodName := ⟨RX4, "read", "(ILjava/lang/String;)Z"⟩
abbrev cX4_next : ByteArray := prog_6_method_3_code
def yX4_next : MethodName := ⟨RX4, "next", "()I"⟩
abbrev cX4_readLevel : ByteArray := prog_6_method_4_code
def yX4_readLevel : MethodName := ⟨RX4, "readLevel", "(II)Z"⟩
abbrev cX4_levelOf : ByteArray := prog_6_method_5_code
def yX4_levelOf : MethodName := ⟨RX4, "levelOf", "(I)I"⟩
abbrev cX4_readLast : ByteArray := prog_6_method_6_code
def yX4_readLast : MethodName := ⟨RX4, "readLast", "(I)Z"⟩
abbrev cX4_isDigit : ByteArray := prog_6_method_7_code
def yX4_isDigit : MethodName := ⟨RX4, "isDigit", "(I)Z"⟩
abbrev cX4_readNumber : ByteArray := prog_6_method_8_code
def yX4_readNumber : MethodName := ⟨RX4, "readNumber", "()V"⟩
abbrev cX4_readNot : ByteArray := prog_6_method_9_code
def yX4_readNot : MethodName := ⟨RX4, "readNot", "(I)Z"⟩
abbrev cX4_readInner : ByteArray := prog_6_method_10_code
def yX4_readInner : MethodName := ⟨RX4, "readInner", "(I)Z"⟩
def RX5 : String := "StairCourt$Sheet"
def TX5 : u_T := fun k => match k with
  | 0 => ("StairCourt$Sheet", "numbers", "[I", true)
  | 1 => ("StairCourt$Sheet", "bits", "I", false)
  | _ => ("StairCourt$Sheet", "length", "I", false)
def tyX5 : Nat → FieldType := fun k => match k with
  | 0 => .array .int
  | 1 => .int
  | _ => .int
abbrev wsX50 : List Cond := u_ws RX5 TX5 3
theorem nmX5 : ∀ a, a < 3 → ∀ b, b < 3 → a ≠ b → (TX5 a).2.1 ≠ (TX5 b).2.1 := by decide +kernel
theorem tyX5_ok : ∀ k, k < 3 → parseFieldDescriptor (TX5 k).2.2.1 = some (tyX5 k) := by decide +kernel
abbrev cX5_init : ByteArray := prog_7_method_1_code
def yX5_init : MethodName := ⟨RX5, "<init>", "()V"⟩
abbrev cX5_isMissing : ByteArray := prog_7_method_2_code
def yX5_isMissing : MethodName := ⟨RX5, "isMissing", "()Z"⟩
abbrev cX5_renew : ByteArray := prog_7_method_3_code
def yX5_renew : MethodName := ⟨RX5, "renew", "(II)V"⟩
abbrev cX5_get : ByteArray := prog_7_method_4_code
def yX5_get : MethodName := ⟨RX5, "get", "(I)I"⟩
abbrev cX5_set : ByteArray := prog_7_method_5_code
def yX5_set : MethodName := ⟨RX5, "set", "(II)V"⟩
abbrev cX5_lowest : ByteArray := prog_7_method_6_code
def yX5_lowest : MethodName := ⟨RX5, "lowest", "(I)I"⟩
abbrev cX5_holds : ByteArray := prog_7_method_7_code
def yX5_holds : MethodName := ⟨RX5, "holds", "(II)Z"⟩
abbrev cX5_holdsWordsAlone : ByteArray := prog_7_method_8_code
def yX5_holdsWordsAlone : MethodName := ⟨RX5, "holdsWordsAlone", "()Z"⟩
def RX6 : String := "StairCourt$Text"
def TX6 : u_T := fun k => match k with
  | 0 => ("StairCourt$Text", "codes", "[I", true)
  | 1 => ("StairCourt$Text", "open", "[I", true)
  | _ => ("StairCourt$Text", "length", "I", false)
def tyX6 : Nat → FieldType := fun k => match k with
  | 0 => .array .int
  | 1 => .array .int
  | _ => .int
abbrev wsX60 : List Cond := u_ws RX6 TX6 3
theorem nmX6 : ∀ a, a < 3 → ∀ b, b < 3 → a ≠ b → (TX6 a).2.1 ≠ (TX6 b).2.1 := by decide +kernel
theorem tyX6_ok : ∀ k, k < 3 → parseFieldDescriptor (TX6 k).2.2.1 = some (tyX6 k) := by decide +kernel
abbrev cX6_init : ByteArray := prog_8_method_1_code
def yX6_init : MethodName := ⟨RX6, "<init>", "()V"⟩
abbrev cX6_isThere : ByteArray := prog_8_method_2_code
def yX6_isThere : MethodName := ⟨RX6, "isThere", "()Z"⟩
abbrev cX6_clear : ByteArray := prog_8_method_3_code
def yX6_clear : MethodName := ⟨RX6, "clear", "()V"⟩
abbrev cX6_copyFrom : ByteArray := prog_8_method_4_code
def yX6_copyFrom : MethodName := ⟨RX6, "copyFrom", "(LStairCourt$Text;)V"⟩
abbrev cX6_add : ByteArray := prog_8_method_5_code
def yX6_add : MethodName := ⟨RX6, "add", "(I)V"⟩
abbrev cX6_work : ByteArray := prog_8_method_6_code
def yX6_work : MethodName := ⟨RX6, "work", "(III)I"⟩
abbrev cX6_nameAt : ByteArray := prog_8_method_7_code
def yX6_nameAt : MethodName := ⟨RX6, "nameAt", "(IIII)I"⟩
abbrev cX6_join : ByteArray := prog_8_method_8_code
def yX6_join : MethodName := ⟨RX6, "join", "(III)I"⟩
def RX7 : String := "StairCourt$Voices"
def TX7 : u_T := fun k => match k with
  | 0 => ("StairCourt$Voices", "traced", "I", false)
  | 1 => ("StairCourt$Voices", "parted", "Z", false)
  | 2 => ("StairCourt$Voices", "trace", "[I", true)
  | 3 => ("StairCourt$Voices", "kind", "I", false)
  | 4 => ("StairCourt$Voices", "m", "I", false)
  | _ => ("StairCourt$Voices", "place", "I", false)
def tyX7 : Nat → FieldType := fun k => match k with
  | 0 => .int
  | 1 => .boolean
  | 2 => .array .int
  | 3 => .int
  | 4 => .int
  | _ => .int
abbrev wsX70 : List Cond := u_ws RX7 TX7 6
theorem nmX7 : ∀ a, a < 6 → ∀ b, b < 6 → a ≠ b → (TX7 a).2.1 ≠ (TX7 b).2.1 := by decide +kernel
theorem tyX7_ok : ∀ k, k < 6 → parseFieldDescriptor (TX7 k).2.2.1 = some (tyX7 k) := by decide +kernel
abbrev cX7_init : ByteArray := prog_9_method_1_code
def yX7_init : MethodName := ⟨RX7, "<init>", "()V"⟩
abbrev cX7_sound : ByteArray := prog_9_method_2_code
def yX7_sound : MethodName := ⟨RX7, "sound", "(LStairCourt$Judge;II)I"⟩
abbrev cX7_bodyAt : ByteArray := prog_9_method_3_code
def yX7_bodyAt : MethodName := ⟨RX7, "bodyAt", "(I)I"⟩
abbrev cX7_own : ByteArray := prog_9_method_4_code
def yX7_own : MethodName := ⟨RX7, "own", "(III)I"⟩
abbrev cX7_above : ByteArray := prog_9_method_5_code
def yX7_above : MethodName := ⟨RX7, "above", "(IIII)I"⟩
abbrev cX7_bodyFrom : ByteArray := prog_9_method_6_code
def yX7_bodyFrom : MethodName := ⟨RX7, "bodyFrom", "(II)I"⟩
abbrev cX7_bodyOf : ByteArray := prog_9_method_7_code
def yX7_bodyOf : MethodName := ⟨RX7, "bodyOf", "(II)I"⟩
abbrev cX7_begin : ByteArray := prog_9_method_8_code
def yX7_begin : MethodName := ⟨RX7, "begin", "(III)I"⟩
abbrev cX7_part : ByteArray := prog_9_method_9_code
def yX7_part : MethodName := ⟨RX7, "part", "(I)I"⟩
abbrev cX7_note : ByteArray := prog_9_method_10_code
def yX7_note : MethodName := ⟨RX7, "note", "(I)V"⟩
def RX8 : String := "StairCourt"
def TX8 : u_T := fun k => match k with
  | 0 => ("StairCourt", "now", "LStairCourt$Court;", true)
  | 1 => ("StairCourt", "kept", "LStairCourt$Court;", true)
  | 2 => ("StairCourt", "thought", "LStairCourt$Court;", true)
  | 3 => ("StairCourt", "reader", "LStairCourt$Reader;", true)
  | 4 => ("StairCourt", "voices", "LStairCourt$Voices;", true)
  | 5 => ("StairCourt", "cover", "LStairCourt$Cover;", true)
  | 6 => ("StairCourt", "sheets", "[LStairCourt$Sheet;", true)
  | 7 => ("StairCourt", "errors", "[I", true)
  | _ => ("StairCourt", "images", "I", false)
def tyX8 : Nat → FieldType := fun k => match k with
  | 0 => .object "StairCourt$Court"
  | 1 => .object "StairCourt$Court"
  | 2 => .object "StairCourt$Court"
  | 3 => .object "StairCourt$Reader"
  | 4 => .object "StairCourt$Voices"
  | 5 => .object "StairCourt$Cover"
  | 6 => .array (.object "StairCourt$Sheet")
  | 7 => .array .int
  | _ => .int
abbrev wsX80 : List Cond := u_ws RX8 TX8 9
theorem nmX8 : ∀ a, a < 9 → ∀ b, b < 9 → a ≠ b → (TX8 a).2.1 ≠ (TX8 b).2.1 := by decide +kernel
theorem tyX8_ok : ∀ k, k < 9 → parseFieldDescriptor (TX8 k).2.2.1 = some (tyX8 k) := by decide +kernel
abbrev cX8_init : ByteArray := prog_1_method_1_code
def yX8_init : MethodName := ⟨RX8, "<init>", "()V"⟩
abbrev cX8_step : ByteArray := prog_1_method_2_code
def yX8_step : MethodName := ⟨RX8, "step", "(I)I"⟩
abbrev cX8_stepIs : ByteArray := prog_1_method_3_code
def yX8_stepIs : MethodName := ⟨RX8, "stepIs", "(II)I"⟩
abbrev cX8_become : ByteArray := prog_1_method_4_code
def yX8_become : MethodName := ⟨RX8, "become", "(II)I"⟩
abbrev cX8_as : ByteArray := prog_1_method_5_code
def yX8_as : MethodName := ⟨RX8, "as", "(II)I"⟩
abbrev cX8_person : ByteArray := prog_1_method_6_code
def yX8_person : MethodName := ⟨RX8, "person", "(I)I"⟩
abbrev cX8_personIs : ByteArray := prog_1_method_7_code
def yX8_personIs : MethodName := ⟨RX8, "personIs", "(II)I"⟩
abbrev cX8_rests : ByteArray := prog_1_method_8_code
def yX8_rests : MethodName := ⟨RX8, "rests", "(II)I"⟩
abbrev cX8_carry : ByteArray := prog_1_method_9_code
def yX8_carry : MethodName := ⟨RX8, "carry", "(II)I"⟩
abbrev cX8_content : ByteArray := prog_1_method_10_code
def yX8_content : MethodName := ⟨RX8, "content", "(II)I"⟩
abbrev cX8_say : ByteArray := prog_1_method_11_code
def yX8_say : MethodName := ⟨RX8, "say", "(II)I"⟩
abbrev cX8_bribe : ByteArray := prog_1_method_12_code
def yX8_bribe : MethodName := ⟨RX8, "bribe", "(I)I"⟩
abbrev cX8_feed : ByteArray := prog_1_method_13_code
def yX8_feed : MethodName := ⟨RX8, "feed", "(JI)I"⟩
abbrev cX8_text : ByteArray := prog_1_method_14_code
def yX8_text : MethodName := ⟨RX8, "text", "(I)I"⟩
abbrev cX8_untell : ByteArray := prog_1_method_15_code
def yX8_untell : MethodName := ⟨RX8, "untell", "(I)I"⟩
abbrev cX8_law : ByteArray := prog_1_method_16_code
def yX8_law : MethodName := ⟨RX8, "law", "(IIII)I"⟩
abbrev cX8_hours : ByteArray := prog_1_method_17_code
def yX8_hours : MethodName := ⟨RX8, "hours", "(I)I"⟩
abbrev cX8_loose : ByteArray := prog_1_method_18_code
def yX8_loose : MethodName := ⟨RX8, "loose", "(I)I"⟩
abbrev cX8_seed : ByteArray := prog_1_method_19_code
def yX8_seed : MethodName := ⟨RX8, "seed", "(I)I"⟩
abbrev cX8_words : ByteArray := prog_1_method_20_code
def yX8_words : MethodName := ⟨RX8, "words", "(II)I"⟩
abbrev cX8_climb : ByteArray := prog_1_method_21_code
def yX8_climb : MethodName := ⟨RX8, "climb", "(III)I"⟩
abbrev cX8_fewest : ByteArray := prog_1_method_22_code
def yX8_fewest : MethodName := ⟨RX8, "fewest", "(II)I"⟩
abbrev cX8_cheapest : ByteArray := prog_1_method_23_code
def yX8_cheapest : MethodName := ⟨RX8, "cheapest", "(III)I"⟩
abbrev cX8_odds : ByteArray := prog_1_method_24_code
def yX8_odds : MethodName := ⟨RX8, "odds", "(III)J"⟩
abbrev cX8_fits : ByteArray := prog_1_method_25_code
def yX8_fits : MethodName := ⟨RX8, "fits", "(II)I"⟩
abbrev cX8_voice : ByteArray := prog_1_method_26_code
def yX8_voice : MethodName := ⟨RX8, "voice", "(III)I"⟩
abbrev cX8_body : ByteArray := prog_1_method_27_code
def yX8_body : MethodName := ⟨RX8, "body", "(I)I"⟩
abbrev cX8_sheet : ByteArray := prog_1_method_28_code
def yX8_sheet : MethodName := ⟨RX8, "sheet", "(III)I"⟩
abbrev cX8_put : ByteArray := prog_1_method_29_code
def yX8_put : MethodName := ⟨RX8, "put", "(III)I"⟩
abbrev cX8_move : ByteArray := prog_1_method_30_code
def yX8_move : MethodName := ⟨RX8, "move", "(IIIII)I"⟩
abbrev cX8_carries : ByteArray := prog_1_method_31_code
def yX8_carries : MethodName := ⟨RX8, "carries", "(I)I"⟩
abbrev cX8_judge : ByteArray := prog_1_method_32_code
def yX8_judge : MethodName := ⟨RX8, "judge", "(I)I"⟩
abbrev cX8_image : ByteArray := prog_1_method_33_code
def yX8_image : MethodName := ⟨RX8, "image", "()I"⟩
abbrev cX8_restore : ByteArray := prog_1_method_34_code
def yX8_restore : MethodName := ⟨RX8, "restore", "()I"⟩
abbrev cX8_tell : ByteArray := prog_1_method_35_code
def yX8_tell : MethodName := ⟨RX8, "tell", "(I)I"⟩
abbrev cX8_check : ByteArray := prog_1_method_36_code
def yX8_check : MethodName := ⟨RX8, "check", "()I"⟩
abbrev cX8_count : ByteArray := prog_1_method_37_code
def yX8_count : MethodName := ⟨RX8, "count", "(I)I"⟩
abbrev cX8_told : ByteArray := prog_1_method_38_code
def yX8_told : MethodName := ⟨RX8, "told", "(I)I"⟩
abbrev cX8_within : ByteArray := prog_1_method_39_code
def yX8_within : MethodName := ⟨RX8, "within", "(III)Z"⟩
abbrev cX8_isWord : ByteArray := prog_1_method_40_code
def yX8_isWord : MethodName := ⟨RX8, "isWord", "(I)Z"⟩
abbrev cX8_error : ByteArray := prog_1_method_41_code
def yX8_error : MethodName := ⟨RX8, "error", "(I)I"⟩
abbrev cX8_sheetOf : ByteArray := prog_1_method_42_code
def yX8_sheetOf : MethodName := ⟨RX8, "sheetOf", "(I)LStairCourt$Sheet;"⟩
abbrev cX8_kindAbove : ByteArray := prog_1_method_43_code
def yX8_kindAbove : MethodName := ⟨RX8, "kindAbove", "(I)I"⟩
abbrev cX8_isUnder : ByteArray := prog_1_method_44_code
def yX8_isUnder : MethodName := ⟨RX8, "isUnder", "(II)Z"⟩
abbrev cX8_isContentByAny : ByteArray := prog_1_method_45_code
def yX8_isContentByAny : MethodName := ⟨RX8, "isContentByAny", "(LStairCourt$Judge;LStairCourt$Sheet;)Z"⟩
abbrev cX8_isToldBy : ByteArray := prog_1_method_46_code
def yX8_isToldBy : MethodName := ⟨RX8, "isToldBy", "(LStairCourt$Sheet;I)Z"⟩
abbrev cX8_sharedDivisor : ByteArray := prog_1_method_47_code
def yX8_sharedDivisor : MethodName := ⟨RX8, "sharedDivisor", "(JJ)J"⟩
def RX9 : String := "StairCourtModel"
def TX9 : u_T := fun k => match k with
  | 0 => ("StairCourtModel", "row", "[I", true)
  | 1 => ("StairCourtModel", "kept", "[I", true)
  | 2 => ("StairCourtModel", "before", "[I", true)
  | 3 => ("StairCourtModel", "images", "I", false)
  | 4 => ("StairCourtModel", "errors", "[I", true)
  | 5 => ("StairCourtModel", "bitsOf", "[I", true)
  | 6 => ("StairCourtModel", "sizeOf", "[I", true)
  | 7 => ("StairCourtModel", "cells", "[I", true)
  | 8 => ("StairCourtModel", "act", "[I", true)
  | 9 => ("StairCourtModel", "with", "[I", true)
  | 10 => ("StairCourtModel", "facts", "[I", true)
  | 11 => ("StairCourtModel", "pile", "[I", true)
  | 12 => ("StairCourtModel", "laid", "I", false)
  | 13 => ("StairCourtModel", "here", "I", false)
  | 14 => ("StairCourtModel", "opened", "I", false)
  | 15 => ("StairCourtModel", "bad", "Z", false)
  | 16 => ("StairCourtModel", "using", "I", false)
  | 17 => ("StairCourtModel", "whom", "[I", true)
  | 18 => ("StairCourtModel", "trace", "[I", true)
  | 19 => ("StairCourtModel", "traced", "I", false)
  | _ => ("StairCourtModel", "isParted", "Z", false)
def tyX9 : Nat → FieldType := fun k => match k with
  | 0 => .array .int
  | 1 => .array .int
  | 2 => .array .int
  | 3 => .int
  | 4 => .array .int
  | 5 => .array .int
  | 6 => .array .int
  | 7 => .array .int
  | 8 => .array .int
  | 9 => .array .int
  | 10 => .array .int
  | 11 => .array .int
  | 12 => .int
  | 13 => .int
  | 14 => .int
  | 15 => .boolean
  | 16 => .int
  | 17 => .array .int
  | 18 => .array .int
  | 19 => .int
  | _ => .boolean
abbrev wsX90 : List Cond := u_ws RX9 TX9 21
theorem nmX9 : ∀ a, a < 21 → ∀ b, b < 21 → a ≠ b → (TX9 a).2.1 ≠ (TX9 b).2.1 := by decide +kernel
theorem tyX9_ok : ∀ k, k < 21 → parseFieldDescriptor (TX9 k).2.2.1 = some (tyX9 k) := by decide +kernel
abbrev cX9_init : ByteArray := prog_11_method_1_code
def yX9_init : MethodName := ⟨RX9, "<init>", "()V"⟩
abbrev cX9_error : ByteArray := prog_11_method_2_code
def yX9_error : MethodName := ⟨RX9, "error", "(I)I"⟩
abbrev cX9_in : ByteArray := prog_11_method_3_code
def yX9_in : MethodName := ⟨RX9, "in", "(III)Z"⟩
abbrev cX9_held : ByteArray := prog_11_method_4_code
def yX9_held : MethodName := ⟨RX9, "held", "(III)I"⟩
abbrev cX9_copyAll : ByteArray := prog_11_method_5_code
def yX9_copyAll : MethodName := ⟨RX9, "copyAll", "([I[I)V"⟩
abbrev cX9_thinks : ByteArray := prog_11_method_6_code
def yX9_thinks : MethodName := ⟨RX9, "thinks", "()V"⟩
abbrev cX9_putsBack : ByteArray := prog_11_method_7_code
def yX9_putsBack : MethodName := ⟨RX9, "putsBack", "()V"⟩
abbrev cX9_isStep : ByteArray := prog_11_method_8_code
def yX9_isStep : MethodName := ⟨RX9, "isStep", "(I)Z"⟩
abbrev cX9_isPerson : ByteArray := prog_11_method_9_code
def yX9_isPerson : MethodName := ⟨RX9, "isPerson", "(I)Z"⟩
abbrev cX9_isWord : ByteArray := prog_11_method_10_code
def yX9_isWord : MethodName := ⟨RX9, "isWord", "(I)Z"⟩
abbrev cX9_becomes : ByteArray := prog_11_method_11_code
def yX9_becomes : MethodName := ⟨RX9, "becomes", "(II)I"⟩
abbrev cX9_of : ByteArray := prog_11_method_12_code
def yX9_of : MethodName := ⟨RX9, "of", "(II)I"⟩
abbrev cX9_about : ByteArray := prog_11_method_13_code
def yX9_about : MethodName := ⟨RX9, "about", "(II)I"⟩
abbrev cX9_lets : ByteArray := prog_11_method_14_code
def yX9_lets : MethodName := ⟨RX9, "lets", "(III)V"⟩
abbrev cX9_doesNod : ByteArray := prog_11_method_15_code
def yX9_doesNod : MethodName := ⟨RX9, "doesNod", "(II)Z"⟩
abbrev cX9_isContent : ByteArray := prog_11_method_16_code
def yX9_isContent : MethodName := ⟨RX9, "isContent", "(II)Z"⟩
abbrev cX9_wantsOf : ByteArray := prog_11_method_17_code
def yX9_wantsOf : MethodName := ⟨RX9, "wantsOf", "(I)I"⟩
abbrev cX9_bribeOf : ByteArray := prog_11_method_18_code
def yX9_bribeOf : MethodName := ⟨RX9, "bribeOf", "(I)I"⟩
abbrev cX9_isKm : ByteArray := prog_11_method_19_code
def yX9_isKm : MethodName := ⟨RX9, "isKm", "(I)Z"⟩
abbrev cX9_step : ByteArray := prog_11_method_20_code
def yX9_step : MethodName := ⟨RX9, "step", "(I)I"⟩
abbrev cX9_stepIs : ByteArray := prog_11_method_21_code
def yX9_stepIs : MethodName := ⟨RX9, "stepIs", "(II)I"⟩
abbrev cX9_become : ByteArray := prog_11_method_22_code
def yX9_become : MethodName := ⟨RX9, "become", "(II)I"⟩
abbrev cX9_as : ByteArray := prog_11_method_23_code
def yX9_as : MethodName := ⟨RX9, "as", "(II)I"⟩
abbrev cX9_person : ByteArray := prog_11_method_24_code
def yX9_person : MethodName := ⟨RX9, "person", "(I)I"⟩
abbrev cX9_isUp : ByteArray := prog_11_method_25_code
def yX9_isUp : MethodName := ⟨RX9, "isUp", "(I)Z"⟩
abbrev cX9_personIs : ByteArray := prog_11_method_26_code
def yX9_personIs : MethodName := ⟨RX9, "personIs", "(II)I"⟩
abbrev cX9_rests : ByteArray := prog_11_method_27_code
def yX9_rests : MethodName := ⟨RX9, "rests", "(II)I"⟩
abbrev cX9_carry : ByteArray := prog_11_method_28_code
def yX9_carry : MethodName := ⟨RX9, "carry", "(II)I"⟩
abbrev cX9_content : ByteArray := prog_11_method_29_code
def yX9_content : MethodName := ⟨RX9, "content", "(II)I"⟩
abbrev cX9_canGo : ByteArray := prog_11_method_30_code
def yX9_canGo : MethodName := ⟨RX9, "canGo", "(I)Z"⟩
abbrev cX9_says : ByteArray := prog_11_method_31_code
def yX9_says : MethodName := ⟨RX9, "says", "(II)Z"⟩
abbrev cX9_say : ByteArray := prog_11_method_32_code
def yX9_say : MethodName := ⟨RX9, "say", "(II)I"⟩
abbrev cX9_bribe : ByteArray := prog_11_method_33_code
def yX9_bribe : MethodName := ⟨RX9, "bribe", "(I)I"⟩
abbrev cX9_feed : ByteArray := prog_11_method_34_code
def yX9_feed : MethodName := ⟨RX9, "feed", "(JI)I"⟩
abbrev cX9_look : ByteArray := prog_11_method_35_code
def yX9_look : MethodName := ⟨RX9, "look", "()I"⟩
abbrev cX9_lays : ByteArray := prog_11_method_36_code
def yX9_lays : MethodName := ⟨RX9, "lays", "(II)V"⟩
abbrev cX9_nameOf : ByteArray := prog_11_method_37_code
def yX9_nameOf : MethodName := ⟨RX9, "nameOf", "(I)I"⟩
abbrev cX9_number : ByteArray := prog_11_method_38_code
def yX9_number : MethodName := ⟨RX9, "number", "()V"⟩
abbrev cX9_opens : ByteArray := prog_11_method_39_code
def yX9_opens : MethodName := ⟨RX9, "opens", "(I)V"⟩
abbrev cX9_one : ByteArray := prog_11_method_40_code
def yX9_one : MethodName := ⟨RX9, "one", "()V"⟩
abbrev cX9_times : ByteArray := prog_11_method_41_code
def yX9_times : MethodName := ⟨RX9, "times", "()V"⟩
abbrev cX9_sum : ByteArray := prog_11_method_42_code
def yX9_sum : MethodName := ⟨RX9, "sum", "()V"⟩
abbrev cX9_compares : ByteArray := prog_11_method_43_code
def yX9_compares : MethodName := ⟨RX9, "compares", "()V"⟩
abbrev cX9_all : ByteArray := prog_11_method_44_code
def yX9_all : MethodName := ⟨RX9, "all", "()V"⟩
abbrev cX9_any : ByteArray := prog_11_method_45_code
def yX9_any : MethodName := ⟨RX9, "any", "()V"⟩
abbrev cX9_text : ByteArray := prog_11_method_46_code
def yX9_text : MethodName := ⟨RX9, "text", "(I)I"⟩
abbrev cX9_untell : ByteArray := prog_11_method_47_code
def yX9_untell : MethodName := ⟨RX9, "untell", "(I)I"⟩
abbrev cX9_twoOf : ByteArray := prog_11_method_48_code
def yX9_twoOf : MethodName := ⟨RX9, "twoOf", "(III)I"⟩
abbrev cX9_works : ByteArray := prog_11_method_49_code
def yX9_works : MethodName := ⟨RX9, "works", "(I)I"⟩
abbrev cX9_gives : ByteArray := prog_11_method_50_code
def yX9_gives : MethodName := ⟨RX9, "gives", "(IIII)I"⟩
abbrev cX9_law : ByteArray := prog_11_method_51_code
def yX9_law : MethodName := ⟨RX9, "law", "(IIII)I"⟩
abbrev cX9_goes : ByteArray := prog_11_method_52_code
def yX9_goes : MethodName := ⟨RX9, "goes", "()V"⟩
abbrev cX9_hours : ByteArray := prog_11_method_53_code
def yX9_hours : MethodName := ⟨RX9, "hours", "(I)I"⟩
abbrev cX9_draw : ByteArray := prog_11_method_54_code
def yX9_draw : MethodName := ⟨RX9, "draw", "()I"⟩
abbrev cX9_drawn : ByteArray := prog_11_method_55_code
def yX9_drawn : MethodName := ⟨RX9, "drawn", "()I"⟩
abbrev cX9_loose : ByteArray := prog_11_method_56_code
def yX9_loose : MethodName := ⟨RX9, "loose", "(I)I"⟩
abbrev cX9_seed : ByteArray := prog_11_method_57_code
def yX9_seed : MethodName := ⟨RX9, "seed", "(I)I"⟩
abbrev cX9_wordsOf : ByteArray := prog_11_method_58_code
def yX9_wordsOf : MethodName := ⟨RX9, "wordsOf", "(I)I"⟩
abbrev cX9_words : ByteArray := prog_11_method_59_code
def yX9_words : MethodName := ⟨RX9, "words", "(II)I"⟩
abbrev cX9_areWords : ByteArray := prog_11_method_60_code
def yX9_areWords : MethodName := ⟨RX9, "areWords", "(I)Z"⟩
abbrev cX9_climb : ByteArray := prog_11_method_61_code
def yX9_climb : MethodName := ⟨RX9, "climb", "(III)I"⟩
abbrev cX9_findWhom : ByteArray := prog_11_method_62_code
def yX9_findWhom : MethodName := ⟨RX9, "findWhom", "(I)V"⟩
abbrev cX9_wordAt : ByteArray := prog_11_method_63_code
def yX9_wordAt : MethodName := ⟨RX9, "wordAt", "(IIIII)I"⟩
abbrev cX9_fewest : ByteArray := prog_11_method_64_code
def yX9_fewest : MethodName := ⟨RX9, "fewest", "(II)I"⟩
abbrev cX9_isContentBy : ByteArray := prog_11_method_65_code
def yX9_isContentBy : MethodName := ⟨RX9, "isContentBy", "(II)Z"⟩
abbrev cX9_cheapest : ByteArray := prog_11_method_66_code
def yX9_cheapest : MethodName := ⟨RX9, "cheapest", "(III)I"⟩
abbrev cX9_odds : ByteArray := prog_11_method_67_code
def yX9_odds : MethodName := ⟨RX9, "odds", "(III)J"⟩
abbrev cX9_isSo : ByteArray := prog_11_method_68_code
def yX9_isSo : MethodName := ⟨RX9, "isSo", "(II)Z"⟩
abbrev cX9_fits : ByteArray := prog_11_method_69_code
def yX9_fits : MethodName := ⟨RX9, "fits", "(II)I"⟩
abbrev cX9_begins : ByteArray := prog_11_method_70_code
def yX9_begins : MethodName := ⟨RX9, "begins", "(I)V"⟩
abbrev cX9_plainAsks : ByteArray := prog_11_method_71_code
def yX9_plainAsks : MethodName := ⟨RX9, "plainAsks", "(II)I"⟩
abbrev cX9_strictAsks : ByteArray := prog_11_method_72_code
def yX9_strictAsks : MethodName := ⟨RX9, "strictAsks", "(II)I"⟩
abbrev cX9_asks : ByteArray := prog_11_method_73_code
def yX9_asks : MethodName := ⟨RX9, "asks", "(II)I"⟩
abbrev cX9_plainNods : ByteArray := prog_11_method_74_code
def yX9_plainNods : MethodName := ⟨RX9, "plainNods", "(II)I"⟩
abbrev cX9_mildNods : ByteArray := prog_11_method_75_code
def yX9_mildNods : MethodName := ⟨RX9, "mildNods", "(II)I"⟩
abbrev cX9_nods : ByteArray := prog_11_method_76_code
def yX9_nods : MethodName := ⟨RX9, "nods", "(II)I"⟩
abbrev cX9_plainEchoes : ByteArray := prog_11_method_77_code
def yX9_plainEchoes : MethodName := ⟨RX9, "plainEchoes", "(II)I"⟩
abbrev cX9_echoes : ByteArray := prog_11_method_78_code
def yX9_echoes : MethodName := ⟨RX9, "echoes", "(II)I"⟩
abbrev cX9_plainParts : ByteArray := prog_11_method_79_code
def yX9_plainParts : MethodName := ⟨RX9, "plainParts", "(II)I"⟩
abbrev cX9_partsBy : ByteArray := prog_11_method_80_code
def yX9_partsBy : MethodName := ⟨RX9, "partsBy", "(II)I"⟩
abbrev cX9_voice : ByteArray := prog_11_method_81_code
def yX9_voice : MethodName := ⟨RX9, "voice", "(III)I"⟩
abbrev cX9_body : ByteArray := prog_11_method_82_code
def yX9_body : MethodName := ⟨RX9, "body", "(I)I"⟩
abbrev cX9_isSheet : ByteArray := prog_11_method_83_code
def yX9_isSheet : MethodName := ⟨RX9, "isSheet", "(I)Z"⟩
abbrev cX9_sheet : ByteArray := prog_11_method_84_code
def yX9_sheet : MethodName := ⟨RX9, "sheet", "(III)I"⟩
abbrev cX9_notThere : ByteArray := prog_11_method_85_code
def yX9_notThere : MethodName := ⟨RX9, "notThere", "(I)I"⟩
abbrev cX9_put : ByteArray := prog_11_method_86_code
def yX9_put : MethodName := ⟨RX9, "put", "(III)I"⟩
abbrev cX9_notMoved : ByteArray := prog_11_method_87_code
def yX9_notMoved : MethodName := ⟨RX9, "notMoved", "(IIIII)I"⟩
abbrev cX9_move : ByteArray := prog_11_method_88_code
def yX9_move : MethodName := ⟨RX9, "move", "(IIIII)I"⟩
abbrev cX9_carries : ByteArray := prog_11_method_89_code
def yX9_carries : MethodName := ⟨RX9, "carries", "(I)I"⟩
abbrev cX9_judge : ByteArray := prog_11_method_90_code
def yX9_judge : MethodName := ⟨RX9, "judge", "(I)I"⟩
abbrev cX9_image : ByteArray := prog_11_method_91_code
def yX9_image : MethodName := ⟨RX9, "image", "()I"⟩
abbrev cX9_restore : ByteArray := prog_11_method_92_code
def yX9_restore : MethodName := ⟨RX9, "restore", "()I"⟩
abbrev cX9_tell : ByteArray := prog_11_method_93_code
def yX9_tell : MethodName := ⟨RX9, "tell", "(I)I"⟩
abbrev cX9_check : ByteArray := prog_11_method_94_code
def yX9_check : MethodName := ⟨RX9, "check", "()I"⟩
abbrev cX9_count : ByteArray := prog_11_method_95_code
def yX9_count : MethodName := ⟨RX9, "count", "(I)I"⟩
abbrev cX9_told : ByteArray := prog_11_method_96_code
def yX9_told : MethodName := ⟨RX9, "told", "(I)I"⟩
def RJx145de : String := "java/io/Serializable"
def TJx145de : u_T := fun k => match k with
  | _ => ("", "", "", false)
def tyJx145de : Nat → FieldType := fun k => match k with
  | _ => .int
abbrev wsJx145de0 : List Cond := u_ws RJx145de TJx145de 0
theorem nmJx145de : ∀ a, a < 0 → ∀ b, b < 0 → a ≠ b → (TJx145de a).2.1 ≠ (TJx145de b).2.1 := by decide +kernel
theorem tyJx145de_ok : ∀ k, k < 0 → parseFieldDescriptor (TJx145de k).2.2.1 = some (tyJx145de k) := by decide +kernel
def RJx9f9b0 : String := "java/lang/CharSequence"
def TJx9f9b0 : u_T := fun k => match k with
  | _ => ("", "", "", false)
def tyJx9f9b0 : Nat → FieldType := fun k => match k with
  | _ => .int
abbrev wsJx9f9b00 : List Cond := u_ws RJx9f9b0 TJx9f9b0 0
theorem nmJx9f9b0 : ∀ a, a < 0 → ∀ b, b < 0 → a ≠ b → (TJx9f9b0 a).2.1 ≠ (TJx9f9b0 b).2.1 := by decide +kernel
theorem tyJx9f9b0_ok : ∀ k, k < 0 → parseFieldDescriptor (TJx9f9b0 k).2.2.1 = some (tyJx9f9b0 k) := by decide +kernel
def RJ11 : String := "java/lang/Character"
def TJ11 : u_T := fun k => match k with
  | _ => ("", "", "", false)
def tyJ11 : Nat → FieldType := fun k => match k with
  | _ => .int
abbrev wsJ110 : List Cond := u_ws RJ11 TJ11 0
theorem nmJ11 : ∀ a, a < 0 → ∀ b, b < 0 → a ≠ b → (TJ11 a).2.1 ≠ (TJ11 b).2.1 := by decide +kernel
theorem tyJ11_ok : ∀ k, k < 0 → parseFieldDescriptor (TJ11 k).2.2.1 = some (tyJ11 k) := by decide +kernel
abbrev cJ11_isValidCodePoint_9a6ad : ByteArray := prog_12_method_11_code
def yJ11_isValidCodePoint_9a6ad : MethodName := ⟨RJ11, "isValidCodePoint", "(I)Z"⟩
abbrev cJ11_highSurrogate_5068e : ByteArray := prog_12_method_28_code
def yJ11_highSurrogate_5068e : MethodName := ⟨RJ11, "highSurrogate", "(I)C"⟩
abbrev cJ11_lowSurrogate_5068e : ByteArray := prog_12_method_29_code
def yJ11_lowSurrogate_5068e : MethodName := ⟨RJ11, "lowSurrogate", "(I)C"⟩
def RJxb160c : String := "java/lang/Comparable"
def TJxb160c : u_T := fun k => match k with
  | _ => ("", "", "", false)
def tyJxb160c : Nat → FieldType := fun k => match k with
  | _ => .int
abbrev wsJxb160c0 : List Cond := u_ws RJxb160c TJxb160c 0
theorem nmJxb160c : ∀ a, a < 0 → ∀ b, b < 0 → a ≠ b → (TJxb160c a).2.1 ≠ (TJxb160c b).2.1 := by decide +kernel
theorem tyJxb160c_ok : ∀ k, k < 0 → parseFieldDescriptor (TJxb160c k).2.2.1 = some (tyJxb160c k) := by decide +kernel
def RJ9 : String := "java/lang/Math"
def TJ9 : u_T := fun k => match k with
  | _ => ("", "", "", false)
def tyJ9 : Nat → FieldType := fun k => match k with
  | _ => .int
abbrev wsJ90 : List Cond := u_ws RJ9 TJ9 0
theorem nmJ9 : ∀ a, a < 0 → ∀ b, b < 0 → a ≠ b → (TJ9 a).2.1 ≠ (TJ9 b).2.1 := by decide +kernel
theorem tyJ9_ok : ∀ k, k < 0 → parseFieldDescriptor (TJ9 k).2.2.1 = some (tyJ9 k) := by decide +kernel
abbrev cJ9_max_7cf53 : ByteArray := prog_13_method_65_code
def yJ9_max_7cf53 : MethodName := ⟨RJ9, "max", "(II)I"⟩
abbrev cJ9_min_7cf53 : ByteArray := prog_13_method_69_code
def yJ9_min_7cf53 : MethodName := ⟨RJ9, "min", "(II)I"⟩
def RJ0 : String := "java/lang/String"
def TJ0 : u_T := fun k => match k with
  | _ => ("", "", "", false)
def tyJ0 : Nat → FieldType := fun k => match k with
  | _ => .int
abbrev wsJ00 : List Cond := u_ws RJ0 TJ0 0
theorem nmJ0 : ∀ a, a < 0 → ∀ b, b < 0 → a ≠ b → (TJ0 a).2.1 ≠ (TJ0 b).2.1 := by decide +kernel
theorem tyJ0_ok : ∀ k, k < 0 → parseFieldDescriptor (TJ0 k).2.2.1 = some (tyJ0 k) := by decide +kernel
abbrev cJ0_length_8abf5 : ByteArray := prog_14_method_54_code
def yJ0_length_8abf5 : MethodName := ⟨RJ0, "length", "()I"⟩
abbrev cJ0_indexOf_0f7a4 : ByteArray := prog_14_method_79_code
def yJ0_indexOf_0f7a4 : MethodName := ⟨RJ0, "indexOf", "(I)I"⟩
abbrev cJ0_indexOf_7cf53 : ByteArray := prog_14_method_80_code
def yJ0_indexOf_7cf53 : MethodName := ⟨RJ0, "indexOf", "(II)I"⟩
abbrev cJ0_coder_7d493 : ByteArray := prog_14_method_152_code
def yJ0_coder_7d493 : MethodName := ⟨RJ0, "coder", "()B"⟩
abbrev cJ0_isLatin1_aae02 : ByteArray := prog_14_method_154_code
def yJ0_isLatin1_aae02 : MethodName := ⟨RJ0, "isLatin1", "()Z"⟩
abbrev cJ0_checkBoundsBeginEnd_23922 : ByteArray := prog_14_method_158_code
def yJ0_checkBoundsBeginEnd_23922 : MethodName := ⟨RJ0, "checkBoundsBeginEnd", "(III)V"⟩
def RJ1 : String := "java/lang/StringLatin1"
def TJ1 : u_T := fun k => match k with
  | _ => ("", "", "", false)
def tyJ1 : Nat → FieldType := fun k => match k with
  | _ => .int
abbrev wsJ10 : List Cond := u_ws RJ1 TJ1 0
theorem nmJ1 : ∀ a, a < 0 → ∀ b, b < 0 → a ≠ b → (TJ1 a).2.1 ≠ (TJ1 b).2.1 := by decide +kernel
theorem tyJ1_ok : ∀ k, k < 0 → parseFieldDescriptor (TJ1 k).2.2.1 = some (tyJ1 k) := by decide +kernel
abbrev cJ1_canEncode_9a6ad : ByteArray := prog_15_method_4_code
def yJ1_canEncode_9a6ad : MethodName := ⟨RJ1, "canEncode", "(I)Z"⟩
abbrev cJ1_indexOf_4cfef : ByteArray := prog_15_method_22_code
def yJ1_indexOf_4cfef : MethodName := ⟨RJ1, "indexOf", "([BIII)I"⟩
abbrev cJ1_indexOfChar_4cfef : ByteArray := prog_15_method_23_code
def yJ1_indexOfChar_4cfef : MethodName := ⟨RJ1, "indexOfChar", "([BIII)I"⟩
def RJ2 : String := "java/lang/StringUTF16"
def TJ2 : u_T := fun k => match k with
  | _ => ("", "", "", false)
def tyJ2 : Nat → FieldType := fun k => match k with
  | _ => .int
abbrev wsJ20 : List Cond := u_ws RJ2 TJ2 0
theorem nmJ2 : ∀ a, a < 0 → ∀ b, b < 0 → a ≠ b → (TJ2 a).2.1 ≠ (TJ2 b).2.1 := by decide +kernel
theorem tyJ2_ok : ∀ k, k < 0 → parseFieldDescriptor (TJ2 k).2.2.1 = some (tyJ2 k) := by decide +kernel
abbrev cJ2_getChar_3b067 : ByteArray := prog_16_method_5_code
def yJ2_getChar_3b067 : MethodName := ⟨RJ2, "getChar", "([BI)C"⟩
abbrev cJ2_length_9d52b : ByteArray := prog_16_method_6_code
def yJ2_length_9d52b : MethodName := ⟨RJ2, "length", "([B)I"⟩
abbrev cJ2_indexOf_4cfef : ByteArray := prog_16_method_40_code
def yJ2_indexOf_4cfef : MethodName := ⟨RJ2, "indexOf", "([BIII)I"⟩
abbrev cJ2_indexOfChar_4cfef : ByteArray := prog_16_method_47_code
def yJ2_indexOfChar_4cfef : MethodName := ⟨RJ2, "indexOfChar", "([BIII)I"⟩
abbrev cJ2_indexOfCharUnsafe_4cfef : ByteArray := prog_16_method_48_code
def yJ2_indexOfCharUnsafe_4cfef : MethodName := ⟨RJ2, "indexOfCharUnsafe", "([BIII)I"⟩
abbrev cJ2_indexOfSupplementary_4cfef : ByteArray := prog_16_method_49_code
def yJ2_indexOfSupplementary_4cfef : MethodName := ⟨RJ2, "indexOfSupplementary", "([BIII)I"⟩
abbrev cJ2_checkBoundsBeginEnd_d044e : ByteArray := prog_16_method_93_code
def yJ2_checkBoundsBeginEnd_d044e : MethodName := ⟨RJ2, "checkBoundsBeginEnd", "(II[B)V"⟩
def RJ10 : String := "java/lang/System"
def TJ10 : u_T := fun k => match k with
  | _ => ("", "", "", false)
def tyJ10 : Nat → FieldType := fun k => match k with
  | _ => .int
abbrev wsJ100 : List Cond := u_ws RJ10 TJ10 0
theorem nmJ10 : ∀ a, a < 0 → ∀ b, b < 0 → a ≠ b → (TJ10 a).2.1 ≠ (TJ10 b).2.1 := by decide +kernel
theorem tyJ10_ok : ∀ k, k < 0 → parseFieldDescriptor (TJ10 k).2.2.1 = some (tyJ10 k) := by decide +kernel
def RJxfd54e : String := "java/lang/constant/Constable"
def TJxfd54e : u_T := fun k => match k with
  | _ => ("", "", "", false)
def tyJxfd54e : Nat → FieldType := fun k => match k with
  | _ => .int
abbrev wsJxfd54e0 : List Cond := u_ws RJxfd54e TJxfd54e 0
theorem nmJxfd54e : ∀ a, a < 0 → ∀ b, b < 0 → a ≠ b → (TJxfd54e a).2.1 ≠ (TJxfd54e b).2.1 := by decide +kernel
theorem tyJxfd54e_ok : ∀ k, k < 0 → parseFieldDescriptor (TJxfd54e k).2.2.1 = some (tyJxfd54e k) := by decide +kernel
def RJx3cf43 : String := "java/lang/constant/ConstantDesc"
def TJx3cf43 : u_T := fun k => match k with
  | _ => ("", "", "", false)
def tyJx3cf43 : Nat → FieldType := fun k => match k with
  | _ => .int
abbrev wsJx3cf430 : List Cond := u_ws RJx3cf43 TJx3cf43 0
theorem nmJx3cf43 : ∀ a, a < 0 → ∀ b, b < 0 → a ≠ b → (TJx3cf43 a).2.1 ≠ (TJx3cf43 b).2.1 := by decide +kernel
theorem tyJx3cf43_ok : ∀ k, k < 0 → parseFieldDescriptor (TJx3cf43 k).2.2.1 = some (tyJx3cf43 k) := by decide +kernel
def RJ7 : String := "java/util/Arrays"
def TJ7 : u_T := fun k => match k with
  | _ => ("", "", "", false)
def tyJ7 : Nat → FieldType := fun k => match k with
  | _ => .int
abbrev wsJ70 : List Cond := u_ws RJ7 TJ7 0
theorem nmJ7 : ∀ a, a < 0 → ∀ b, b < 0 → a ≠ b → (TJ7 a).2.1 ≠ (TJ7 b).2.1 := by decide +kernel
theorem tyJ7_ok : ∀ k, k < 0 → parseFieldDescriptor (TJ7 k).2.2.1 = some (tyJ7 k) := by decide +kernel
abbrev cJ7_fill_53178 : ByteArray := prog_18_method_103_code
def yJ7_fill_53178 : MethodName := ⟨RJ7, "fill", "([II)V"⟩
def RJ3 : String := "jdk/internal/util/Preconditions"
def TJ3 : u_T := fun k => match k with
  | _ => ("", "", "", false)
def tyJ3 : Nat → FieldType := fun k => match k with
  | _ => .int
abbrev wsJ30 : List Cond := u_ws RJ3 TJ3 0
theorem nmJ3 : ∀ a, a < 0 → ∀ b, b < 0 → a ≠ b → (TJ3 a).2.1 ≠ (TJ3 b).2.1 := by decide +kernel
theorem tyJ3_ok : ∀ k, k < 0 → parseFieldDescriptor (TJ3 k).2.2.1 = some (tyJ3 k) := by decide +kernel
abbrev cJ3_checkFromToIndex_8c36e : ByteArray := prog_19_method_12_code
def yJ3_checkFromToIndex_8c36e : MethodName := ⟨RJ3, "checkFromToIndex", "(IIILjava/util/function/BiFunction;)I"⟩
def RL : String := "StairCourtLaw"
abbrev cL_law : ByteArray := code
def yL_law : MethodName := ⟨RL, "law", "([I)Z"⟩
def wsX6_init : List Cond := .code yX6_init cX6_init 1 none :: ([.methodLink RX6 3 objectInit, .instanceMethod objectInit, .code objectInit ⟨#[0xb1]⟩ 1 none, .arrayClass .int, .fieldLink RX6 9 "StairCourt$Text" "codes" "[I", .fieldLink RX6 15 "StairCourt$Text" "open" "[I", .fieldLink RX6 18 "StairCourt$Text" "length" "I"] ++ wsX60)
def wsX2_init : List Cond := .code yX2_init cX2_init 2 none :: ([.methodLink RX2 3 objectInit, .instanceMethod objectInit, .code objectInit ⟨#[0xb1]⟩ 1 none, .fieldLink RX2 9 "StairCourt$Judge" "kind" "I", .fieldLink RX2 15 "StairCourt$Judge" "m" "I", .fieldLink RX2 18 "StairCourt$Judge" "heard" "I", .fieldLink RX2 21 "StairCourt$Judge" "place" "I"] ++ wsX20)
def wsX3_init : List Cond := .code yX3_init cX3_init 1 none :: ([.methodLink RX3 1 objectInit, .instanceMethod objectInit, .code objectInit ⟨#[0xb1]⟩ 1 none, .fieldLink RX3 7 "StairCourt$Person" "at" "I", .fieldLink RX3 13 "StairCourt$Person" "legs" "I", .fieldLink RX3 16 "StairCourt$Person" "paid" "I", .fieldLink RX3 19 "StairCourt$Person" "falls" "I"] ++ wsX30)
def wsX0_init_r1 : List Cond := [Cond.methodLink RX0 3 objectInit, Cond.instanceMethod objectInit, Cond.code objectInit ⟨#[0xb1]⟩ 1 none, Cond.classLink RX0 9 RX2, Cond.fieldLink RX0 11 "StairCourt$Court" "judges" "[LStairCourt$Judge;", Cond.fieldLink RX0 17 "StairCourt$Court" "steps" "I", Cond.classLink RX0 21 RX3, Cond.fieldLink RX0 23 "StairCourt$Court" "persons" "[LStairCourt$Person;", Cond.fieldLink RX0 27 "StairCourt$Court" "people" "I", Cond.classLink RX0 30 RX6, Cond.instantiable RX6 3, Cond.initialized RX6, Cond.fieldLink RX0 33 "StairCourt$Court" "heeds" "LStairCourt$Text;", Cond.fieldLink RX0 37 "StairCourt$Court" "bribes" "LStairCourt$Text;", Cond.arrayClass .int, Cond.fieldLink RX0 40 "StairCourt$Court" "tape" "[I", Cond.fieldLink RX0 44 "StairCourt$Court" "taped" "I", Cond.fieldLink RX0 47 "StairCourt$Court" "waits" "[I", Cond.fieldLink RX0 50 "StairCourt$Court" "waiting" "I", Cond.fieldLink RX0 53 "StairCourt$Court" "hour" "I", Cond.fieldLink RX0 56 "StairCourt$Court" "z" "I", Cond.instantiable RX2 4, Cond.initialized RX2, Cond.instantiable RX3 4]
def wsX0_init_r2 : List Cond := [Cond.initialized RX3, Cond.instanceMethod yX6_init, Cond.code yX6_init cX6_init 1 none, Cond.methodLink RX6 3 objectInit, Cond.fieldLink RX6 9 "StairCourt$Text" "codes" "[I", Cond.fieldLink RX6 15 "StairCourt$Text" "open" "[I", Cond.fieldLink RX6 18 "StairCourt$Text" "length" "I", Cond.methodLink RX0 59 yX2_init, Cond.instanceMethod yX2_init, Cond.code yX2_init cX2_init 2 none, Cond.methodLink RX2 3 objectInit, Cond.fieldLink RX2 9 "StairCourt$Judge" "kind" "I", Cond.fieldLink RX2 15 "StairCourt$Judge" "m" "I", Cond.fieldLink RX2 18 "StairCourt$Judge" "heard" "I", Cond.fieldLink RX2 21 "StairCourt$Judge" "place" "I", Cond.instanceMethod yX3_init, Cond.code yX3_init cX3_init 1 none, Cond.methodLink RX3 1 objectInit, Cond.fieldLink RX3 7 "StairCourt$Person" "at" "I", Cond.fieldLink RX3 13 "StairCourt$Person" "legs" "I", Cond.fieldLink RX3 16 "StairCourt$Person" "paid" "I", Cond.fieldLink RX3 19 "StairCourt$Person" "falls" "I"]
def wsX0_init : List Cond := .code yX0_init cX0_init 2 none :: ((wsX0_init_r1 ++ wsX0_init_r2) ++ wsX00 ++ wsX60 ++ wsX20 ++ wsX30)
def wsX2_copyFrom : List Cond := .code yX2_copyFrom cX2_copyFrom 2 none :: ([.fieldLink RX2 9 "StairCourt$Judge" "kind" "I", .fieldLink RX2 15 "StairCourt$Judge" "m" "I", .fieldLink RX2 18 "StairCourt$Judge" "heard" "I"] ++ wsX20)
def wsX3_copyFrom : List Cond := .code yX3_copyFrom cX3_copyFrom 2 none :: ([.fieldLink RX3 7 "StairCourt$Person" "at" "I", .fieldLink RX3 13 "StairCourt$Person" "legs" "I", .fieldLink RX3 16 "StairCourt$Person" "paid" "I", .fieldLink RX3 19 "StairCourt$Person" "falls" "I"] ++ wsX30)
def wsX6_copyFrom : List Cond := .code yX6_copyFrom cX6_copyFrom 2 none :: ([.fieldLink RX6 9 "StairCourt$Text" "codes" "[I", .methodLink RX6 22 arraycopyName, .native arraycopyName, .static arraycopyName, .initialized "java/lang/System", .fieldLink RX6 18 "StairCourt$Text" "length" "I"] ++ wsX60)
def wsX0_copyFrom_r1 : List Cond := [Cond.fieldLink RX0 17 "StairCourt$Court" "steps" "I", Cond.fieldLink RX0 11 "StairCourt$Court" "judges" "[LStairCourt$Judge;", Cond.fieldLink RX0 27 "StairCourt$Court" "people" "I", Cond.fieldLink RX0 23 "StairCourt$Court" "persons" "[LStairCourt$Person;", Cond.fieldLink RX0 33 "StairCourt$Court" "heeds" "LStairCourt$Text;", Cond.fieldLink RX0 37 "StairCourt$Court" "bribes" "LStairCourt$Text;", Cond.fieldLink RX0 40 "StairCourt$Court" "tape" "[I", Cond.methodLink RX0 73 arraycopyName, Cond.native arraycopyName, Cond.static arraycopyName, Cond.initialized "java/lang/System", Cond.fieldLink RX0 44 "StairCourt$Court" "taped" "I", Cond.fieldLink RX0 47 "StairCourt$Court" "waits" "[I", Cond.fieldLink RX0 50 "StairCourt$Court" "waiting" "I", Cond.fieldLink RX0 53 "StairCourt$Court" "hour" "I", Cond.fieldLink RX0 56 "StairCourt$Court" "z" "I", Cond.methodLink RX0 63 yX2_copyFrom, Cond.instanceMethod yX2_copyFrom, Cond.selects RX2 yX2_copyFrom yX2_copyFrom, Cond.initialized RX2, Cond.code yX2_copyFrom cX2_copyFrom 2 none, Cond.fieldLink RX2 9 "StairCourt$Judge" "kind" "I", Cond.fieldLink RX2 15 "StairCourt$Judge" "m" "I", Cond.fieldLink RX2 18 "StairCourt$Judge" "heard" "I"]
def wsX0_copyFrom_r2 : List Cond := [Cond.methodLink RX0 67 yX3_copyFrom, Cond.instanceMethod yX3_copyFrom, Cond.selects RX3 yX3_copyFrom yX3_copyFrom, Cond.initialized RX3, Cond.code yX3_copyFrom cX3_copyFrom 2 none, Cond.fieldLink RX3 7 "StairCourt$Person" "at" "I", Cond.fieldLink RX3 13 "StairCourt$Person" "legs" "I", Cond.fieldLink RX3 16 "StairCourt$Person" "paid" "I", Cond.fieldLink RX3 19 "StairCourt$Person" "falls" "I", Cond.methodLink RX0 70 yX6_copyFrom, Cond.instanceMethod yX6_copyFrom, Cond.selects RX6 yX6_copyFrom yX6_copyFrom, Cond.initialized RX6, Cond.code yX6_copyFrom cX6_copyFrom 2 none, Cond.fieldLink RX6 9 "StairCourt$Text" "codes" "[I", Cond.methodLink RX6 22 arraycopyName, Cond.fieldLink RX6 18 "StairCourt$Text" "length" "I"]
def wsX0_copyFrom : List Cond := .code yX0_copyFrom cX0_copyFrom 3 none :: ((wsX0_copyFrom_r1 ++ wsX0_copyFrom_r2) ++ wsX00 ++ wsX20 ++ wsX30 ++ wsX60)
def wsX0_judgeOn : List Cond := .code yX0_judgeOn cX0_judgeOn 2 (some (.object "StairCourt$Judge")) :: ([.fieldLink RX0 17 "StairCourt$Court" "steps" "I", .fieldLink RX0 11 "StairCourt$Court" "judges" "[LStairCourt$Judge;"] ++ wsX00)
def wsX0_personOf : List Cond := .code yX0_personOf cX0_personOf 2 (some (.object "StairCourt$Person")) :: ([.fieldLink RX0 27 "StairCourt$Court" "people" "I", .fieldLink RX0 23 "StairCourt$Court" "persons" "[LStairCourt$Person;"] ++ wsX00)
def wsX0_textOf : List Cond := .code yX0_textOf cX0_textOf 2 (some (.object "StairCourt$Text")) :: ([.fieldLink RX0 33 "StairCourt$Court" "heeds" "LStairCourt$Text;", .fieldLink RX0 37 "StairCourt$Court" "bribes" "LStairCourt$Text;"] ++ wsX00)
def wsX0_addStep : List Cond := .code yX0_addStep cX0_addStep 5 (some .int) :: ([.fieldLink RX0 17 "StairCourt$Court" "steps" "I", .fieldLink RX0 11 "StairCourt$Court" "judges" "[LStairCourt$Judge;", .fieldLink RX0 79 "StairCourt$Judge" "kind" "I", .fieldLink RX0 82 "StairCourt$Judge" "m" "I", .fieldLink RX0 85 "StairCourt$Judge" "heard" "I"] ++ wsX00 ++ wsX20)
def wsX0_addPerson : List Cond := .code yX0_addPerson cX0_addPerson 4 (some .int) :: ([.fieldLink RX0 27 "StairCourt$Court" "people" "I", .fieldLink RX0 23 "StairCourt$Court" "persons" "[LStairCourt$Person;", .fieldLink RX0 88 "StairCourt$Person" "at" "I", .fieldLink RX0 91 "StairCourt$Person" "legs" "I", .fieldLink RX0 94 "StairCourt$Person" "paid" "I", .fieldLink RX0 97 "StairCourt$Person" "falls" "I"] ++ wsX00 ++ wsX30)
def wsX0_isUp : List Cond := .code yX0_isUp cX0_isUp 2 (some .boolean) :: ([.fieldLink RX0 88 "StairCourt$Person" "at" "I", .fieldLink RX0 17 "StairCourt$Court" "steps" "I"] ++ wsX30 ++ wsX00)
def wsX0_canGo : List Cond := .code yX0_canGo cX0_canGo 2 (some .boolean) :: ([.fieldLink RX0 91 "StairCourt$Person" "legs" "I", .methodLink RX0 100 yX0_isUp, .instanceMethod yX0_isUp, .selects RX0 yX0_isUp yX0_isUp, .initialized RX0, .code yX0_isUp cX0_isUp 2 (some .boolean), .fieldLink RX0 88 "StairCourt$Person" "at" "I", .fieldLink RX0 17 "StairCourt$Court" "steps" "I"] ++ wsX30 ++ wsX00)
def wsX6_isThere : List Cond := .code yX6_isThere cX6_isThere 1 (some .boolean) :: ([.fieldLink RX6 18 "StairCourt$Text" "length" "I"] ++ wsX60)
def wsX6_nameAt : List Cond := .code yX6_nameAt cX6_nameAt 4 (some .int) :: ([])
def wsX6_join : List Cond := .code yX6_join cX6_join 3 (some .int) :: ([])
def wsX6_work : List Cond := .code yX6_work cX6_work 7 (some .int) :: ([.fieldLink RX6 18 "StairCourt$Text" "length" "I", .fieldLink RX6 9 "StairCourt$Text" "codes" "[I", .fieldLink RX6 15 "StairCourt$Text" "open" "[I", .methodLink RX6 28 yX6_nameAt, .static yX6_nameAt, .initialized RX6, .code yX6_nameAt cX6_nameAt 4 (some .int), .methodLink RX6 32 yX6_join, .static yX6_join, .code yX6_join cX6_join 3 (some .int)] ++ wsX60)
def wsX0_hold : List Cond := .code yX0_hold cX0_hold 2 (some .int) :: ([.methodLink RX0 116 Lib.Math.min.name, .static Lib.Math.min.name, .initialized "java/lang/Math", .code Lib.Math.min.name Lib.Math.min.code 2 (some .int), .methodLink RX0 121 Lib.Math.max.name, .static Lib.Math.max.name, .code Lib.Math.max.name Lib.Math.max.code 2 (some .int)])
def wsX0_gives_r1 : List Cond := [Cond.fieldLink RX0 33 "StairCourt$Court" "heeds" "LStairCourt$Text;", Cond.fieldLink RX0 37 "StairCourt$Court" "bribes" "LStairCourt$Text;", Cond.methodLink RX0 104 yX6_isThere, Cond.instanceMethod yX6_isThere, Cond.selects RX6 yX6_isThere yX6_isThere, Cond.initialized RX6, Cond.code yX6_isThere cX6_isThere 1 (some .boolean), Cond.fieldLink RX6 18 "StairCourt$Text" "length" "I", Cond.methodLink RX0 108 yX6_work, Cond.instanceMethod yX6_work, Cond.selects RX6 yX6_work yX6_work, Cond.code yX6_work cX6_work 7 (some .int), Cond.fieldLink RX6 9 "StairCourt$Text" "codes" "[I", Cond.fieldLink RX6 15 "StairCourt$Text" "open" "[I", Cond.methodLink RX6 28 yX6_nameAt, Cond.static yX6_nameAt, Cond.code yX6_nameAt cX6_nameAt 4 (some .int), Cond.methodLink RX6 32 yX6_join, Cond.static yX6_join, Cond.code yX6_join cX6_join 3 (some .int), Cond.methodLink RX0 112 yX0_hold, Cond.static yX0_hold, Cond.initialized RX0, Cond.code yX0_hold cX0_hold 2 (some .int)]
def wsX0_gives_r2 : List Cond := [Cond.methodLink RX0 116 Lib.Math.min.name, Cond.static Lib.Math.min.name, Cond.initialized "java/lang/Math", Cond.code Lib.Math.min.name Lib.Math.min.code 2 (some .int), Cond.methodLink RX0 121 Lib.Math.max.name, Cond.static Lib.Math.max.name, Cond.code Lib.Math.max.name Lib.Math.max.code 2 (some .int)]
def wsX0_gives : List Cond := .code yX0_gives cX0_gives 5 (some .int) :: ((wsX0_gives_r1 ++ wsX0_gives_r2) ++ wsX00 ++ wsX60)
def wsX2_nodsPlainly : List Cond := .code yX2_nodsPlainly cX2_nodsPlainly 2 (some .boolean) :: ([.fieldLink RX2 15 "StairCourt$Judge" "m" "I"] ++ wsX20)
def wsX2_nodsStrictly : List Cond := .code yX2_nodsStrictly cX2_nodsStrictly 2 (some .boolean) :: ([.fieldLink RX2 15 "StairCourt$Judge" "m" "I", .methodLink RX2 31 yX2_nodsPlainly, .instanceMethod yX2_nodsPlainly, .selects RX2 yX2_nodsPlainly yX2_nodsPlainly, .initialized RX2, .code yX2_nodsPlainly cX2_nodsPlainly 2 (some .boolean)] ++ wsX20)
def wsX2_nodsMildly : List Cond := .code yX2_nodsMildly cX2_nodsMildly 2 (some .boolean) :: ([.fieldLink RX2 15 "StairCourt$Judge" "m" "I", .methodLink RX2 31 yX2_nodsPlainly, .instanceMethod yX2_nodsPlainly, .selects RX2 yX2_nodsPlainly yX2_nodsPlainly, .initialized RX2, .code yX2_nodsPlainly cX2_nodsPlainly 2 (some .boolean)] ++ wsX20)
def wsX2_nods : List Cond := .code yX2_nods cX2_nods 3 (some .boolean) :: ([.fieldLink RX2 9 "StairCourt$Judge" "kind" "I", .fieldLink RX2 15 "StairCourt$Judge" "m" "I", .fieldLink RX2 21 "StairCourt$Judge" "place" "I", .fieldLink RX2 18 "StairCourt$Judge" "heard" "I", .methodLink RX2 24 yX2_nodsStrictly, .instanceMethod yX2_nodsStrictly, .selects RX2 yX2_nodsStrictly yX2_nodsStrictly, .initialized RX2, .code yX2_nodsStrictly cX2_nodsStrictly 2 (some .boolean), .methodLink RX2 31 yX2_nodsPlainly, .instanceMethod yX2_nodsPlainly, .selects RX2 yX2_nodsPlainly yX2_nodsPlainly, .code yX2_nodsPlainly cX2_nodsPlainly 2 (some .boolean), .methodLink RX2 28 yX2_nodsMildly, .instanceMethod yX2_nodsMildly, .selects RX2 yX2_nodsMildly yX2_nodsMildly, .code yX2_nodsMildly cX2_nodsMildly 2 (some .boolean)] ++ wsX20)
def wsX0_isContent_r1 : List Cond := [Cond.fieldLink RX0 53 "StairCourt$Court" "hour" "I", Cond.fieldLink RX0 128 "StairCourt$Judge" "place" "I", Cond.fieldLink RX0 82 "StairCourt$Judge" "m" "I", Cond.methodLink RX0 124 yX2_nods, Cond.instanceMethod yX2_nods, Cond.selects RX2 yX2_nods yX2_nods, Cond.initialized RX2, Cond.code yX2_nods cX2_nods 3 (some .boolean), Cond.fieldLink RX2 9 "StairCourt$Judge" "kind" "I", Cond.fieldLink RX2 15 "StairCourt$Judge" "m" "I", Cond.fieldLink RX2 21 "StairCourt$Judge" "place" "I", Cond.fieldLink RX2 18 "StairCourt$Judge" "heard" "I", Cond.methodLink RX2 24 yX2_nodsStrictly, Cond.instanceMethod yX2_nodsStrictly, Cond.selects RX2 yX2_nodsStrictly yX2_nodsStrictly, Cond.code yX2_nodsStrictly cX2_nodsStrictly 2 (some .boolean), Cond.methodLink RX2 31 yX2_nodsPlainly, Cond.instanceMethod yX2_nodsPlainly, Cond.selects RX2 yX2_nodsPlainly yX2_nodsPlainly, Cond.code yX2_nodsPlainly cX2_nodsPlainly 2 (some .boolean), Cond.methodLink RX2 28 yX2_nodsMildly, Cond.instanceMethod yX2_nodsMildly, Cond.selects RX2 yX2_nodsMildly yX2_nodsMildly, Cond.code yX2_nodsMildly cX2_nodsMildly 2 (some .boolean)]
def wsX0_isContent_r2 : List Cond := [Cond.methodLink RX0 131 yX0_gives, Cond.instanceMethod yX0_gives, Cond.selects RX0 yX0_gives yX0_gives, Cond.initialized RX0, Cond.code yX0_gives cX0_gives 5 (some .int), Cond.fieldLink RX0 33 "StairCourt$Court" "heeds" "LStairCourt$Text;", Cond.fieldLink RX0 37 "StairCourt$Court" "bribes" "LStairCourt$Text;", Cond.methodLink RX0 104 yX6_isThere, Cond.instanceMethod yX6_isThere, Cond.selects RX6 yX6_isThere yX6_isThere, Cond.initialized RX6, Cond.code yX6_isThere cX6_isThere 1 (some .boolean), Cond.fieldLink RX6 18 "StairCourt$Text" "length" "I", Cond.methodLink RX0 108 yX6_work, Cond.instanceMethod yX6_work, Cond.selects RX6 yX6_work yX6_work, Cond.code yX6_work cX6_work 7 (some .int), Cond.fieldLink RX6 9 "StairCourt$Text" "codes" "[I", Cond.fieldLink RX6 15 "StairCourt$Text" "open" "[I", Cond.methodLink RX6 28 yX6_nameAt, Cond.static yX6_nameAt, Cond.code yX6_nameAt cX6_nameAt 4 (some .int), Cond.methodLink RX6 32 yX6_join, Cond.static yX6_join]
def wsX0_isContent_r3 : List Cond := [Cond.code yX6_join cX6_join 3 (some .int), Cond.methodLink RX0 112 yX0_hold, Cond.static yX0_hold, Cond.code yX0_hold cX0_hold 2 (some .int), Cond.methodLink RX0 116 Lib.Math.min.name, Cond.static Lib.Math.min.name, Cond.initialized "java/lang/Math", Cond.code Lib.Math.min.name Lib.Math.min.code 2 (some .int), Cond.methodLink RX0 121 Lib.Math.max.name, Cond.static Lib.Math.max.name, Cond.code Lib.Math.max.name Lib.Math.max.code 2 (some .int)]
def wsX0_isContent : List Cond := .code yX0_isContent cX0_isContent 3 (some .boolean) :: ((wsX0_isContent_r1 ++ (wsX0_isContent_r2 ++ wsX0_isContent_r3)) ++ wsX00 ++ wsX20 ++ wsX60)
def wsX2_wants : List Cond := .code yX2_wants cX2_wants 2 (some .int) :: ([.fieldLink RX2 18 "StairCourt$Judge" "heard" "I", .fieldLink RX2 9 "StairCourt$Judge" "kind" "I", .fieldLink RX2 15 "StairCourt$Judge" "m" "I", .fieldLink RX2 21 "StairCourt$Judge" "place" "I"] ++ wsX20)
def wsX0_bribeOf_r1 : List Cond := [Cond.fieldLink RX0 128 "StairCourt$Judge" "place" "I", Cond.fieldLink RX0 79 "StairCourt$Judge" "kind" "I", Cond.methodLink RX0 135 yX2_wants, Cond.instanceMethod yX2_wants, Cond.selects RX2 yX2_wants yX2_wants, Cond.initialized RX2, Cond.code yX2_wants cX2_wants 2 (some .int), Cond.fieldLink RX2 18 "StairCourt$Judge" "heard" "I", Cond.fieldLink RX2 9 "StairCourt$Judge" "kind" "I", Cond.fieldLink RX2 15 "StairCourt$Judge" "m" "I", Cond.fieldLink RX2 21 "StairCourt$Judge" "place" "I", Cond.methodLink RX0 131 yX0_gives, Cond.instanceMethod yX0_gives, Cond.selects RX0 yX0_gives yX0_gives, Cond.initialized RX0, Cond.code yX0_gives cX0_gives 5 (some .int), Cond.fieldLink RX0 33 "StairCourt$Court" "heeds" "LStairCourt$Text;", Cond.fieldLink RX0 37 "StairCourt$Court" "bribes" "LStairCourt$Text;", Cond.methodLink RX0 104 yX6_isThere, Cond.instanceMethod yX6_isThere, Cond.selects RX6 yX6_isThere yX6_isThere, Cond.initialized RX6, Cond.code yX6_isThere cX6_isThere 1 (some .boolean), Cond.fieldLink RX6 18 "StairCourt$Text" "length" "I"]
def wsX0_bribeOf_r2 : List Cond := [Cond.methodLink RX0 108 yX6_work, Cond.instanceMethod yX6_work, Cond.selects RX6 yX6_work yX6_work, Cond.code yX6_work cX6_work 7 (some .int), Cond.fieldLink RX6 9 "StairCourt$Text" "codes" "[I", Cond.fieldLink RX6 15 "StairCourt$Text" "open" "[I", Cond.methodLink RX6 28 yX6_nameAt, Cond.static yX6_nameAt, Cond.code yX6_nameAt cX6_nameAt 4 (some .int), Cond.methodLink RX6 32 yX6_join, Cond.static yX6_join, Cond.code yX6_join cX6_join 3 (some .int), Cond.methodLink RX0 112 yX0_hold, Cond.static yX0_hold, Cond.code yX0_hold cX0_hold 2 (some .int), Cond.methodLink RX0 116 Lib.Math.min.name, Cond.static Lib.Math.min.name, Cond.initialized "java/lang/Math", Cond.code Lib.Math.min.name Lib.Math.min.code 2 (some .int), Cond.methodLink RX0 121 Lib.Math.max.name, Cond.static Lib.Math.max.name, Cond.code Lib.Math.max.name Lib.Math.max.code 2 (some .int)]
def wsX0_bribeOf : List Cond := .code yX0_bribeOf cX0_bribeOf 2 (some .int) :: ((wsX0_bribeOf_r1 ++ wsX0_bribeOf_r2) ++ wsX20 ++ wsX00 ++ wsX60)
def wsX0_contentWords_r1 : List Cond := [Cond.methodLink RX0 139 yX0_isContent, Cond.instanceMethod yX0_isContent, Cond.selects RX0 yX0_isContent yX0_isContent, Cond.initialized RX0, Cond.code yX0_isContent cX0_isContent 3 (some .boolean), Cond.fieldLink RX0 53 "StairCourt$Court" "hour" "I", Cond.fieldLink RX0 128 "StairCourt$Judge" "place" "I", Cond.fieldLink RX0 82 "StairCourt$Judge" "m" "I", Cond.methodLink RX0 124 yX2_nods, Cond.instanceMethod yX2_nods, Cond.selects RX2 yX2_nods yX2_nods, Cond.initialized RX2, Cond.code yX2_nods cX2_nods 3 (some .boolean), Cond.fieldLink RX2 9 "StairCourt$Judge" "kind" "I", Cond.fieldLink RX2 15 "StairCourt$Judge" "m" "I", Cond.fieldLink RX2 21 "StairCourt$Judge" "place" "I", Cond.fieldLink RX2 18 "StairCourt$Judge" "heard" "I", Cond.methodLink RX2 24 yX2_nodsStrictly, Cond.instanceMethod yX2_nodsStrictly, Cond.selects RX2 yX2_nodsStrictly yX2_nodsStrictly, Cond.code yX2_nodsStrictly cX2_nodsStrictly 2 (some .boolean), Cond.methodLink RX2 31 yX2_nodsPlainly, Cond.instanceMethod yX2_nodsPlainly, Cond.selects RX2 yX2_nodsPlainly yX2_nodsPlainly]
def wsX0_contentWords_r2 : List Cond := [Cond.code yX2_nodsPlainly cX2_nodsPlainly 2 (some .boolean), Cond.methodLink RX2 28 yX2_nodsMildly, Cond.instanceMethod yX2_nodsMildly, Cond.selects RX2 yX2_nodsMildly yX2_nodsMildly, Cond.code yX2_nodsMildly cX2_nodsMildly 2 (some .boolean), Cond.methodLink RX0 131 yX0_gives, Cond.instanceMethod yX0_gives, Cond.selects RX0 yX0_gives yX0_gives, Cond.code yX0_gives cX0_gives 5 (some .int), Cond.fieldLink RX0 33 "StairCourt$Court" "heeds" "LStairCourt$Text;", Cond.fieldLink RX0 37 "StairCourt$Court" "bribes" "LStairCourt$Text;", Cond.methodLink RX0 104 yX6_isThere, Cond.instanceMethod yX6_isThere, Cond.selects RX6 yX6_isThere yX6_isThere, Cond.initialized RX6, Cond.code yX6_isThere cX6_isThere 1 (some .boolean), Cond.fieldLink RX6 18 "StairCourt$Text" "length" "I", Cond.methodLink RX0 108 yX6_work, Cond.instanceMethod yX6_work, Cond.selects RX6 yX6_work yX6_work, Cond.code yX6_work cX6_work 7 (some .int), Cond.fieldLink RX6 9 "StairCourt$Text" "codes" "[I", Cond.fieldLink RX6 15 "StairCourt$Text" "open" "[I", Cond.methodLink RX6 28 yX6_nameAt]
def wsX0_contentWords_r3 : List Cond := [Cond.static yX6_nameAt, Cond.code yX6_nameAt cX6_nameAt 4 (some .int), Cond.methodLink RX6 32 yX6_join, Cond.static yX6_join, Cond.code yX6_join cX6_join 3 (some .int), Cond.methodLink RX0 112 yX0_hold, Cond.static yX0_hold, Cond.code yX0_hold cX0_hold 2 (some .int), Cond.methodLink RX0 116 Lib.Math.min.name, Cond.static Lib.Math.min.name, Cond.initialized "java/lang/Math", Cond.code Lib.Math.min.name Lib.Math.min.code 2 (some .int), Cond.methodLink RX0 121 Lib.Math.max.name, Cond.static Lib.Math.max.name, Cond.code Lib.Math.max.name Lib.Math.max.code 2 (some .int)]
def wsX0_contentWords : List Cond := .code yX0_contentWords cX0_contentWords 4 (some .int) :: ((wsX0_contentWords_r1 ++ (wsX0_contentWords_r2 ++ wsX0_contentWords_r3)) ++ wsX00 ++ wsX20 ++ wsX60)
def wsX0_leastContent_r1 : List Cond := [Cond.methodLink RX0 139 yX0_isContent, Cond.instanceMethod yX0_isContent, Cond.selects RX0 yX0_isContent yX0_isContent, Cond.initialized RX0, Cond.code yX0_isContent cX0_isContent 3 (some .boolean), Cond.fieldLink RX0 53 "StairCourt$Court" "hour" "I", Cond.fieldLink RX0 128 "StairCourt$Judge" "place" "I", Cond.fieldLink RX0 82 "StairCourt$Judge" "m" "I", Cond.methodLink RX0 124 yX2_nods, Cond.instanceMethod yX2_nods, Cond.selects RX2 yX2_nods yX2_nods, Cond.initialized RX2, Cond.code yX2_nods cX2_nods 3 (some .boolean), Cond.fieldLink RX2 9 "StairCourt$Judge" "kind" "I", Cond.fieldLink RX2 15 "StairCourt$Judge" "m" "I", Cond.fieldLink RX2 21 "StairCourt$Judge" "place" "I", Cond.fieldLink RX2 18 "StairCourt$Judge" "heard" "I", Cond.methodLink RX2 24 yX2_nodsStrictly, Cond.instanceMethod yX2_nodsStrictly, Cond.selects RX2 yX2_nodsStrictly yX2_nodsStrictly, Cond.code yX2_nodsStrictly cX2_nodsStrictly 2 (some .boolean), Cond.methodLink RX2 31 yX2_nodsPlainly, Cond.instanceMethod yX2_nodsPlainly, Cond.selects RX2 yX2_nodsPlainly yX2_nodsPlainly]
def wsX0_leastContent_r2 : List Cond := [Cond.code yX2_nodsPlainly cX2_nodsPlainly 2 (some .boolean), Cond.methodLink RX2 28 yX2_nodsMildly, Cond.instanceMethod yX2_nodsMildly, Cond.selects RX2 yX2_nodsMildly yX2_nodsMildly, Cond.code yX2_nodsMildly cX2_nodsMildly 2 (some .boolean), Cond.methodLink RX0 131 yX0_gives, Cond.instanceMethod yX0_gives, Cond.selects RX0 yX0_gives yX0_gives, Cond.code yX0_gives cX0_gives 5 (some .int), Cond.fieldLink RX0 33 "StairCourt$Court" "heeds" "LStairCourt$Text;", Cond.fieldLink RX0 37 "StairCourt$Court" "bribes" "LStairCourt$Text;", Cond.methodLink RX0 104 yX6_isThere, Cond.instanceMethod yX6_isThere, Cond.selects RX6 yX6_isThere yX6_isThere, Cond.initialized RX6, Cond.code yX6_isThere cX6_isThere 1 (some .boolean), Cond.fieldLink RX6 18 "StairCourt$Text" "length" "I", Cond.methodLink RX0 108 yX6_work, Cond.instanceMethod yX6_work, Cond.selects RX6 yX6_work yX6_work, Cond.code yX6_work cX6_work 7 (some .int), Cond.fieldLink RX6 9 "StairCourt$Text" "codes" "[I", Cond.fieldLink RX6 15 "StairCourt$Text" "open" "[I", Cond.methodLink RX6 28 yX6_nameAt]
def wsX0_leastContent_r3 : List Cond := [Cond.static yX6_nameAt, Cond.code yX6_nameAt cX6_nameAt 4 (some .int), Cond.methodLink RX6 32 yX6_join, Cond.static yX6_join, Cond.code yX6_join cX6_join 3 (some .int), Cond.methodLink RX0 112 yX0_hold, Cond.static yX0_hold, Cond.code yX0_hold cX0_hold 2 (some .int), Cond.methodLink RX0 116 Lib.Math.min.name, Cond.static Lib.Math.min.name, Cond.initialized "java/lang/Math", Cond.code Lib.Math.min.name Lib.Math.min.code 2 (some .int), Cond.methodLink RX0 121 Lib.Math.max.name, Cond.static Lib.Math.max.name, Cond.code Lib.Math.max.name Lib.Math.max.code 2 (some .int)]
def wsX0_leastContent : List Cond := .code yX0_leastContent cX0_leastContent 3 (some .int) :: ((wsX0_leastContent_r1 ++ (wsX0_leastContent_r2 ++ wsX0_leastContent_r3)) ++ wsX00 ++ wsX20 ++ wsX60)
def wsX0_hear_r1 : List Cond := [Cond.fieldLink RX0 88 "StairCourt$Person" "at" "I", Cond.fieldLink RX0 85 "StairCourt$Judge" "heard" "I", Cond.methodLink RX0 116 Lib.Math.min.name, Cond.static Lib.Math.min.name, Cond.initialized "java/lang/Math", Cond.code Lib.Math.min.name Lib.Math.min.code 2 (some .int), Cond.fieldLink RX0 91 "StairCourt$Person" "legs" "I", Cond.methodLink RX0 121 Lib.Math.max.name, Cond.static Lib.Math.max.name, Cond.code Lib.Math.max.name Lib.Math.max.code 2 (some .int), Cond.fieldLink RX0 97 "StairCourt$Person" "falls" "I", Cond.methodLink RX0 143 yX0_judgeOn, Cond.instanceMethod yX0_judgeOn, Cond.selects RX0 yX0_judgeOn yX0_judgeOn, Cond.initialized RX0, Cond.code yX0_judgeOn cX0_judgeOn 2 (some (.object "StairCourt$Judge")), Cond.fieldLink RX0 17 "StairCourt$Court" "steps" "I", Cond.fieldLink RX0 11 "StairCourt$Court" "judges" "[LStairCourt$Judge;", Cond.methodLink RX0 139 yX0_isContent, Cond.instanceMethod yX0_isContent, Cond.selects RX0 yX0_isContent yX0_isContent, Cond.code yX0_isContent cX0_isContent 3 (some .boolean), Cond.fieldLink RX0 53 "StairCourt$Court" "hour" "I", Cond.fieldLink RX0 128 "StairCourt$Judge" "place" "I"]
def wsX0_hear_r2 : List Cond := [Cond.fieldLink RX0 82 "StairCourt$Judge" "m" "I", Cond.methodLink RX0 124 yX2_nods, Cond.instanceMethod yX2_nods, Cond.selects RX2 yX2_nods yX2_nods, Cond.initialized RX2, Cond.code yX2_nods cX2_nods 3 (some .boolean), Cond.fieldLink RX2 9 "StairCourt$Judge" "kind" "I", Cond.fieldLink RX2 15 "StairCourt$Judge" "m" "I", Cond.fieldLink RX2 21 "StairCourt$Judge" "place" "I", Cond.fieldLink RX2 18 "StairCourt$Judge" "heard" "I", Cond.methodLink RX2 24 yX2_nodsStrictly, Cond.instanceMethod yX2_nodsStrictly, Cond.selects RX2 yX2_nodsStrictly yX2_nodsStrictly, Cond.code yX2_nodsStrictly cX2_nodsStrictly 2 (some .boolean), Cond.methodLink RX2 31 yX2_nodsPlainly, Cond.instanceMethod yX2_nodsPlainly, Cond.selects RX2 yX2_nodsPlainly yX2_nodsPlainly, Cond.code yX2_nodsPlainly cX2_nodsPlainly 2 (some .boolean), Cond.methodLink RX2 28 yX2_nodsMildly, Cond.instanceMethod yX2_nodsMildly, Cond.selects RX2 yX2_nodsMildly yX2_nodsMildly, Cond.code yX2_nodsMildly cX2_nodsMildly 2 (some .boolean), Cond.methodLink RX0 131 yX0_gives, Cond.instanceMethod yX0_gives]
def wsX0_hear_r3 : List Cond := [Cond.selects RX0 yX0_gives yX0_gives, Cond.code yX0_gives cX0_gives 5 (some .int), Cond.fieldLink RX0 33 "StairCourt$Court" "heeds" "LStairCourt$Text;", Cond.fieldLink RX0 37 "StairCourt$Court" "bribes" "LStairCourt$Text;", Cond.methodLink RX0 104 yX6_isThere, Cond.instanceMethod yX6_isThere, Cond.selects RX6 yX6_isThere yX6_isThere, Cond.initialized RX6, Cond.code yX6_isThere cX6_isThere 1 (some .boolean), Cond.fieldLink RX6 18 "StairCourt$Text" "length" "I", Cond.methodLink RX0 108 yX6_work, Cond.instanceMethod yX6_work, Cond.selects RX6 yX6_work yX6_work, Cond.code yX6_work cX6_work 7 (some .int), Cond.fieldLink RX6 9 "StairCourt$Text" "codes" "[I", Cond.fieldLink RX6 15 "StairCourt$Text" "open" "[I", Cond.methodLink RX6 28 yX6_nameAt, Cond.static yX6_nameAt, Cond.code yX6_nameAt cX6_nameAt 4 (some .int), Cond.methodLink RX6 32 yX6_join, Cond.static yX6_join, Cond.code yX6_join cX6_join 3 (some .int), Cond.methodLink RX0 112 yX0_hold, Cond.static yX0_hold]
def wsX0_hear_r4 : List Cond := [Cond.code yX0_hold cX0_hold 2 (some .int)]
def wsX0_hear : List Cond := .code yX0_hear cX0_hear 5 (some .boolean) :: ((wsX0_hear_r1 ++ (wsX0_hear_r2 ++ (wsX0_hear_r3 ++ wsX0_hear_r4))) ++ wsX30 ++ wsX20 ++ wsX00 ++ wsX60)
def wsX0_passHour : List Cond := .code yX0_passHour cX0_passHour 3 none :: ([.fieldLink RX0 27 "StairCourt$Court" "people" "I", .fieldLink RX0 23 "StairCourt$Court" "persons" "[LStairCourt$Person;", .fieldLink RX0 88 "StairCourt$Person" "at" "I", .fieldLink RX0 91 "StairCourt$Person" "legs" "I", .methodLink RX0 116 Lib.Math.min.name, .static Lib.Math.min.name, .initialized "java/lang/Math", .code Lib.Math.min.name Lib.Math.min.code 2 (some .int), .fieldLink RX0 53 "StairCourt$Court" "hour" "I"] ++ wsX00 ++ wsX30)
def wsX0_draw : List Cond := .code yX0_draw cX0_draw 1 (some .int) :: ([.fieldLink RX0 56 "StairCourt$Court" "z" "I", .constant RX0 160 (1103515245)] ++ wsX00)
def wsX0_passHourByDraws_r1 : List Cond := [Cond.fieldLink RX0 27 "StairCourt$Court" "people" "I", Cond.fieldLink RX0 23 "StairCourt$Court" "persons" "[LStairCourt$Person;", Cond.methodLink RX0 147 yX0_canGo, Cond.instanceMethod yX0_canGo, Cond.selects RX0 yX0_canGo yX0_canGo, Cond.initialized RX0, Cond.code yX0_canGo cX0_canGo 2 (some .boolean), Cond.fieldLink RX0 91 "StairCourt$Person" "legs" "I", Cond.methodLink RX0 100 yX0_isUp, Cond.instanceMethod yX0_isUp, Cond.selects RX0 yX0_isUp yX0_isUp, Cond.code yX0_isUp cX0_isUp 2 (some .boolean), Cond.fieldLink RX0 88 "StairCourt$Person" "at" "I", Cond.fieldLink RX0 17 "StairCourt$Court" "steps" "I", Cond.methodLink RX0 150 yX0_draw, Cond.instanceMethod yX0_draw, Cond.selects RX0 yX0_draw yX0_draw, Cond.code yX0_draw cX0_draw 1 (some .int), Cond.fieldLink RX0 56 "StairCourt$Court" "z" "I", Cond.constant RX0 160 (1103515245), Cond.methodLink RX0 153 yX0_hear, Cond.instanceMethod yX0_hear, Cond.selects RX0 yX0_hear yX0_hear, Cond.code yX0_hear cX0_hear 5 (some .boolean)]
def wsX0_passHourByDraws_r2 : List Cond := [Cond.fieldLink RX0 85 "StairCourt$Judge" "heard" "I", Cond.methodLink RX0 116 Lib.Math.min.name, Cond.static Lib.Math.min.name, Cond.initialized "java/lang/Math", Cond.code Lib.Math.min.name Lib.Math.min.code 2 (some .int), Cond.methodLink RX0 121 Lib.Math.max.name, Cond.static Lib.Math.max.name, Cond.code Lib.Math.max.name Lib.Math.max.code 2 (some .int), Cond.fieldLink RX0 97 "StairCourt$Person" "falls" "I", Cond.methodLink RX0 143 yX0_judgeOn, Cond.instanceMethod yX0_judgeOn, Cond.selects RX0 yX0_judgeOn yX0_judgeOn, Cond.code yX0_judgeOn cX0_judgeOn 2 (some (.object "StairCourt$Judge")), Cond.fieldLink RX0 11 "StairCourt$Court" "judges" "[LStairCourt$Judge;", Cond.methodLink RX0 139 yX0_isContent, Cond.instanceMethod yX0_isContent, Cond.selects RX0 yX0_isContent yX0_isContent, Cond.code yX0_isContent cX0_isContent 3 (some .boolean), Cond.fieldLink RX0 53 "StairCourt$Court" "hour" "I", Cond.fieldLink RX0 128 "StairCourt$Judge" "place" "I", Cond.fieldLink RX0 82 "StairCourt$Judge" "m" "I", Cond.methodLink RX0 124 yX2_nods, Cond.instanceMethod yX2_nods, Cond.selects RX2 yX2_nods yX2_nods]
def wsX0_passHourByDraws_r3 : List Cond := [Cond.initialized RX2, Cond.code yX2_nods cX2_nods 3 (some .boolean), Cond.fieldLink RX2 9 "StairCourt$Judge" "kind" "I", Cond.fieldLink RX2 15 "StairCourt$Judge" "m" "I", Cond.fieldLink RX2 21 "StairCourt$Judge" "place" "I", Cond.fieldLink RX2 18 "StairCourt$Judge" "heard" "I", Cond.methodLink RX2 24 yX2_nodsStrictly, Cond.instanceMethod yX2_nodsStrictly, Cond.selects RX2 yX2_nodsStrictly yX2_nodsStrictly, Cond.code yX2_nodsStrictly cX2_nodsStrictly 2 (some .boolean), Cond.methodLink RX2 31 yX2_nodsPlainly, Cond.instanceMethod yX2_nodsPlainly, Cond.selects RX2 yX2_nodsPlainly yX2_nodsPlainly, Cond.code yX2_nodsPlainly cX2_nodsPlainly 2 (some .boolean), Cond.methodLink RX2 28 yX2_nodsMildly, Cond.instanceMethod yX2_nodsMildly, Cond.selects RX2 yX2_nodsMildly yX2_nodsMildly, Cond.code yX2_nodsMildly cX2_nodsMildly 2 (some .boolean), Cond.methodLink RX0 131 yX0_gives, Cond.instanceMethod yX0_gives, Cond.selects RX0 yX0_gives yX0_gives, Cond.code yX0_gives cX0_gives 5 (some .int), Cond.fieldLink RX0 33 "StairCourt$Court" "heeds" "LStairCourt$Text;", Cond.fieldLink RX0 37 "StairCourt$Court" "bribes" "LStairCourt$Text;"]
def wsX0_passHourByDraws_r4 : List Cond := [Cond.methodLink RX0 104 yX6_isThere, Cond.instanceMethod yX6_isThere, Cond.selects RX6 yX6_isThere yX6_isThere, Cond.initialized RX6, Cond.code yX6_isThere cX6_isThere 1 (some .boolean), Cond.fieldLink RX6 18 "StairCourt$Text" "length" "I", Cond.methodLink RX0 108 yX6_work, Cond.instanceMethod yX6_work, Cond.selects RX6 yX6_work yX6_work, Cond.code yX6_work cX6_work 7 (some .int), Cond.fieldLink RX6 9 "StairCourt$Text" "codes" "[I", Cond.fieldLink RX6 15 "StairCourt$Text" "open" "[I", Cond.methodLink RX6 28 yX6_nameAt, Cond.static yX6_nameAt, Cond.code yX6_nameAt cX6_nameAt 4 (some .int), Cond.methodLink RX6 32 yX6_join, Cond.static yX6_join, Cond.code yX6_join cX6_join 3 (some .int), Cond.methodLink RX0 112 yX0_hold, Cond.static yX0_hold, Cond.code yX0_hold cX0_hold 2 (some .int), Cond.methodLink RX0 157 yX0_passHour, Cond.instanceMethod yX0_passHour, Cond.selects RX0 yX0_passHour yX0_passHour]
def wsX0_passHourByDraws_r5 : List Cond := [Cond.code yX0_passHour cX0_passHour 3 none]
def wsX0_passHourByDraws : List Cond := .code yX0_passHourByDraws cX0_passHourByDraws 4 (some .int) :: ((wsX0_passHourByDraws_r1 ++ (wsX0_passHourByDraws_r2 ++ (wsX0_passHourByDraws_r3 ++ (wsX0_passHourByDraws_r4 ++ wsX0_passHourByDraws_r5)))) ++ wsX00 ++ wsX30 ++ wsX20 ++ wsX60)
def wsX1_init : List Cond := .code yX1_init cX1_init 1 none :: ([.methodLink RX1 3 objectInit, .instanceMethod objectInit, .code objectInit ⟨#[0xb1]⟩ 1 none, .arrayClass .int, .fieldLink RX1 9 "StairCourt$Cover" "judgesBy" "[I", .fieldLink RX1 15 "StairCourt$Cover" "judgesFrom" "[I", .fieldLink RX1 18 "StairCourt$Cover" "chosen" "[I", .fieldLink RX1 21 "StairCourt$Cover" "all" "I"] ++ wsX10)
def wsJ7_fill_53178 : List Cond := .code yJ7_fill_53178 cJ7_fill_53178 4 none :: ([])
def wsX1_contentFrom_r1 : List Cond := [Cond.fieldLink RX1 37 "StairCourt$Court" "steps" "I", Cond.methodLink RX1 50 yX0_judgeOn, Cond.instanceMethod yX0_judgeOn, Cond.selects RX0 yX0_judgeOn yX0_judgeOn, Cond.initialized RX0, Cond.code yX0_judgeOn cX0_judgeOn 2 (some (.object "StairCourt$Judge")), Cond.fieldLink RX0 17 "StairCourt$Court" "steps" "I", Cond.fieldLink RX0 11 "StairCourt$Court" "judges" "[LStairCourt$Judge;", Cond.methodLink RX1 54 yX0_isContent, Cond.instanceMethod yX0_isContent, Cond.selects RX0 yX0_isContent yX0_isContent, Cond.code yX0_isContent cX0_isContent 3 (some .boolean), Cond.fieldLink RX0 53 "StairCourt$Court" "hour" "I", Cond.fieldLink RX0 128 "StairCourt$Judge" "place" "I", Cond.fieldLink RX0 82 "StairCourt$Judge" "m" "I", Cond.methodLink RX0 124 yX2_nods, Cond.instanceMethod yX2_nods, Cond.selects RX2 yX2_nods yX2_nods, Cond.initialized RX2, Cond.code yX2_nods cX2_nods 3 (some .boolean), Cond.fieldLink RX2 9 "StairCourt$Judge" "kind" "I", Cond.fieldLink RX2 15 "StairCourt$Judge" "m" "I", Cond.fieldLink RX2 21 "StairCourt$Judge" "place" "I", Cond.fieldLink RX2 18 "StairCourt$Judge" "heard" "I"]
def wsX1_contentFrom_r2 : List Cond := [Cond.methodLink RX2 24 yX2_nodsStrictly, Cond.instanceMethod yX2_nodsStrictly, Cond.selects RX2 yX2_nodsStrictly yX2_nodsStrictly, Cond.code yX2_nodsStrictly cX2_nodsStrictly 2 (some .boolean), Cond.methodLink RX2 31 yX2_nodsPlainly, Cond.instanceMethod yX2_nodsPlainly, Cond.selects RX2 yX2_nodsPlainly yX2_nodsPlainly, Cond.code yX2_nodsPlainly cX2_nodsPlainly 2 (some .boolean), Cond.methodLink RX2 28 yX2_nodsMildly, Cond.instanceMethod yX2_nodsMildly, Cond.selects RX2 yX2_nodsMildly yX2_nodsMildly, Cond.code yX2_nodsMildly cX2_nodsMildly 2 (some .boolean), Cond.methodLink RX0 131 yX0_gives, Cond.instanceMethod yX0_gives, Cond.selects RX0 yX0_gives yX0_gives, Cond.code yX0_gives cX0_gives 5 (some .int), Cond.fieldLink RX0 33 "StairCourt$Court" "heeds" "LStairCourt$Text;", Cond.fieldLink RX0 37 "StairCourt$Court" "bribes" "LStairCourt$Text;", Cond.methodLink RX0 104 yX6_isThere, Cond.instanceMethod yX6_isThere, Cond.selects RX6 yX6_isThere yX6_isThere, Cond.initialized RX6, Cond.code yX6_isThere cX6_isThere 1 (some .boolean), Cond.fieldLink RX6 18 "StairCourt$Text" "length" "I"]
def wsX1_contentFrom_r3 : List Cond := [Cond.methodLink RX0 108 yX6_work, Cond.instanceMethod yX6_work, Cond.selects RX6 yX6_work yX6_work, Cond.code yX6_work cX6_work 7 (some .int), Cond.fieldLink RX6 9 "StairCourt$Text" "codes" "[I", Cond.fieldLink RX6 15 "StairCourt$Text" "open" "[I", Cond.methodLink RX6 28 yX6_nameAt, Cond.static yX6_nameAt, Cond.code yX6_nameAt cX6_nameAt 4 (some .int), Cond.methodLink RX6 32 yX6_join, Cond.static yX6_join, Cond.code yX6_join cX6_join 3 (some .int), Cond.methodLink RX0 112 yX0_hold, Cond.static yX0_hold, Cond.code yX0_hold cX0_hold 2 (some .int), Cond.methodLink RX0 116 Lib.Math.min.name, Cond.static Lib.Math.min.name, Cond.initialized "java/lang/Math", Cond.code Lib.Math.min.name Lib.Math.min.code 2 (some .int), Cond.methodLink RX0 121 Lib.Math.max.name, Cond.static Lib.Math.max.name, Cond.code Lib.Math.max.name Lib.Math.max.code 2 (some .int)]
def wsX1_contentFrom : List Cond := .code yX1_contentFrom cX1_contentFrom 6 (some .int) :: ((wsX1_contentFrom_r1 ++ (wsX1_contentFrom_r2 ++ wsX1_contentFrom_r3)) ++ wsX00 ++ wsX20 ++ wsX60)
def wsX1_choose : List Cond := .code yX1_choose cX1_choose 7 (some .boolean) :: ([.fieldLink RX1 18 "StairCourt$Cover" "chosen" "[I", .fieldLink RX1 21 "StairCourt$Cover" "all" "I", .fieldLink RX1 15 "StairCourt$Cover" "judgesFrom" "[I", .fieldLink RX1 9 "StairCourt$Cover" "judgesBy" "[I", .methodLink RX1 46 yX1_choose, .instanceMethod yX1_choose, .selects RX1 yX1_choose yX1_choose, .initialized RX1] ++ wsX10)
def wsX1_find_r1 : List Cond := [Cond.fieldLink RX1 18 "StairCourt$Cover" "chosen" "[I", Cond.fieldLink RX1 21 "StairCourt$Cover" "all" "I", Cond.methodLink RX1 31 Lib.Math.max.name, Cond.static Lib.Math.max.name, Cond.initialized "java/lang/Math", Cond.code Lib.Math.max.name Lib.Math.max.code 2 (some .int), Cond.fieldLink RX1 37 "StairCourt$Court" "steps" "I", Cond.fieldLink RX1 9 "StairCourt$Cover" "judgesBy" "[I", Cond.fieldLink RX1 15 "StairCourt$Cover" "judgesFrom" "[I", Cond.methodLink RX1 25 yJ7_fill_53178, Cond.static yJ7_fill_53178, Cond.initialized RJ7, Cond.code yJ7_fill_53178 cJ7_fill_53178 4 none, Cond.methodLink RX1 42 yX1_contentFrom, Cond.static yX1_contentFrom, Cond.initialized RX1, Cond.code yX1_contentFrom cX1_contentFrom 6 (some .int), Cond.methodLink RX1 50 yX0_judgeOn, Cond.instanceMethod yX0_judgeOn, Cond.selects RX0 yX0_judgeOn yX0_judgeOn, Cond.initialized RX0, Cond.code yX0_judgeOn cX0_judgeOn 2 (some (.object "StairCourt$Judge")), Cond.fieldLink RX0 17 "StairCourt$Court" "steps" "I", Cond.fieldLink RX0 11 "StairCourt$Court" "judges" "[LStairCourt$Judge;"]
def wsX1_find_r2 : List Cond := [Cond.methodLink RX1 54 yX0_isContent, Cond.instanceMethod yX0_isContent, Cond.selects RX0 yX0_isContent yX0_isContent, Cond.code yX0_isContent cX0_isContent 3 (some .boolean), Cond.fieldLink RX0 53 "StairCourt$Court" "hour" "I", Cond.fieldLink RX0 128 "StairCourt$Judge" "place" "I", Cond.fieldLink RX0 82 "StairCourt$Judge" "m" "I", Cond.methodLink RX0 124 yX2_nods, Cond.instanceMethod yX2_nods, Cond.selects RX2 yX2_nods yX2_nods, Cond.initialized RX2, Cond.code yX2_nods cX2_nods 3 (some .boolean), Cond.fieldLink RX2 9 "StairCourt$Judge" "kind" "I", Cond.fieldLink RX2 15 "StairCourt$Judge" "m" "I", Cond.fieldLink RX2 21 "StairCourt$Judge" "place" "I", Cond.fieldLink RX2 18 "StairCourt$Judge" "heard" "I", Cond.methodLink RX2 24 yX2_nodsStrictly, Cond.instanceMethod yX2_nodsStrictly, Cond.selects RX2 yX2_nodsStrictly yX2_nodsStrictly, Cond.code yX2_nodsStrictly cX2_nodsStrictly 2 (some .boolean), Cond.methodLink RX2 31 yX2_nodsPlainly, Cond.instanceMethod yX2_nodsPlainly, Cond.selects RX2 yX2_nodsPlainly yX2_nodsPlainly, Cond.code yX2_nodsPlainly cX2_nodsPlainly 2 (some .boolean)]
def wsX1_find_r3 : List Cond := [Cond.methodLink RX2 28 yX2_nodsMildly, Cond.instanceMethod yX2_nodsMildly, Cond.selects RX2 yX2_nodsMildly yX2_nodsMildly, Cond.code yX2_nodsMildly cX2_nodsMildly 2 (some .boolean), Cond.methodLink RX0 131 yX0_gives, Cond.instanceMethod yX0_gives, Cond.selects RX0 yX0_gives yX0_gives, Cond.code yX0_gives cX0_gives 5 (some .int), Cond.fieldLink RX0 33 "StairCourt$Court" "heeds" "LStairCourt$Text;", Cond.fieldLink RX0 37 "StairCourt$Court" "bribes" "LStairCourt$Text;", Cond.methodLink RX0 104 yX6_isThere, Cond.instanceMethod yX6_isThere, Cond.selects RX6 yX6_isThere yX6_isThere, Cond.initialized RX6, Cond.code yX6_isThere cX6_isThere 1 (some .boolean), Cond.fieldLink RX6 18 "StairCourt$Text" "length" "I", Cond.methodLink RX0 108 yX6_work, Cond.instanceMethod yX6_work, Cond.selects RX6 yX6_work yX6_work, Cond.code yX6_work cX6_work 7 (some .int), Cond.fieldLink RX6 9 "StairCourt$Text" "codes" "[I", Cond.fieldLink RX6 15 "StairCourt$Text" "open" "[I", Cond.methodLink RX6 28 yX6_nameAt, Cond.static yX6_nameAt]
def wsX1_find_r4 : List Cond := [Cond.code yX6_nameAt cX6_nameAt 4 (some .int), Cond.methodLink RX6 32 yX6_join, Cond.static yX6_join, Cond.code yX6_join cX6_join 3 (some .int), Cond.methodLink RX0 112 yX0_hold, Cond.static yX0_hold, Cond.code yX0_hold cX0_hold 2 (some .int), Cond.methodLink RX0 116 Lib.Math.min.name, Cond.static Lib.Math.min.name, Cond.code Lib.Math.min.name Lib.Math.min.code 2 (some .int), Cond.methodLink RX0 121 Lib.Math.max.name, Cond.methodLink RX1 46 yX1_choose, Cond.instanceMethod yX1_choose, Cond.selects RX1 yX1_choose yX1_choose, Cond.code yX1_choose cX1_choose 7 (some .boolean)]
def wsX1_find : List Cond := .code yX1_find cX1_find 5 (some .int) :: ((wsX1_find_r1 ++ (wsX1_find_r2 ++ (wsX1_find_r3 ++ wsX1_find_r4))) ++ wsX10 ++ wsX00 ++ wsX20 ++ wsX60)
def wsX1_wordAt : List Cond := .code yX1_wordAt cX1_wordAt 2 (some .int) :: ([.fieldLink RX1 18 "StairCourt$Cover" "chosen" "[I"] ++ wsX10)
def wsX4_init : List Cond := .code yX4_init cX4_init 2 none :: ([.methodLink RX4 3 objectInit, .instanceMethod objectInit, .code objectInit ⟨#[0xb1]⟩ 1 none, .classLink RX4 9 RX6, .instantiable RX6 3, .initialized RX6, .fieldLink RX4 12 "StairCourt$Reader" "draft" "LStairCourt$Text;", .fieldLink RX4 18 "StairCourt$Reader" "at" "I", .fieldLink RX4 22 "StairCourt$Reader" "length" "I", .fieldLink RX4 27 "StairCourt$Reader" "names" "Ljava/lang/String;", .fieldLink RX4 31 "StairCourt$Reader" "tape" "[I", .instanceMethod yX6_init, .code yX6_init cX6_init 1 none, .methodLink RX6 3 objectInit, .arrayClass .int, .fieldLink RX6 9 "StairCourt$Text" "codes" "[I", .fieldLink RX6 15 "StairCourt$Text" "open" "[I", .fieldLink RX6 18 "StairCourt$Text" "length" "I"] ++ wsX60 ++ wsX40)
def wsX6_clear : List Cond := .code yX6_clear cX6_clear 1 none :: ([.fieldLink RX6 18 "StairCourt$Text" "length" "I"] ++ wsX60)
def wsX4_next : List Cond := .code yX4_next cX4_next 1 (some .int) :: ([.fieldLink RX4 18 "StairCourt$Reader" "at" "I", .fieldLink RX4 22 "StairCourt$Reader" "length" "I", .fieldLink RX4 31 "StairCourt$Reader" "tape" "[I"] ++ wsX40)
def wsX4_isDigit : List Cond := .code yX4_isDigit cX4_isDigit 1 (some .boolean) :: ([])
def wsX6_add : List Cond := .code yX6_add cX6_add 2 none :: ([.fieldLink RX6 18 "StairCourt$Text" "length" "I", .fieldLink RX6 9 "StairCourt$Text" "codes" "[I"] ++ wsX60)
def wsX4_readNumber : List Cond := .code yX4_readNumber cX4_readNumber 3 none :: ([.fieldLink RX4 18 "StairCourt$Reader" "at" "I", .fieldLink RX4 12 "StairCourt$Reader" "draft" "LStairCourt$Text;", .methodLink RX4 52 yX4_next, .instanceMethod yX4_next, .selects RX4 yX4_next yX4_next, .initialized RX4, .code yX4_next cX4_next 1 (some .int), .fieldLink RX4 22 "StairCourt$Reader" "length" "I", .fieldLink RX4 31 "StairCourt$Reader" "tape" "[I", .methodLink RX4 64 yX4_isDigit, .static yX4_isDigit, .code yX4_isDigit cX4_isDigit 1 (some .boolean), .methodLink RX4 60 yX6_add, .instanceMethod yX6_add, .selects RX6 yX6_add yX6_add, .initialized RX6, .code yX6_add cX6_add 2 none, .fieldLink RX6 18 "StairCourt$Text" "length" "I", .fieldLink RX6 9 "StairCourt$Text" "codes" "[I"] ++ wsX40 ++ wsX60)
def wsJ0_isLatin1_aae02 : List Cond := .code yJ0_isLatin1_aae02 cJ0_isLatin1_aae02 1 (some .boolean) :: ([.fieldLink RJ0 38 "java/lang/String" "COMPACT_STRINGS" "Z", .fieldLink RJ0 15 "java/lang/String" "coder" "B"])
def wsJ0_coder_7d493 : List Cond := .code yJ0_coder_7d493 cJ0_coder_7d493 1 (some .byte) :: ([.fieldLink RJ0 38 "java/lang/String" "COMPACT_STRINGS" "Z", .fieldLink RJ0 15 "java/lang/String" "coder" "B"])
def wsJ0_length_8abf5 : List Cond := .code yJ0_length_8abf5 cJ0_length_8abf5 1 (some .int) :: ([.fieldLink RJ0 9 "java/lang/String" "value" "[B", .methodLink RJ0 335 yJ0_coder_7d493, .instanceMethod yJ0_coder_7d493, .selects RJ0 yJ0_coder_7d493 yJ0_coder_7d493, .initialized RJ0, .code yJ0_coder_7d493 cJ0_coder_7d493 1 (some .byte), .fieldLink RJ0 38 "java/lang/String" "COMPACT_STRINGS" "Z", .fieldLink RJ0 15 "java/lang/String" "coder" "B"])
def wsJ1_canEncode_9a6ad : List Cond := .code yJ1_canEncode_9a6ad cJ1_canEncode_9a6ad 1 (some .boolean) :: ([])
def wsJ1_indexOfChar_4cfef : List Cond := .code yJ1_indexOfChar_4cfef cJ1_indexOfChar_4cfef 6 (some .int) :: ([])
def wsJ1_indexOf_4cfef : List Cond := .code yJ1_indexOf_4cfef cJ1_indexOf_4cfef 4 (some .int) :: ([.methodLink RJ1 92 Lib.Math.max.name, .static Lib.Math.max.name, .initialized "java/lang/Math", .code Lib.Math.max.name Lib.Math.max.code 2 (some .int), .methodLink RJ1 38 Lib.Math.min.name, .static Lib.Math.min.name, .code Lib.Math.min.name Lib.Math.min.code 2 (some .int), .methodLink RJ1 88 yJ1_canEncode_9a6ad, .static yJ1_canEncode_9a6ad, .initialized RJ1, .code yJ1_canEncode_9a6ad cJ1_canEncode_9a6ad 1 (some .boolean), .methodLink RJ1 95 yJ1_indexOfChar_4cfef, .static yJ1_indexOfChar_4cfef, .code yJ1_indexOfChar_4cfef cJ1_indexOfChar_4cfef 6 (some .int)])
def wsJ2_length_9d52b : List Cond := .code yJ2_length_9d52b cJ2_length_9d52b 1 (some .int) :: ([])
def wsJ3_checkFromToIndex_8c36e : List Cond := .code yJ3_checkFromToIndex_8c36e cJ3_checkFromToIndex_8c36e 4 (some .int) :: ([])
def wsJ0_checkBoundsBeginEnd_23922 : List Cond := .code yJ0_checkBoundsBeginEnd_23922 cJ0_checkBoundsBeginEnd_23922 3 none :: ([.fieldLink RJ0 1053 "jdk/internal/util/Preconditions" "SIOOBE_FORMATTER" "Ljava/util/function/BiFunction;", .methodLink RJ0 1062 yJ3_checkFromToIndex_8c36e, .static yJ3_checkFromToIndex_8c36e, .initialized RJ3, .code yJ3_checkFromToIndex_8c36e cJ3_checkFromToIndex_8c36e 4 (some .int)])
def wsJ2_checkBoundsBeginEnd_d044e : List Cond := .code yJ2_checkBoundsBeginEnd_d044e cJ2_checkBoundsBeginEnd_d044e 3 none :: ([.methodLink RJ2 48 yJ2_length_9d52b, .static yJ2_length_9d52b, .initialized RJ2, .code yJ2_length_9d52b cJ2_length_9d52b 1 (some .int), .methodLink RJ2 241 yJ0_checkBoundsBeginEnd_23922, .static yJ0_checkBoundsBeginEnd_23922, .initialized RJ0, .code yJ0_checkBoundsBeginEnd_23922 cJ0_checkBoundsBeginEnd_23922 3 none, .fieldLink RJ0 1053 "jdk/internal/util/Preconditions" "SIOOBE_FORMATTER" "Ljava/util/function/BiFunction;", .methodLink RJ0 1062 yJ3_checkFromToIndex_8c36e, .static yJ3_checkFromToIndex_8c36e, .initialized RJ3, .code yJ3_checkFromToIndex_8c36e cJ3_checkFromToIndex_8c36e 4 (some .int)])
def wsJ2_getChar_3b067 : List Cond := .code yJ2_getChar_3b067 cJ2_getChar_3b067 2 (some .char) :: ([.fieldLink RJ2 44 "java/lang/StringUTF16" "$assertionsDisabled" "Z", .fieldLink RJ2 59 "java/lang/StringUTF16" "HI_BYTE_SHIFT" "I", .fieldLink RJ2 63 "java/lang/StringUTF16" "LO_BYTE_SHIFT" "I", .methodLink RJ2 48 yJ2_length_9d52b, .static yJ2_length_9d52b, .initialized RJ2, .code yJ2_length_9d52b cJ2_length_9d52b 1 (some .int)])
def wsJ2_indexOfCharUnsafe_4cfef : List Cond := .code yJ2_indexOfCharUnsafe_4cfef cJ2_indexOfCharUnsafe_4cfef 5 (some .int) :: ([.methodLink RJ2 71 yJ2_getChar_3b067, .static yJ2_getChar_3b067, .initialized RJ2, .code yJ2_getChar_3b067 cJ2_getChar_3b067 2 (some .char), .fieldLink RJ2 44 "java/lang/StringUTF16" "$assertionsDisabled" "Z", .fieldLink RJ2 59 "java/lang/StringUTF16" "HI_BYTE_SHIFT" "I", .fieldLink RJ2 63 "java/lang/StringUTF16" "LO_BYTE_SHIFT" "I", .methodLink RJ2 48 yJ2_length_9d52b, .static yJ2_length_9d52b, .code yJ2_length_9d52b cJ2_length_9d52b 1 (some .int)])
def wsJ2_indexOfChar_4cfef_r1 : List Cond := [Cond.methodLink RJ2 96 yJ2_checkBoundsBeginEnd_d044e, Cond.static yJ2_checkBoundsBeginEnd_d044e, Cond.initialized RJ2, Cond.code yJ2_checkBoundsBeginEnd_d044e cJ2_checkBoundsBeginEnd_d044e 3 none, Cond.methodLink RJ2 48 yJ2_length_9d52b, Cond.static yJ2_length_9d52b, Cond.code yJ2_length_9d52b cJ2_length_9d52b 1 (some .int), Cond.methodLink RJ2 241 yJ0_checkBoundsBeginEnd_23922, Cond.static yJ0_checkBoundsBeginEnd_23922, Cond.initialized RJ0, Cond.code yJ0_checkBoundsBeginEnd_23922 cJ0_checkBoundsBeginEnd_23922 3 none, Cond.fieldLink RJ0 1053 "jdk/internal/util/Preconditions" "SIOOBE_FORMATTER" "Ljava/util/function/BiFunction;", Cond.methodLink RJ0 1062 yJ3_checkFromToIndex_8c36e, Cond.static yJ3_checkFromToIndex_8c36e, Cond.initialized RJ3, Cond.code yJ3_checkFromToIndex_8c36e cJ3_checkFromToIndex_8c36e 4 (some .int), Cond.methodLink RJ2 244 yJ2_indexOfCharUnsafe_4cfef, Cond.static yJ2_indexOfCharUnsafe_4cfef, Cond.code yJ2_indexOfCharUnsafe_4cfef cJ2_indexOfCharUnsafe_4cfef 5 (some .int), Cond.methodLink RJ2 71 yJ2_getChar_3b067, Cond.static yJ2_getChar_3b067, Cond.code yJ2_getChar_3b067 cJ2_getChar_3b067 2 (some .char), Cond.fieldLink RJ2 44 "java/lang/StringUTF16" "$assertionsDisabled" "Z", Cond.fieldLink RJ2 59 "java/lang/StringUTF16" "HI_BYTE_SHIFT" "I"]
def wsJ2_indexOfChar_4cfef_r2 : List Cond := [Cond.fieldLink RJ2 63 "java/lang/StringUTF16" "LO_BYTE_SHIFT" "I"]
def wsJ2_indexOfChar_4cfef : List Cond := .code yJ2_indexOfChar_4cfef cJ2_indexOfChar_4cfef 4 (some .int) :: ((wsJ2_indexOfChar_4cfef_r1 ++ wsJ2_indexOfChar_4cfef_r2))
def wsJ11_isValidCodePoint_9a6ad : List Cond := .code yJ11_isValidCodePoint_9a6ad cJ11_isValidCodePoint_9a6ad 2 (some .boolean) :: ([])
def wsJ11_highSurrogate_5068e : List Cond := .code yJ11_highSurrogate_5068e cJ11_highSurrogate_5068e 1 (some .char) :: ([.constant RJ11 110 (55232)])
def wsJ11_lowSurrogate_5068e : List Cond := .code yJ11_lowSurrogate_5068e cJ11_lowSurrogate_5068e 1 (some .char) :: ([.constant RJ11 76 (56320)])
def wsJ2_indexOfSupplementary_4cfef_r1 : List Cond := [Cond.methodLink RJ2 164 yJ11_isValidCodePoint_9a6ad, Cond.static yJ11_isValidCodePoint_9a6ad, Cond.initialized RJ11, Cond.code yJ11_isValidCodePoint_9a6ad cJ11_isValidCodePoint_9a6ad 2 (some .boolean), Cond.methodLink RJ2 157 yJ11_highSurrogate_5068e, Cond.static yJ11_highSurrogate_5068e, Cond.code yJ11_highSurrogate_5068e cJ11_highSurrogate_5068e 1 (some .char), Cond.constant RJ11 110 (55232), Cond.methodLink RJ2 161 yJ11_lowSurrogate_5068e, Cond.static yJ11_lowSurrogate_5068e, Cond.code yJ11_lowSurrogate_5068e cJ11_lowSurrogate_5068e 1 (some .char), Cond.constant RJ11 76 (56320), Cond.methodLink RJ2 96 yJ2_checkBoundsBeginEnd_d044e, Cond.static yJ2_checkBoundsBeginEnd_d044e, Cond.initialized RJ2, Cond.code yJ2_checkBoundsBeginEnd_d044e cJ2_checkBoundsBeginEnd_d044e 3 none, Cond.methodLink RJ2 48 yJ2_length_9d52b, Cond.static yJ2_length_9d52b, Cond.code yJ2_length_9d52b cJ2_length_9d52b 1 (some .int), Cond.methodLink RJ2 241 yJ0_checkBoundsBeginEnd_23922, Cond.static yJ0_checkBoundsBeginEnd_23922, Cond.initialized RJ0, Cond.code yJ0_checkBoundsBeginEnd_23922 cJ0_checkBoundsBeginEnd_23922 3 none, Cond.fieldLink RJ0 1053 "jdk/internal/util/Preconditions" "SIOOBE_FORMATTER" "Ljava/util/function/BiFunction;"]
def wsJ2_indexOfSupplementary_4cfef_r2 : List Cond := [Cond.methodLink RJ0 1062 yJ3_checkFromToIndex_8c36e, Cond.static yJ3_checkFromToIndex_8c36e, Cond.initialized RJ3, Cond.code yJ3_checkFromToIndex_8c36e cJ3_checkFromToIndex_8c36e 4 (some .int), Cond.methodLink RJ2 71 yJ2_getChar_3b067, Cond.static yJ2_getChar_3b067, Cond.code yJ2_getChar_3b067 cJ2_getChar_3b067 2 (some .char), Cond.fieldLink RJ2 44 "java/lang/StringUTF16" "$assertionsDisabled" "Z", Cond.fieldLink RJ2 59 "java/lang/StringUTF16" "HI_BYTE_SHIFT" "I", Cond.fieldLink RJ2 63 "java/lang/StringUTF16" "LO_BYTE_SHIFT" "I"]
def wsJ2_indexOfSupplementary_4cfef : List Cond := .code yJ2_indexOfSupplementary_4cfef cJ2_indexOfSupplementary_4cfef 7 (some .int) :: ((wsJ2_indexOfSupplementary_4cfef_r1 ++ wsJ2_indexOfSupplementary_4cfef_r2))
def wsJ2_indexOf_4cfef_r1 : List Cond := [Cond.methodLink RJ2 224 Lib.Math.max.name, Cond.static Lib.Math.max.name, Cond.initialized "java/lang/Math", Cond.code Lib.Math.max.name Lib.Math.max.code 2 (some .int), Cond.methodLink RJ2 183 Lib.Math.min.name, Cond.static Lib.Math.min.name, Cond.code Lib.Math.min.name Lib.Math.min.code 2 (some .int), Cond.constant RJ2 227 (65536), Cond.methodLink RJ2 228 yJ2_indexOfChar_4cfef, Cond.static yJ2_indexOfChar_4cfef, Cond.initialized RJ2, Cond.code yJ2_indexOfChar_4cfef cJ2_indexOfChar_4cfef 4 (some .int), Cond.methodLink RJ2 96 yJ2_checkBoundsBeginEnd_d044e, Cond.static yJ2_checkBoundsBeginEnd_d044e, Cond.code yJ2_checkBoundsBeginEnd_d044e cJ2_checkBoundsBeginEnd_d044e 3 none, Cond.methodLink RJ2 48 yJ2_length_9d52b, Cond.static yJ2_length_9d52b, Cond.code yJ2_length_9d52b cJ2_length_9d52b 1 (some .int), Cond.methodLink RJ2 241 yJ0_checkBoundsBeginEnd_23922, Cond.static yJ0_checkBoundsBeginEnd_23922, Cond.initialized RJ0, Cond.code yJ0_checkBoundsBeginEnd_23922 cJ0_checkBoundsBeginEnd_23922 3 none, Cond.fieldLink RJ0 1053 "jdk/internal/util/Preconditions" "SIOOBE_FORMATTER" "Ljava/util/function/BiFunction;", Cond.methodLink RJ0 1062 yJ3_checkFromToIndex_8c36e]
def wsJ2_indexOf_4cfef_r2 : List Cond := [Cond.static yJ3_checkFromToIndex_8c36e, Cond.initialized RJ3, Cond.code yJ3_checkFromToIndex_8c36e cJ3_checkFromToIndex_8c36e 4 (some .int), Cond.methodLink RJ2 244 yJ2_indexOfCharUnsafe_4cfef, Cond.static yJ2_indexOfCharUnsafe_4cfef, Cond.code yJ2_indexOfCharUnsafe_4cfef cJ2_indexOfCharUnsafe_4cfef 5 (some .int), Cond.methodLink RJ2 71 yJ2_getChar_3b067, Cond.static yJ2_getChar_3b067, Cond.code yJ2_getChar_3b067 cJ2_getChar_3b067 2 (some .char), Cond.fieldLink RJ2 44 "java/lang/StringUTF16" "$assertionsDisabled" "Z", Cond.fieldLink RJ2 59 "java/lang/StringUTF16" "HI_BYTE_SHIFT" "I", Cond.fieldLink RJ2 63 "java/lang/StringUTF16" "LO_BYTE_SHIFT" "I", Cond.methodLink RJ2 232 yJ2_indexOfSupplementary_4cfef, Cond.static yJ2_indexOfSupplementary_4cfef, Cond.code yJ2_indexOfSupplementary_4cfef cJ2_indexOfSupplementary_4cfef 7 (some .int), Cond.methodLink RJ2 164 yJ11_isValidCodePoint_9a6ad, Cond.static yJ11_isValidCodePoint_9a6ad, Cond.initialized RJ11, Cond.code yJ11_isValidCodePoint_9a6ad cJ11_isValidCodePoint_9a6ad 2 (some .boolean), Cond.methodLink RJ2 157 yJ11_highSurrogate_5068e, Cond.static yJ11_highSurrogate_5068e, Cond.code yJ11_highSurrogate_5068e cJ11_highSurrogate_5068e 1 (some .char), Cond.constant RJ11 110 (55232), Cond.methodLink RJ2 161 yJ11_lowSurrogate_5068e]
def wsJ2_indexOf_4cfef_r3 : List Cond := [Cond.static yJ11_lowSurrogate_5068e, Cond.code yJ11_lowSurrogate_5068e cJ11_lowSurrogate_5068e 1 (some .char), Cond.constant RJ11 76 (56320)]
def wsJ2_indexOf_4cfef : List Cond := .code yJ2_indexOf_4cfef cJ2_indexOf_4cfef 4 (some .int) :: ((wsJ2_indexOf_4cfef_r1 ++ (wsJ2_indexOf_4cfef_r2 ++ wsJ2_indexOf_4cfef_r3)))
def wsJ0_indexOf_7cf53_r1 : List Cond := [Cond.fieldLink RJ0 9 "java/lang/String" "value" "[B", Cond.methodLink RJ0 492 yJ0_isLatin1_aae02, Cond.instanceMethod yJ0_isLatin1_aae02, Cond.selects RJ0 yJ0_isLatin1_aae02 yJ0_isLatin1_aae02, Cond.initialized RJ0, Cond.code yJ0_isLatin1_aae02 cJ0_isLatin1_aae02 1 (some .boolean), Cond.fieldLink RJ0 38 "java/lang/String" "COMPACT_STRINGS" "Z", Cond.fieldLink RJ0 15 "java/lang/String" "coder" "B", Cond.methodLink RJ0 505 yJ0_length_8abf5, Cond.instanceMethod yJ0_length_8abf5, Cond.selects RJ0 yJ0_length_8abf5 yJ0_length_8abf5, Cond.code yJ0_length_8abf5 cJ0_length_8abf5 1 (some .int), Cond.methodLink RJ0 335 yJ0_coder_7d493, Cond.instanceMethod yJ0_coder_7d493, Cond.selects RJ0 yJ0_coder_7d493 yJ0_coder_7d493, Cond.code yJ0_coder_7d493 cJ0_coder_7d493 1 (some .byte), Cond.methodLink RJ0 637 yJ1_indexOf_4cfef, Cond.static yJ1_indexOf_4cfef, Cond.initialized RJ1, Cond.code yJ1_indexOf_4cfef cJ1_indexOf_4cfef 4 (some .int), Cond.methodLink RJ1 92 Lib.Math.max.name, Cond.static Lib.Math.max.name, Cond.initialized "java/lang/Math", Cond.code Lib.Math.max.name Lib.Math.max.code 2 (some .int)]
def wsJ0_indexOf_7cf53_r2 : List Cond := [Cond.methodLink RJ1 38 Lib.Math.min.name, Cond.static Lib.Math.min.name, Cond.code Lib.Math.min.name Lib.Math.min.code 2 (some .int), Cond.methodLink RJ1 88 yJ1_canEncode_9a6ad, Cond.static yJ1_canEncode_9a6ad, Cond.code yJ1_canEncode_9a6ad cJ1_canEncode_9a6ad 1 (some .boolean), Cond.methodLink RJ1 95 yJ1_indexOfChar_4cfef, Cond.static yJ1_indexOfChar_4cfef, Cond.code yJ1_indexOfChar_4cfef cJ1_indexOfChar_4cfef 6 (some .int), Cond.methodLink RJ0 640 yJ2_indexOf_4cfef, Cond.static yJ2_indexOf_4cfef, Cond.initialized RJ2, Cond.code yJ2_indexOf_4cfef cJ2_indexOf_4cfef 4 (some .int), Cond.methodLink RJ2 224 Lib.Math.max.name, Cond.methodLink RJ2 183 Lib.Math.min.name, Cond.constant RJ2 227 (65536), Cond.methodLink RJ2 228 yJ2_indexOfChar_4cfef, Cond.static yJ2_indexOfChar_4cfef, Cond.code yJ2_indexOfChar_4cfef cJ2_indexOfChar_4cfef 4 (some .int), Cond.methodLink RJ2 96 yJ2_checkBoundsBeginEnd_d044e, Cond.static yJ2_checkBoundsBeginEnd_d044e, Cond.code yJ2_checkBoundsBeginEnd_d044e cJ2_checkBoundsBeginEnd_d044e 3 none, Cond.methodLink RJ2 48 yJ2_length_9d52b, Cond.static yJ2_length_9d52b]
def wsJ0_indexOf_7cf53_r3 : List Cond := [Cond.code yJ2_length_9d52b cJ2_length_9d52b 1 (some .int), Cond.methodLink RJ2 241 yJ0_checkBoundsBeginEnd_23922, Cond.static yJ0_checkBoundsBeginEnd_23922, Cond.code yJ0_checkBoundsBeginEnd_23922 cJ0_checkBoundsBeginEnd_23922 3 none, Cond.fieldLink RJ0 1053 "jdk/internal/util/Preconditions" "SIOOBE_FORMATTER" "Ljava/util/function/BiFunction;", Cond.methodLink RJ0 1062 yJ3_checkFromToIndex_8c36e, Cond.static yJ3_checkFromToIndex_8c36e, Cond.initialized RJ3, Cond.code yJ3_checkFromToIndex_8c36e cJ3_checkFromToIndex_8c36e 4 (some .int), Cond.methodLink RJ2 244 yJ2_indexOfCharUnsafe_4cfef, Cond.static yJ2_indexOfCharUnsafe_4cfef, Cond.code yJ2_indexOfCharUnsafe_4cfef cJ2_indexOfCharUnsafe_4cfef 5 (some .int), Cond.methodLink RJ2 71 yJ2_getChar_3b067, Cond.static yJ2_getChar_3b067, Cond.code yJ2_getChar_3b067 cJ2_getChar_3b067 2 (some .char), Cond.fieldLink RJ2 44 "java/lang/StringUTF16" "$assertionsDisabled" "Z", Cond.fieldLink RJ2 59 "java/lang/StringUTF16" "HI_BYTE_SHIFT" "I", Cond.fieldLink RJ2 63 "java/lang/StringUTF16" "LO_BYTE_SHIFT" "I", Cond.methodLink RJ2 232 yJ2_indexOfSupplementary_4cfef, Cond.static yJ2_indexOfSupplementary_4cfef, Cond.code yJ2_indexOfSupplementary_4cfef cJ2_indexOfSupplementary_4cfef 7 (some .int), Cond.methodLink RJ2 164 yJ11_isValidCodePoint_9a6ad, Cond.static yJ11_isValidCodePoint_9a6ad, Cond.initialized RJ11]
def wsJ0_indexOf_7cf53_r4 : List Cond := [Cond.code yJ11_isValidCodePoint_9a6ad cJ11_isValidCodePoint_9a6ad 2 (some .boolean), Cond.methodLink RJ2 157 yJ11_highSurrogate_5068e, Cond.static yJ11_highSurrogate_5068e, Cond.code yJ11_highSurrogate_5068e cJ11_highSurrogate_5068e 1 (some .char), Cond.constant RJ11 110 (55232), Cond.methodLink RJ2 161 yJ11_lowSurrogate_5068e, Cond.static yJ11_lowSurrogate_5068e, Cond.code yJ11_lowSurrogate_5068e cJ11_lowSurrogate_5068e 1 (some .char), Cond.constant RJ11 76 (56320)]
def wsJ0_indexOf_7cf53 : List Cond := .code yJ0_indexOf_7cf53 cJ0_indexOf_7cf53 3 (some .int) :: ((wsJ0_indexOf_7cf53_r1 ++ (wsJ0_indexOf_7cf53_r2 ++ (wsJ0_indexOf_7cf53_r3 ++ wsJ0_indexOf_7cf53_r4))))
def wsJ0_indexOf_0f7a4_r1 : List Cond := [Cond.methodLink RJ0 633 yJ0_indexOf_7cf53, Cond.instanceMethod yJ0_indexOf_7cf53, Cond.selects RJ0 yJ0_indexOf_7cf53 yJ0_indexOf_7cf53, Cond.initialized RJ0, Cond.code yJ0_indexOf_7cf53 cJ0_indexOf_7cf53 3 (some .int), Cond.fieldLink RJ0 9 "java/lang/String" "value" "[B", Cond.methodLink RJ0 492 yJ0_isLatin1_aae02, Cond.instanceMethod yJ0_isLatin1_aae02, Cond.selects RJ0 yJ0_isLatin1_aae02 yJ0_isLatin1_aae02, Cond.code yJ0_isLatin1_aae02 cJ0_isLatin1_aae02 1 (some .boolean), Cond.fieldLink RJ0 38 "java/lang/String" "COMPACT_STRINGS" "Z", Cond.fieldLink RJ0 15 "java/lang/String" "coder" "B", Cond.methodLink RJ0 505 yJ0_length_8abf5, Cond.instanceMethod yJ0_length_8abf5, Cond.selects RJ0 yJ0_length_8abf5 yJ0_length_8abf5, Cond.code yJ0_length_8abf5 cJ0_length_8abf5 1 (some .int), Cond.methodLink RJ0 335 yJ0_coder_7d493, Cond.instanceMethod yJ0_coder_7d493, Cond.selects RJ0 yJ0_coder_7d493 yJ0_coder_7d493, Cond.code yJ0_coder_7d493 cJ0_coder_7d493 1 (some .byte), Cond.methodLink RJ0 637 yJ1_indexOf_4cfef, Cond.static yJ1_indexOf_4cfef, Cond.initialized RJ1, Cond.code yJ1_indexOf_4cfef cJ1_indexOf_4cfef 4 (some .int)]
def wsJ0_indexOf_0f7a4_r2 : List Cond := [Cond.methodLink RJ1 92 Lib.Math.max.name, Cond.static Lib.Math.max.name, Cond.initialized "java/lang/Math", Cond.code Lib.Math.max.name Lib.Math.max.code 2 (some .int), Cond.methodLink RJ1 38 Lib.Math.min.name, Cond.static Lib.Math.min.name, Cond.code Lib.Math.min.name Lib.Math.min.code 2 (some .int), Cond.methodLink RJ1 88 yJ1_canEncode_9a6ad, Cond.static yJ1_canEncode_9a6ad, Cond.code yJ1_canEncode_9a6ad cJ1_canEncode_9a6ad 1 (some .boolean), Cond.methodLink RJ1 95 yJ1_indexOfChar_4cfef, Cond.static yJ1_indexOfChar_4cfef, Cond.code yJ1_indexOfChar_4cfef cJ1_indexOfChar_4cfef 6 (some .int), Cond.methodLink RJ0 640 yJ2_indexOf_4cfef, Cond.static yJ2_indexOf_4cfef, Cond.initialized RJ2, Cond.code yJ2_indexOf_4cfef cJ2_indexOf_4cfef 4 (some .int), Cond.methodLink RJ2 224 Lib.Math.max.name, Cond.methodLink RJ2 183 Lib.Math.min.name, Cond.constant RJ2 227 (65536), Cond.methodLink RJ2 228 yJ2_indexOfChar_4cfef, Cond.static yJ2_indexOfChar_4cfef, Cond.code yJ2_indexOfChar_4cfef cJ2_indexOfChar_4cfef 4 (some .int), Cond.methodLink RJ2 96 yJ2_checkBoundsBeginEnd_d044e]
def wsJ0_indexOf_0f7a4_r3 : List Cond := [Cond.static yJ2_checkBoundsBeginEnd_d044e, Cond.code yJ2_checkBoundsBeginEnd_d044e cJ2_checkBoundsBeginEnd_d044e 3 none, Cond.methodLink RJ2 48 yJ2_length_9d52b, Cond.static yJ2_length_9d52b, Cond.code yJ2_length_9d52b cJ2_length_9d52b 1 (some .int), Cond.methodLink RJ2 241 yJ0_checkBoundsBeginEnd_23922, Cond.static yJ0_checkBoundsBeginEnd_23922, Cond.code yJ0_checkBoundsBeginEnd_23922 cJ0_checkBoundsBeginEnd_23922 3 none, Cond.fieldLink RJ0 1053 "jdk/internal/util/Preconditions" "SIOOBE_FORMATTER" "Ljava/util/function/BiFunction;", Cond.methodLink RJ0 1062 yJ3_checkFromToIndex_8c36e, Cond.static yJ3_checkFromToIndex_8c36e, Cond.initialized RJ3, Cond.code yJ3_checkFromToIndex_8c36e cJ3_checkFromToIndex_8c36e 4 (some .int), Cond.methodLink RJ2 244 yJ2_indexOfCharUnsafe_4cfef, Cond.static yJ2_indexOfCharUnsafe_4cfef, Cond.code yJ2_indexOfCharUnsafe_4cfef cJ2_indexOfCharUnsafe_4cfef 5 (some .int), Cond.methodLink RJ2 71 yJ2_getChar_3b067, Cond.static yJ2_getChar_3b067, Cond.code yJ2_getChar_3b067 cJ2_getChar_3b067 2 (some .char), Cond.fieldLink RJ2 44 "java/lang/StringUTF16" "$assertionsDisabled" "Z", Cond.fieldLink RJ2 59 "java/lang/StringUTF16" "HI_BYTE_SHIFT" "I", Cond.fieldLink RJ2 63 "java/lang/StringUTF16" "LO_BYTE_SHIFT" "I", Cond.methodLink RJ2 232 yJ2_indexOfSupplementary_4cfef, Cond.static yJ2_indexOfSupplementary_4cfef]
def wsJ0_indexOf_0f7a4_r4 : List Cond := [Cond.code yJ2_indexOfSupplementary_4cfef cJ2_indexOfSupplementary_4cfef 7 (some .int), Cond.methodLink RJ2 164 yJ11_isValidCodePoint_9a6ad, Cond.static yJ11_isValidCodePoint_9a6ad, Cond.initialized RJ11, Cond.code yJ11_isValidCodePoint_9a6ad cJ11_isValidCodePoint_9a6ad 2 (some .boolean), Cond.methodLink RJ2 157 yJ11_highSurrogate_5068e, Cond.static yJ11_highSurrogate_5068e, Cond.code yJ11_highSurrogate_5068e cJ11_highSurrogate_5068e 1 (some .char), Cond.constant RJ11 110 (55232), Cond.methodLink RJ2 161 yJ11_lowSurrogate_5068e, Cond.static yJ11_lowSurrogate_5068e, Cond.code yJ11_lowSurrogate_5068e cJ11_lowSurrogate_5068e 1 (some .char), Cond.constant RJ11 76 (56320)]
def wsJ0_indexOf_0f7a4 : List Cond := .code yJ0_indexOf_0f7a4 cJ0_indexOf_0f7a4 2 (some .int) :: ((wsJ0_indexOf_0f7a4_r1 ++ (wsJ0_indexOf_0f7a4_r2 ++ (wsJ0_indexOf_0f7a4_r3 ++ wsJ0_indexOf_0f7a4_r4))))
def wsX4_levelOf : List Cond := .code yX4_levelOf cX4_levelOf 1 (some .int) :: ([])
def wsX4_readInner_r1 : List Cond := [Cond.fieldLink RX4 18 "StairCourt$Reader" "at" "I", Cond.methodLink RX4 44 yX4_readLevel, Cond.instanceMethod yX4_readLevel, Cond.selects RX4 yX4_readLevel yX4_readLevel, Cond.initialized RX4, Cond.methodLink RX4 52 yX4_next, Cond.instanceMethod yX4_next, Cond.selects RX4 yX4_next yX4_next, Cond.code yX4_next cX4_next 1 (some .int), Cond.fieldLink RX4 22 "StairCourt$Reader" "length" "I", Cond.fieldLink RX4 31 "StairCourt$Reader" "tape" "[I", Cond.code yX4_readLast cX4_readLast 4 (some .boolean), Cond.fieldLink RX4 27 "StairCourt$Reader" "names" "Ljava/lang/String;", Cond.fieldLink RX4 12 "StairCourt$Reader" "draft" "LStairCourt$Text;", Cond.methodLink RX4 64 yX4_isDigit, Cond.static yX4_isDigit, Cond.code yX4_isDigit cX4_isDigit 1 (some .boolean), Cond.methodLink RX4 67 yX4_readNumber, Cond.instanceMethod yX4_readNumber, Cond.selects RX4 yX4_readNumber yX4_readNumber, Cond.code yX4_readNumber cX4_readNumber 3 none, Cond.methodLink RX4 60 yX6_add, Cond.instanceMethod yX6_add, Cond.selects RX6 yX6_add yX6_add]
def wsX4_readInner_r2 : List Cond := [Cond.initialized RX6, Cond.code yX6_add cX6_add 2 none, Cond.fieldLink RX6 18 "StairCourt$Text" "length" "I", Cond.fieldLink RX6 9 "StairCourt$Text" "codes" "[I", Cond.methodLink RX4 70 yJ0_indexOf_0f7a4, Cond.instanceMethod yJ0_indexOf_0f7a4, Cond.selects RJ0 yJ0_indexOf_0f7a4 yJ0_indexOf_0f7a4, Cond.initialized RJ0, Cond.code yJ0_indexOf_0f7a4 cJ0_indexOf_0f7a4 2 (some .int), Cond.methodLink RJ0 633 yJ0_indexOf_7cf53, Cond.instanceMethod yJ0_indexOf_7cf53, Cond.selects RJ0 yJ0_indexOf_7cf53 yJ0_indexOf_7cf53, Cond.code yJ0_indexOf_7cf53 cJ0_indexOf_7cf53 3 (some .int), Cond.fieldLink RJ0 9 "java/lang/String" "value" "[B", Cond.methodLink RJ0 492 yJ0_isLatin1_aae02, Cond.instanceMethod yJ0_isLatin1_aae02, Cond.selects RJ0 yJ0_isLatin1_aae02 yJ0_isLatin1_aae02, Cond.code yJ0_isLatin1_aae02 cJ0_isLatin1_aae02 1 (some .boolean), Cond.fieldLink RJ0 38 "java/lang/String" "COMPACT_STRINGS" "Z", Cond.fieldLink RJ0 15 "java/lang/String" "coder" "B", Cond.methodLink RJ0 505 yJ0_length_8abf5, Cond.instanceMethod yJ0_length_8abf5, Cond.selects RJ0 yJ0_length_8abf5 yJ0_length_8abf5, Cond.code yJ0_length_8abf5 cJ0_length_8abf5 1 (some .int)]
def wsX4_readInner_r3 : List Cond := [Cond.methodLink RJ0 335 yJ0_coder_7d493, Cond.instanceMethod yJ0_coder_7d493, Cond.selects RJ0 yJ0_coder_7d493 yJ0_coder_7d493, Cond.code yJ0_coder_7d493 cJ0_coder_7d493 1 (some .byte), Cond.methodLink RJ0 637 yJ1_indexOf_4cfef, Cond.static yJ1_indexOf_4cfef, Cond.initialized RJ1, Cond.code yJ1_indexOf_4cfef cJ1_indexOf_4cfef 4 (some .int), Cond.methodLink RJ1 92 Lib.Math.max.name, Cond.static Lib.Math.max.name, Cond.initialized "java/lang/Math", Cond.code Lib.Math.max.name Lib.Math.max.code 2 (some .int), Cond.methodLink RJ1 38 Lib.Math.min.name, Cond.static Lib.Math.min.name, Cond.code Lib.Math.min.name Lib.Math.min.code 2 (some .int), Cond.methodLink RJ1 88 yJ1_canEncode_9a6ad, Cond.static yJ1_canEncode_9a6ad, Cond.code yJ1_canEncode_9a6ad cJ1_canEncode_9a6ad 1 (some .boolean), Cond.methodLink RJ1 95 yJ1_indexOfChar_4cfef, Cond.static yJ1_indexOfChar_4cfef, Cond.code yJ1_indexOfChar_4cfef cJ1_indexOfChar_4cfef 6 (some .int), Cond.methodLink RJ0 640 yJ2_indexOf_4cfef, Cond.static yJ2_indexOf_4cfef, Cond.initialized RJ2]
def wsX4_readInner_r4 : List Cond := [Cond.code yJ2_indexOf_4cfef cJ2_indexOf_4cfef 4 (some .int), Cond.methodLink RJ2 224 Lib.Math.max.name, Cond.methodLink RJ2 183 Lib.Math.min.name, Cond.constant RJ2 227 (65536), Cond.methodLink RJ2 228 yJ2_indexOfChar_4cfef, Cond.static yJ2_indexOfChar_4cfef, Cond.code yJ2_indexOfChar_4cfef cJ2_indexOfChar_4cfef 4 (some .int), Cond.methodLink RJ2 96 yJ2_checkBoundsBeginEnd_d044e, Cond.static yJ2_checkBoundsBeginEnd_d044e, Cond.code yJ2_checkBoundsBeginEnd_d044e cJ2_checkBoundsBeginEnd_d044e 3 none, Cond.methodLink RJ2 48 yJ2_length_9d52b, Cond.static yJ2_length_9d52b, Cond.code yJ2_length_9d52b cJ2_length_9d52b 1 (some .int), Cond.methodLink RJ2 241 yJ0_checkBoundsBeginEnd_23922, Cond.static yJ0_checkBoundsBeginEnd_23922, Cond.code yJ0_checkBoundsBeginEnd_23922 cJ0_checkBoundsBeginEnd_23922 3 none, Cond.fieldLink RJ0 1053 "jdk/internal/util/Preconditions" "SIOOBE_FORMATTER" "Ljava/util/function/BiFunction;", Cond.methodLink RJ0 1062 yJ3_checkFromToIndex_8c36e, Cond.static yJ3_checkFromToIndex_8c36e, Cond.initialized RJ3, Cond.code yJ3_checkFromToIndex_8c36e cJ3_checkFromToIndex_8c36e 4 (some .int), Cond.methodLink RJ2 244 yJ2_indexOfCharUnsafe_4cfef, Cond.static yJ2_indexOfCharUnsafe_4cfef, Cond.code yJ2_indexOfCharUnsafe_4cfef cJ2_indexOfCharUnsafe_4cfef 5 (some .int)]
def wsX4_readInner_r5 : List Cond := [Cond.methodLink RJ2 71 yJ2_getChar_3b067, Cond.static yJ2_getChar_3b067, Cond.code yJ2_getChar_3b067 cJ2_getChar_3b067 2 (some .char), Cond.fieldLink RJ2 44 "java/lang/StringUTF16" "$assertionsDisabled" "Z", Cond.fieldLink RJ2 59 "java/lang/StringUTF16" "HI_BYTE_SHIFT" "I", Cond.fieldLink RJ2 63 "java/lang/StringUTF16" "LO_BYTE_SHIFT" "I", Cond.methodLink RJ2 232 yJ2_indexOfSupplementary_4cfef, Cond.static yJ2_indexOfSupplementary_4cfef, Cond.code yJ2_indexOfSupplementary_4cfef cJ2_indexOfSupplementary_4cfef 7 (some .int), Cond.methodLink RJ2 164 yJ11_isValidCodePoint_9a6ad, Cond.static yJ11_isValidCodePoint_9a6ad, Cond.initialized RJ11, Cond.code yJ11_isValidCodePoint_9a6ad cJ11_isValidCodePoint_9a6ad 2 (some .boolean), Cond.methodLink RJ2 157 yJ11_highSurrogate_5068e, Cond.static yJ11_highSurrogate_5068e, Cond.code yJ11_highSurrogate_5068e cJ11_highSurrogate_5068e 1 (some .char), Cond.constant RJ11 110 (55232), Cond.methodLink RJ2 161 yJ11_lowSurrogate_5068e, Cond.static yJ11_lowSurrogate_5068e, Cond.code yJ11_lowSurrogate_5068e cJ11_lowSurrogate_5068e 1 (some .char), Cond.constant RJ11 76 (56320), Cond.methodLink RX4 75 yX4_readNot, Cond.instanceMethod yX4_readNot, Cond.selects RX4 yX4_readNot yX4_readNot]
def wsX4_readInner_r6 : List Cond := [Cond.methodLink RX4 78 yX4_readInner, Cond.instanceMethod yX4_readInner, Cond.selects RX4 yX4_readInner yX4_readInner, Cond.code yX4_readLevel cX4_readLevel 6 (some .boolean), Cond.methodLink RX4 48 yX4_readLast, Cond.instanceMethod yX4_readLast, Cond.selects RX4 yX4_readLast yX4_readLast, Cond.methodLink RX4 56 yX4_levelOf, Cond.static yX4_levelOf, Cond.code yX4_levelOf cX4_levelOf 1 (some .int), Cond.code yX4_readNot cX4_readNot 2 (some .boolean)]
def wsX4_readInner : List Cond := .code yX4_readInner cX4_readInner 2 (some .boolean) :: ((wsX4_readInner_r1 ++ (wsX4_readInner_r2 ++ (wsX4_readInner_r3 ++ (wsX4_readInner_r4 ++ (wsX4_readInner_r5 ++ wsX4_readInner_r6))))) ++ wsX40 ++ wsX60)
def wsX4_readLast_r1 : List Cond := [Cond.fieldLink RX4 27 "StairCourt$Reader" "names" "Ljava/lang/String;", Cond.fieldLink RX4 18 "StairCourt$Reader" "at" "I", Cond.fieldLink RX4 12 "StairCourt$Reader" "draft" "LStairCourt$Text;", Cond.methodLink RX4 52 yX4_next, Cond.instanceMethod yX4_next, Cond.selects RX4 yX4_next yX4_next, Cond.initialized RX4, Cond.code yX4_next cX4_next 1 (some .int), Cond.fieldLink RX4 22 "StairCourt$Reader" "length" "I", Cond.fieldLink RX4 31 "StairCourt$Reader" "tape" "[I", Cond.methodLink RX4 64 yX4_isDigit, Cond.static yX4_isDigit, Cond.code yX4_isDigit cX4_isDigit 1 (some .boolean), Cond.methodLink RX4 67 yX4_readNumber, Cond.instanceMethod yX4_readNumber, Cond.selects RX4 yX4_readNumber yX4_readNumber, Cond.code yX4_readNumber cX4_readNumber 3 none, Cond.methodLink RX4 60 yX6_add, Cond.instanceMethod yX6_add, Cond.selects RX6 yX6_add yX6_add, Cond.initialized RX6, Cond.code yX6_add cX6_add 2 none, Cond.fieldLink RX6 18 "StairCourt$Text" "length" "I", Cond.fieldLink RX6 9 "StairCourt$Text" "codes" "[I"]
def wsX4_readLast_r2 : List Cond := [Cond.methodLink RX4 70 yJ0_indexOf_0f7a4, Cond.instanceMethod yJ0_indexOf_0f7a4, Cond.selects RJ0 yJ0_indexOf_0f7a4 yJ0_indexOf_0f7a4, Cond.initialized RJ0, Cond.code yJ0_indexOf_0f7a4 cJ0_indexOf_0f7a4 2 (some .int), Cond.methodLink RJ0 633 yJ0_indexOf_7cf53, Cond.instanceMethod yJ0_indexOf_7cf53, Cond.selects RJ0 yJ0_indexOf_7cf53 yJ0_indexOf_7cf53, Cond.code yJ0_indexOf_7cf53 cJ0_indexOf_7cf53 3 (some .int), Cond.fieldLink RJ0 9 "java/lang/String" "value" "[B", Cond.methodLink RJ0 492 yJ0_isLatin1_aae02, Cond.instanceMethod yJ0_isLatin1_aae02, Cond.selects RJ0 yJ0_isLatin1_aae02 yJ0_isLatin1_aae02, Cond.code yJ0_isLatin1_aae02 cJ0_isLatin1_aae02 1 (some .boolean), Cond.fieldLink RJ0 38 "java/lang/String" "COMPACT_STRINGS" "Z", Cond.fieldLink RJ0 15 "java/lang/String" "coder" "B", Cond.methodLink RJ0 505 yJ0_length_8abf5, Cond.instanceMethod yJ0_length_8abf5, Cond.selects RJ0 yJ0_length_8abf5 yJ0_length_8abf5, Cond.code yJ0_length_8abf5 cJ0_length_8abf5 1 (some .int), Cond.methodLink RJ0 335 yJ0_coder_7d493, Cond.instanceMethod yJ0_coder_7d493, Cond.selects RJ0 yJ0_coder_7d493 yJ0_coder_7d493, Cond.code yJ0_coder_7d493 cJ0_coder_7d493 1 (some .byte)]
def wsX4_readLast_r3 : List Cond := [Cond.methodLink RJ0 637 yJ1_indexOf_4cfef, Cond.static yJ1_indexOf_4cfef, Cond.initialized RJ1, Cond.code yJ1_indexOf_4cfef cJ1_indexOf_4cfef 4 (some .int), Cond.methodLink RJ1 92 Lib.Math.max.name, Cond.static Lib.Math.max.name, Cond.initialized "java/lang/Math", Cond.code Lib.Math.max.name Lib.Math.max.code 2 (some .int), Cond.methodLink RJ1 38 Lib.Math.min.name, Cond.static Lib.Math.min.name, Cond.code Lib.Math.min.name Lib.Math.min.code 2 (some .int), Cond.methodLink RJ1 88 yJ1_canEncode_9a6ad, Cond.static yJ1_canEncode_9a6ad, Cond.code yJ1_canEncode_9a6ad cJ1_canEncode_9a6ad 1 (some .boolean), Cond.methodLink RJ1 95 yJ1_indexOfChar_4cfef, Cond.static yJ1_indexOfChar_4cfef, Cond.code yJ1_indexOfChar_4cfef cJ1_indexOfChar_4cfef 6 (some .int), Cond.methodLink RJ0 640 yJ2_indexOf_4cfef, Cond.static yJ2_indexOf_4cfef, Cond.initialized RJ2, Cond.code yJ2_indexOf_4cfef cJ2_indexOf_4cfef 4 (some .int), Cond.methodLink RJ2 224 Lib.Math.max.name, Cond.methodLink RJ2 183 Lib.Math.min.name, Cond.constant RJ2 227 (65536)]
def wsX4_readLast_r4 : List Cond := [Cond.methodLink RJ2 228 yJ2_indexOfChar_4cfef, Cond.static yJ2_indexOfChar_4cfef, Cond.code yJ2_indexOfChar_4cfef cJ2_indexOfChar_4cfef 4 (some .int), Cond.methodLink RJ2 96 yJ2_checkBoundsBeginEnd_d044e, Cond.static yJ2_checkBoundsBeginEnd_d044e, Cond.code yJ2_checkBoundsBeginEnd_d044e cJ2_checkBoundsBeginEnd_d044e 3 none, Cond.methodLink RJ2 48 yJ2_length_9d52b, Cond.static yJ2_length_9d52b, Cond.code yJ2_length_9d52b cJ2_length_9d52b 1 (some .int), Cond.methodLink RJ2 241 yJ0_checkBoundsBeginEnd_23922, Cond.static yJ0_checkBoundsBeginEnd_23922, Cond.code yJ0_checkBoundsBeginEnd_23922 cJ0_checkBoundsBeginEnd_23922 3 none, Cond.fieldLink RJ0 1053 "jdk/internal/util/Preconditions" "SIOOBE_FORMATTER" "Ljava/util/function/BiFunction;", Cond.methodLink RJ0 1062 yJ3_checkFromToIndex_8c36e, Cond.static yJ3_checkFromToIndex_8c36e, Cond.initialized RJ3, Cond.code yJ3_checkFromToIndex_8c36e cJ3_checkFromToIndex_8c36e 4 (some .int), Cond.methodLink RJ2 244 yJ2_indexOfCharUnsafe_4cfef, Cond.static yJ2_indexOfCharUnsafe_4cfef, Cond.code yJ2_indexOfCharUnsafe_4cfef cJ2_indexOfCharUnsafe_4cfef 5 (some .int), Cond.methodLink RJ2 71 yJ2_getChar_3b067, Cond.static yJ2_getChar_3b067, Cond.code yJ2_getChar_3b067 cJ2_getChar_3b067 2 (some .char), Cond.fieldLink RJ2 44 "java/lang/StringUTF16" "$assertionsDisabled" "Z"]
def wsX4_readLast_r5 : List Cond := [Cond.fieldLink RJ2 59 "java/lang/StringUTF16" "HI_BYTE_SHIFT" "I", Cond.fieldLink RJ2 63 "java/lang/StringUTF16" "LO_BYTE_SHIFT" "I", Cond.methodLink RJ2 232 yJ2_indexOfSupplementary_4cfef, Cond.static yJ2_indexOfSupplementary_4cfef, Cond.code yJ2_indexOfSupplementary_4cfef cJ2_indexOfSupplementary_4cfef 7 (some .int), Cond.methodLink RJ2 164 yJ11_isValidCodePoint_9a6ad, Cond.static yJ11_isValidCodePoint_9a6ad, Cond.initialized RJ11, Cond.code yJ11_isValidCodePoint_9a6ad cJ11_isValidCodePoint_9a6ad 2 (some .boolean), Cond.methodLink RJ2 157 yJ11_highSurrogate_5068e, Cond.static yJ11_highSurrogate_5068e, Cond.code yJ11_highSurrogate_5068e cJ11_highSurrogate_5068e 1 (some .char), Cond.constant RJ11 110 (55232), Cond.methodLink RJ2 161 yJ11_lowSurrogate_5068e, Cond.static yJ11_lowSurrogate_5068e, Cond.code yJ11_lowSurrogate_5068e cJ11_lowSurrogate_5068e 1 (some .char), Cond.constant RJ11 76 (56320), Cond.methodLink RX4 75 yX4_readNot, Cond.instanceMethod yX4_readNot, Cond.selects RX4 yX4_readNot yX4_readNot, Cond.methodLink RX4 78 yX4_readInner, Cond.instanceMethod yX4_readInner, Cond.selects RX4 yX4_readInner yX4_readInner, Cond.code yX4_readInner cX4_readInner 2 (some .boolean)]
def wsX4_readLast_r6 : List Cond := [Cond.methodLink RX4 44 yX4_readLevel, Cond.instanceMethod yX4_readLevel, Cond.selects RX4 yX4_readLevel yX4_readLevel, Cond.code yX4_readLevel cX4_readLevel 6 (some .boolean), Cond.methodLink RX4 48 yX4_readLast, Cond.instanceMethod yX4_readLast, Cond.selects RX4 yX4_readLast yX4_readLast, Cond.methodLink RX4 56 yX4_levelOf, Cond.static yX4_levelOf, Cond.code yX4_levelOf cX4_levelOf 1 (some .int), Cond.code yX4_readNot cX4_readNot 2 (some .boolean)]
def wsX4_readLast : List Cond := .code yX4_readLast cX4_readLast 4 (some .boolean) :: ((wsX4_readLast_r1 ++ (wsX4_readLast_r2 ++ (wsX4_readLast_r3 ++ (wsX4_readLast_r4 ++ (wsX4_readLast_r5 ++ wsX4_readLast_r6))))) ++ wsX40 ++ wsX60)
def wsX4_readLevel_r1 : List Cond := [Cond.fieldLink RX4 18 "StairCourt$Reader" "at" "I", Cond.fieldLink RX4 12 "StairCourt$Reader" "draft" "LStairCourt$Text;", Cond.methodLink RX4 48 yX4_readLast, Cond.instanceMethod yX4_readLast, Cond.selects RX4 yX4_readLast yX4_readLast, Cond.initialized RX4, Cond.methodLink RX4 44 yX4_readLevel, Cond.instanceMethod yX4_readLevel, Cond.selects RX4 yX4_readLevel yX4_readLevel, Cond.methodLink RX4 52 yX4_next, Cond.instanceMethod yX4_next, Cond.selects RX4 yX4_next yX4_next, Cond.code yX4_next cX4_next 1 (some .int), Cond.fieldLink RX4 22 "StairCourt$Reader" "length" "I", Cond.fieldLink RX4 31 "StairCourt$Reader" "tape" "[I", Cond.methodLink RX4 56 yX4_levelOf, Cond.static yX4_levelOf, Cond.code yX4_levelOf cX4_levelOf 1 (some .int), Cond.methodLink RX4 60 yX6_add, Cond.instanceMethod yX6_add, Cond.selects RX6 yX6_add yX6_add, Cond.initialized RX6, Cond.code yX6_add cX6_add 2 none, Cond.fieldLink RX6 18 "StairCourt$Text" "length" "I"]
def wsX4_readLevel_r2 : List Cond := [Cond.fieldLink RX6 9 "StairCourt$Text" "codes" "[I", Cond.code yX4_readInner cX4_readInner 2 (some .boolean), Cond.code yX4_readLast cX4_readLast 4 (some .boolean), Cond.fieldLink RX4 27 "StairCourt$Reader" "names" "Ljava/lang/String;", Cond.methodLink RX4 64 yX4_isDigit, Cond.static yX4_isDigit, Cond.code yX4_isDigit cX4_isDigit 1 (some .boolean), Cond.methodLink RX4 67 yX4_readNumber, Cond.instanceMethod yX4_readNumber, Cond.selects RX4 yX4_readNumber yX4_readNumber, Cond.code yX4_readNumber cX4_readNumber 3 none, Cond.methodLink RX4 70 yJ0_indexOf_0f7a4, Cond.instanceMethod yJ0_indexOf_0f7a4, Cond.selects RJ0 yJ0_indexOf_0f7a4 yJ0_indexOf_0f7a4, Cond.initialized RJ0, Cond.code yJ0_indexOf_0f7a4 cJ0_indexOf_0f7a4 2 (some .int), Cond.methodLink RJ0 633 yJ0_indexOf_7cf53, Cond.instanceMethod yJ0_indexOf_7cf53, Cond.selects RJ0 yJ0_indexOf_7cf53 yJ0_indexOf_7cf53, Cond.code yJ0_indexOf_7cf53 cJ0_indexOf_7cf53 3 (some .int), Cond.fieldLink RJ0 9 "java/lang/String" "value" "[B", Cond.methodLink RJ0 492 yJ0_isLatin1_aae02, Cond.instanceMethod yJ0_isLatin1_aae02, Cond.selects RJ0 yJ0_isLatin1_aae02 yJ0_isLatin1_aae02]
def wsX4_readLevel_r3 : List Cond := [Cond.code yJ0_isLatin1_aae02 cJ0_isLatin1_aae02 1 (some .boolean), Cond.fieldLink RJ0 38 "java/lang/String" "COMPACT_STRINGS" "Z", Cond.fieldLink RJ0 15 "java/lang/String" "coder" "B", Cond.methodLink RJ0 505 yJ0_length_8abf5, Cond.instanceMethod yJ0_length_8abf5, Cond.selects RJ0 yJ0_length_8abf5 yJ0_length_8abf5, Cond.code yJ0_length_8abf5 cJ0_length_8abf5 1 (some .int), Cond.methodLink RJ0 335 yJ0_coder_7d493, Cond.instanceMethod yJ0_coder_7d493, Cond.selects RJ0 yJ0_coder_7d493 yJ0_coder_7d493, Cond.code yJ0_coder_7d493 cJ0_coder_7d493 1 (some .byte), Cond.methodLink RJ0 637 yJ1_indexOf_4cfef, Cond.static yJ1_indexOf_4cfef, Cond.initialized RJ1, Cond.code yJ1_indexOf_4cfef cJ1_indexOf_4cfef 4 (some .int), Cond.methodLink RJ1 92 Lib.Math.max.name, Cond.static Lib.Math.max.name, Cond.initialized "java/lang/Math", Cond.code Lib.Math.max.name Lib.Math.max.code 2 (some .int), Cond.methodLink RJ1 38 Lib.Math.min.name, Cond.static Lib.Math.min.name, Cond.code Lib.Math.min.name Lib.Math.min.code 2 (some .int), Cond.methodLink RJ1 88 yJ1_canEncode_9a6ad, Cond.static yJ1_canEncode_9a6ad]
def wsX4_readLevel_r4 : List Cond := [Cond.code yJ1_canEncode_9a6ad cJ1_canEncode_9a6ad 1 (some .boolean), Cond.methodLink RJ1 95 yJ1_indexOfChar_4cfef, Cond.static yJ1_indexOfChar_4cfef, Cond.code yJ1_indexOfChar_4cfef cJ1_indexOfChar_4cfef 6 (some .int), Cond.methodLink RJ0 640 yJ2_indexOf_4cfef, Cond.static yJ2_indexOf_4cfef, Cond.initialized RJ2, Cond.code yJ2_indexOf_4cfef cJ2_indexOf_4cfef 4 (some .int), Cond.methodLink RJ2 224 Lib.Math.max.name, Cond.methodLink RJ2 183 Lib.Math.min.name, Cond.constant RJ2 227 (65536), Cond.methodLink RJ2 228 yJ2_indexOfChar_4cfef, Cond.static yJ2_indexOfChar_4cfef, Cond.code yJ2_indexOfChar_4cfef cJ2_indexOfChar_4cfef 4 (some .int), Cond.methodLink RJ2 96 yJ2_checkBoundsBeginEnd_d044e, Cond.static yJ2_checkBoundsBeginEnd_d044e, Cond.code yJ2_checkBoundsBeginEnd_d044e cJ2_checkBoundsBeginEnd_d044e 3 none, Cond.methodLink RJ2 48 yJ2_length_9d52b, Cond.static yJ2_length_9d52b, Cond.code yJ2_length_9d52b cJ2_length_9d52b 1 (some .int), Cond.methodLink RJ2 241 yJ0_checkBoundsBeginEnd_23922, Cond.static yJ0_checkBoundsBeginEnd_23922, Cond.code yJ0_checkBoundsBeginEnd_23922 cJ0_checkBoundsBeginEnd_23922 3 none, Cond.fieldLink RJ0 1053 "jdk/internal/util/Preconditions" "SIOOBE_FORMATTER" "Ljava/util/function/BiFunction;"]
def wsX4_readLevel_r5 : List Cond := [Cond.methodLink RJ0 1062 yJ3_checkFromToIndex_8c36e, Cond.static yJ3_checkFromToIndex_8c36e, Cond.initialized RJ3, Cond.code yJ3_checkFromToIndex_8c36e cJ3_checkFromToIndex_8c36e 4 (some .int), Cond.methodLink RJ2 244 yJ2_indexOfCharUnsafe_4cfef, Cond.static yJ2_indexOfCharUnsafe_4cfef, Cond.code yJ2_indexOfCharUnsafe_4cfef cJ2_indexOfCharUnsafe_4cfef 5 (some .int), Cond.methodLink RJ2 71 yJ2_getChar_3b067, Cond.static yJ2_getChar_3b067, Cond.code yJ2_getChar_3b067 cJ2_getChar_3b067 2 (some .char), Cond.fieldLink RJ2 44 "java/lang/StringUTF16" "$assertionsDisabled" "Z", Cond.fieldLink RJ2 59 "java/lang/StringUTF16" "HI_BYTE_SHIFT" "I", Cond.fieldLink RJ2 63 "java/lang/StringUTF16" "LO_BYTE_SHIFT" "I", Cond.methodLink RJ2 232 yJ2_indexOfSupplementary_4cfef, Cond.static yJ2_indexOfSupplementary_4cfef, Cond.code yJ2_indexOfSupplementary_4cfef cJ2_indexOfSupplementary_4cfef 7 (some .int), Cond.methodLink RJ2 164 yJ11_isValidCodePoint_9a6ad, Cond.static yJ11_isValidCodePoint_9a6ad, Cond.initialized RJ11, Cond.code yJ11_isValidCodePoint_9a6ad cJ11_isValidCodePoint_9a6ad 2 (some .boolean), Cond.methodLink RJ2 157 yJ11_highSurrogate_5068e, Cond.static yJ11_highSurrogate_5068e, Cond.code yJ11_highSurrogate_5068e cJ11_highSurrogate_5068e 1 (some .char), Cond.constant RJ11 110 (55232)]
def wsX4_readLevel_r6 : List Cond := [Cond.methodLink RJ2 161 yJ11_lowSurrogate_5068e, Cond.static yJ11_lowSurrogate_5068e, Cond.code yJ11_lowSurrogate_5068e cJ11_lowSurrogate_5068e 1 (some .char), Cond.constant RJ11 76 (56320), Cond.methodLink RX4 75 yX4_readNot, Cond.instanceMethod yX4_readNot, Cond.selects RX4 yX4_readNot yX4_readNot, Cond.methodLink RX4 78 yX4_readInner, Cond.instanceMethod yX4_readInner, Cond.selects RX4 yX4_readInner yX4_readInner, Cond.code yX4_readNot cX4_readNot 2 (some .boolean)]
def wsX4_readLevel : List Cond := .code yX4_readLevel cX4_readLevel 6 (some .boolean) :: ((wsX4_readLevel_r1 ++ (wsX4_readLevel_r2 ++ (wsX4_readLevel_r3 ++ (wsX4_readLevel_r4 ++ (wsX4_readLevel_r5 ++ wsX4_readLevel_r6))))) ++ wsX40 ++ wsX60)
def wsX4_readNot_r1 : List Cond := [Cond.fieldLink RX4 18 "StairCourt$Reader" "at" "I", Cond.fieldLink RX4 12 "StairCourt$Reader" "draft" "LStairCourt$Text;", Cond.methodLink RX4 44 yX4_readLevel, Cond.instanceMethod yX4_readLevel, Cond.selects RX4 yX4_readLevel yX4_readLevel, Cond.initialized RX4, Cond.methodLink RX4 60 yX6_add, Cond.instanceMethod yX6_add, Cond.selects RX6 yX6_add yX6_add, Cond.initialized RX6, Cond.code yX6_add cX6_add 2 none, Cond.fieldLink RX6 18 "StairCourt$Text" "length" "I", Cond.fieldLink RX6 9 "StairCourt$Text" "codes" "[I", Cond.code yX4_readInner cX4_readInner 2 (some .boolean), Cond.methodLink RX4 52 yX4_next, Cond.instanceMethod yX4_next, Cond.selects RX4 yX4_next yX4_next, Cond.code yX4_next cX4_next 1 (some .int), Cond.fieldLink RX4 22 "StairCourt$Reader" "length" "I", Cond.fieldLink RX4 31 "StairCourt$Reader" "tape" "[I", Cond.code yX4_readLast cX4_readLast 4 (some .boolean), Cond.fieldLink RX4 27 "StairCourt$Reader" "names" "Ljava/lang/String;", Cond.methodLink RX4 64 yX4_isDigit, Cond.static yX4_isDigit]
def wsX4_readNot_r2 : List Cond := [Cond.code yX4_isDigit cX4_isDigit 1 (some .boolean), Cond.methodLink RX4 67 yX4_readNumber, Cond.instanceMethod yX4_readNumber, Cond.selects RX4 yX4_readNumber yX4_readNumber, Cond.code yX4_readNumber cX4_readNumber 3 none, Cond.methodLink RX4 70 yJ0_indexOf_0f7a4, Cond.instanceMethod yJ0_indexOf_0f7a4, Cond.selects RJ0 yJ0_indexOf_0f7a4 yJ0_indexOf_0f7a4, Cond.initialized RJ0, Cond.code yJ0_indexOf_0f7a4 cJ0_indexOf_0f7a4 2 (some .int), Cond.methodLink RJ0 633 yJ0_indexOf_7cf53, Cond.instanceMethod yJ0_indexOf_7cf53, Cond.selects RJ0 yJ0_indexOf_7cf53 yJ0_indexOf_7cf53, Cond.code yJ0_indexOf_7cf53 cJ0_indexOf_7cf53 3 (some .int), Cond.fieldLink RJ0 9 "java/lang/String" "value" "[B", Cond.methodLink RJ0 492 yJ0_isLatin1_aae02, Cond.instanceMethod yJ0_isLatin1_aae02, Cond.selects RJ0 yJ0_isLatin1_aae02 yJ0_isLatin1_aae02, Cond.code yJ0_isLatin1_aae02 cJ0_isLatin1_aae02 1 (some .boolean), Cond.fieldLink RJ0 38 "java/lang/String" "COMPACT_STRINGS" "Z", Cond.fieldLink RJ0 15 "java/lang/String" "coder" "B", Cond.methodLink RJ0 505 yJ0_length_8abf5, Cond.instanceMethod yJ0_length_8abf5, Cond.selects RJ0 yJ0_length_8abf5 yJ0_length_8abf5]
def wsX4_readNot_r3 : List Cond := [Cond.code yJ0_length_8abf5 cJ0_length_8abf5 1 (some .int), Cond.methodLink RJ0 335 yJ0_coder_7d493, Cond.instanceMethod yJ0_coder_7d493, Cond.selects RJ0 yJ0_coder_7d493 yJ0_coder_7d493, Cond.code yJ0_coder_7d493 cJ0_coder_7d493 1 (some .byte), Cond.methodLink RJ0 637 yJ1_indexOf_4cfef, Cond.static yJ1_indexOf_4cfef, Cond.initialized RJ1, Cond.code yJ1_indexOf_4cfef cJ1_indexOf_4cfef 4 (some .int), Cond.methodLink RJ1 92 Lib.Math.max.name, Cond.static Lib.Math.max.name, Cond.initialized "java/lang/Math", Cond.code Lib.Math.max.name Lib.Math.max.code 2 (some .int), Cond.methodLink RJ1 38 Lib.Math.min.name, Cond.static Lib.Math.min.name, Cond.code Lib.Math.min.name Lib.Math.min.code 2 (some .int), Cond.methodLink RJ1 88 yJ1_canEncode_9a6ad, Cond.static yJ1_canEncode_9a6ad, Cond.code yJ1_canEncode_9a6ad cJ1_canEncode_9a6ad 1 (some .boolean), Cond.methodLink RJ1 95 yJ1_indexOfChar_4cfef, Cond.static yJ1_indexOfChar_4cfef, Cond.code yJ1_indexOfChar_4cfef cJ1_indexOfChar_4cfef 6 (some .int), Cond.methodLink RJ0 640 yJ2_indexOf_4cfef, Cond.static yJ2_indexOf_4cfef]
def wsX4_readNot_r4 : List Cond := [Cond.initialized RJ2, Cond.code yJ2_indexOf_4cfef cJ2_indexOf_4cfef 4 (some .int), Cond.methodLink RJ2 224 Lib.Math.max.name, Cond.methodLink RJ2 183 Lib.Math.min.name, Cond.constant RJ2 227 (65536), Cond.methodLink RJ2 228 yJ2_indexOfChar_4cfef, Cond.static yJ2_indexOfChar_4cfef, Cond.code yJ2_indexOfChar_4cfef cJ2_indexOfChar_4cfef 4 (some .int), Cond.methodLink RJ2 96 yJ2_checkBoundsBeginEnd_d044e, Cond.static yJ2_checkBoundsBeginEnd_d044e, Cond.code yJ2_checkBoundsBeginEnd_d044e cJ2_checkBoundsBeginEnd_d044e 3 none, Cond.methodLink RJ2 48 yJ2_length_9d52b, Cond.static yJ2_length_9d52b, Cond.code yJ2_length_9d52b cJ2_length_9d52b 1 (some .int), Cond.methodLink RJ2 241 yJ0_checkBoundsBeginEnd_23922, Cond.static yJ0_checkBoundsBeginEnd_23922, Cond.code yJ0_checkBoundsBeginEnd_23922 cJ0_checkBoundsBeginEnd_23922 3 none, Cond.fieldLink RJ0 1053 "jdk/internal/util/Preconditions" "SIOOBE_FORMATTER" "Ljava/util/function/BiFunction;", Cond.methodLink RJ0 1062 yJ3_checkFromToIndex_8c36e, Cond.static yJ3_checkFromToIndex_8c36e, Cond.initialized RJ3, Cond.code yJ3_checkFromToIndex_8c36e cJ3_checkFromToIndex_8c36e 4 (some .int), Cond.methodLink RJ2 244 yJ2_indexOfCharUnsafe_4cfef, Cond.static yJ2_indexOfCharUnsafe_4cfef]
def wsX4_readNot_r5 : List Cond := [Cond.code yJ2_indexOfCharUnsafe_4cfef cJ2_indexOfCharUnsafe_4cfef 5 (some .int), Cond.methodLink RJ2 71 yJ2_getChar_3b067, Cond.static yJ2_getChar_3b067, Cond.code yJ2_getChar_3b067 cJ2_getChar_3b067 2 (some .char), Cond.fieldLink RJ2 44 "java/lang/StringUTF16" "$assertionsDisabled" "Z", Cond.fieldLink RJ2 59 "java/lang/StringUTF16" "HI_BYTE_SHIFT" "I", Cond.fieldLink RJ2 63 "java/lang/StringUTF16" "LO_BYTE_SHIFT" "I", Cond.methodLink RJ2 232 yJ2_indexOfSupplementary_4cfef, Cond.static yJ2_indexOfSupplementary_4cfef, Cond.code yJ2_indexOfSupplementary_4cfef cJ2_indexOfSupplementary_4cfef 7 (some .int), Cond.methodLink RJ2 164 yJ11_isValidCodePoint_9a6ad, Cond.static yJ11_isValidCodePoint_9a6ad, Cond.initialized RJ11, Cond.code yJ11_isValidCodePoint_9a6ad cJ11_isValidCodePoint_9a6ad 2 (some .boolean), Cond.methodLink RJ2 157 yJ11_highSurrogate_5068e, Cond.static yJ11_highSurrogate_5068e, Cond.code yJ11_highSurrogate_5068e cJ11_highSurrogate_5068e 1 (some .char), Cond.constant RJ11 110 (55232), Cond.methodLink RJ2 161 yJ11_lowSurrogate_5068e, Cond.static yJ11_lowSurrogate_5068e, Cond.code yJ11_lowSurrogate_5068e cJ11_lowSurrogate_5068e 1 (some .char), Cond.constant RJ11 76 (56320), Cond.methodLink RX4 75 yX4_readNot, Cond.instanceMethod yX4_readNot]
def wsX4_readNot_r6 : List Cond := [Cond.selects RX4 yX4_readNot yX4_readNot, Cond.methodLink RX4 78 yX4_readInner, Cond.instanceMethod yX4_readInner, Cond.selects RX4 yX4_readInner yX4_readInner, Cond.code yX4_readLevel cX4_readLevel 6 (some .boolean), Cond.methodLink RX4 48 yX4_readLast, Cond.instanceMethod yX4_readLast, Cond.selects RX4 yX4_readLast yX4_readLast, Cond.methodLink RX4 56 yX4_levelOf, Cond.static yX4_levelOf, Cond.code yX4_levelOf cX4_levelOf 1 (some .int)]
def wsX4_readNot : List Cond := .code yX4_readNot cX4_readNot 2 (some .boolean) :: ((wsX4_readNot_r1 ++ (wsX4_readNot_r2 ++ (wsX4_readNot_r3 ++ (wsX4_readNot_r4 ++ (wsX4_readNot_r5 ++ wsX4_readNot_r6))))) ++ wsX40 ++ wsX60)
def wsX4_read_r1 : List Cond := [Cond.fieldLink RX4 12 "StairCourt$Reader" "draft" "LStairCourt$Text;", Cond.fieldLink RX4 18 "StairCourt$Reader" "at" "I", Cond.fieldLink RX4 31 "StairCourt$Reader" "tape" "[I", Cond.methodLink RX4 38 Lib.Math.min.name, Cond.static Lib.Math.min.name, Cond.initialized "java/lang/Math", Cond.code Lib.Math.min.name Lib.Math.min.code 2 (some .int), Cond.fieldLink RX4 22 "StairCourt$Reader" "length" "I", Cond.fieldLink RX4 27 "StairCourt$Reader" "names" "Ljava/lang/String;", Cond.methodLink RX4 35 yX6_clear, Cond.instanceMethod yX6_clear, Cond.selects RX6 yX6_clear yX6_clear, Cond.initialized RX6, Cond.code yX6_clear cX6_clear 1 none, Cond.fieldLink RX6 18 "StairCourt$Text" "length" "I", Cond.methodLink RX4 44 yX4_readLevel, Cond.instanceMethod yX4_readLevel, Cond.selects RX4 yX4_readLevel yX4_readLevel, Cond.initialized RX4, Cond.code yX4_readLevel cX4_readLevel 6 (some .boolean), Cond.methodLink RX4 48 yX4_readLast, Cond.instanceMethod yX4_readLast, Cond.selects RX4 yX4_readLast yX4_readLast, Cond.methodLink RX4 52 yX4_next]
def wsX4_read_r2 : List Cond := [Cond.instanceMethod yX4_next, Cond.selects RX4 yX4_next yX4_next, Cond.code yX4_next cX4_next 1 (some .int), Cond.methodLink RX4 56 yX4_levelOf, Cond.static yX4_levelOf, Cond.code yX4_levelOf cX4_levelOf 1 (some .int), Cond.methodLink RX4 60 yX6_add, Cond.instanceMethod yX6_add, Cond.selects RX6 yX6_add yX6_add, Cond.code yX6_add cX6_add 2 none, Cond.fieldLink RX6 9 "StairCourt$Text" "codes" "[I", Cond.code yX4_readInner cX4_readInner 2 (some .boolean), Cond.code yX4_readLast cX4_readLast 4 (some .boolean), Cond.methodLink RX4 64 yX4_isDigit, Cond.static yX4_isDigit, Cond.code yX4_isDigit cX4_isDigit 1 (some .boolean), Cond.methodLink RX4 67 yX4_readNumber, Cond.instanceMethod yX4_readNumber, Cond.selects RX4 yX4_readNumber yX4_readNumber, Cond.code yX4_readNumber cX4_readNumber 3 none, Cond.methodLink RX4 70 yJ0_indexOf_0f7a4, Cond.instanceMethod yJ0_indexOf_0f7a4, Cond.selects RJ0 yJ0_indexOf_0f7a4 yJ0_indexOf_0f7a4, Cond.initialized RJ0]
def wsX4_read_r3 : List Cond := [Cond.code yJ0_indexOf_0f7a4 cJ0_indexOf_0f7a4 2 (some .int), Cond.methodLink RJ0 633 yJ0_indexOf_7cf53, Cond.instanceMethod yJ0_indexOf_7cf53, Cond.selects RJ0 yJ0_indexOf_7cf53 yJ0_indexOf_7cf53, Cond.code yJ0_indexOf_7cf53 cJ0_indexOf_7cf53 3 (some .int), Cond.fieldLink RJ0 9 "java/lang/String" "value" "[B", Cond.methodLink RJ0 492 yJ0_isLatin1_aae02, Cond.instanceMethod yJ0_isLatin1_aae02, Cond.selects RJ0 yJ0_isLatin1_aae02 yJ0_isLatin1_aae02, Cond.code yJ0_isLatin1_aae02 cJ0_isLatin1_aae02 1 (some .boolean), Cond.fieldLink RJ0 38 "java/lang/String" "COMPACT_STRINGS" "Z", Cond.fieldLink RJ0 15 "java/lang/String" "coder" "B", Cond.methodLink RJ0 505 yJ0_length_8abf5, Cond.instanceMethod yJ0_length_8abf5, Cond.selects RJ0 yJ0_length_8abf5 yJ0_length_8abf5, Cond.code yJ0_length_8abf5 cJ0_length_8abf5 1 (some .int), Cond.methodLink RJ0 335 yJ0_coder_7d493, Cond.instanceMethod yJ0_coder_7d493, Cond.selects RJ0 yJ0_coder_7d493 yJ0_coder_7d493, Cond.code yJ0_coder_7d493 cJ0_coder_7d493 1 (some .byte), Cond.methodLink RJ0 637 yJ1_indexOf_4cfef, Cond.static yJ1_indexOf_4cfef, Cond.initialized RJ1, Cond.code yJ1_indexOf_4cfef cJ1_indexOf_4cfef 4 (some .int)]
def wsX4_read_r4 : List Cond := [Cond.methodLink RJ1 92 Lib.Math.max.name, Cond.static Lib.Math.max.name, Cond.code Lib.Math.max.name Lib.Math.max.code 2 (some .int), Cond.methodLink RJ1 38 Lib.Math.min.name, Cond.methodLink RJ1 88 yJ1_canEncode_9a6ad, Cond.static yJ1_canEncode_9a6ad, Cond.code yJ1_canEncode_9a6ad cJ1_canEncode_9a6ad 1 (some .boolean), Cond.methodLink RJ1 95 yJ1_indexOfChar_4cfef, Cond.static yJ1_indexOfChar_4cfef, Cond.code yJ1_indexOfChar_4cfef cJ1_indexOfChar_4cfef 6 (some .int), Cond.methodLink RJ0 640 yJ2_indexOf_4cfef, Cond.static yJ2_indexOf_4cfef, Cond.initialized RJ2, Cond.code yJ2_indexOf_4cfef cJ2_indexOf_4cfef 4 (some .int), Cond.methodLink RJ2 224 Lib.Math.max.name, Cond.methodLink RJ2 183 Lib.Math.min.name, Cond.constant RJ2 227 (65536), Cond.methodLink RJ2 228 yJ2_indexOfChar_4cfef, Cond.static yJ2_indexOfChar_4cfef, Cond.code yJ2_indexOfChar_4cfef cJ2_indexOfChar_4cfef 4 (some .int), Cond.methodLink RJ2 96 yJ2_checkBoundsBeginEnd_d044e, Cond.static yJ2_checkBoundsBeginEnd_d044e, Cond.code yJ2_checkBoundsBeginEnd_d044e cJ2_checkBoundsBeginEnd_d044e 3 none, Cond.methodLink RJ2 48 yJ2_length_9d52b]
def wsX4_read_r5 : List Cond := [Cond.static yJ2_length_9d52b, Cond.code yJ2_length_9d52b cJ2_length_9d52b 1 (some .int), Cond.methodLink RJ2 241 yJ0_checkBoundsBeginEnd_23922, Cond.static yJ0_checkBoundsBeginEnd_23922, Cond.code yJ0_checkBoundsBeginEnd_23922 cJ0_checkBoundsBeginEnd_23922 3 none, Cond.fieldLink RJ0 1053 "jdk/internal/util/Preconditions" "SIOOBE_FORMATTER" "Ljava/util/function/BiFunction;", Cond.methodLink RJ0 1062 yJ3_checkFromToIndex_8c36e, Cond.static yJ3_checkFromToIndex_8c36e, Cond.initialized RJ3, Cond.code yJ3_checkFromToIndex_8c36e cJ3_checkFromToIndex_8c36e 4 (some .int), Cond.methodLink RJ2 244 yJ2_indexOfCharUnsafe_4cfef, Cond.static yJ2_indexOfCharUnsafe_4cfef, Cond.code yJ2_indexOfCharUnsafe_4cfef cJ2_indexOfCharUnsafe_4cfef 5 (some .int), Cond.methodLink RJ2 71 yJ2_getChar_3b067, Cond.static yJ2_getChar_3b067, Cond.code yJ2_getChar_3b067 cJ2_getChar_3b067 2 (some .char), Cond.fieldLink RJ2 44 "java/lang/StringUTF16" "$assertionsDisabled" "Z", Cond.fieldLink RJ2 59 "java/lang/StringUTF16" "HI_BYTE_SHIFT" "I", Cond.fieldLink RJ2 63 "java/lang/StringUTF16" "LO_BYTE_SHIFT" "I", Cond.methodLink RJ2 232 yJ2_indexOfSupplementary_4cfef, Cond.static yJ2_indexOfSupplementary_4cfef, Cond.code yJ2_indexOfSupplementary_4cfef cJ2_indexOfSupplementary_4cfef 7 (some .int), Cond.methodLink RJ2 164 yJ11_isValidCodePoint_9a6ad, Cond.static yJ11_isValidCodePoint_9a6ad]
def wsX4_read_r6 : List Cond := [Cond.initialized RJ11, Cond.code yJ11_isValidCodePoint_9a6ad cJ11_isValidCodePoint_9a6ad 2 (some .boolean), Cond.methodLink RJ2 157 yJ11_highSurrogate_5068e, Cond.static yJ11_highSurrogate_5068e, Cond.code yJ11_highSurrogate_5068e cJ11_highSurrogate_5068e 1 (some .char), Cond.constant RJ11 110 (55232), Cond.methodLink RJ2 161 yJ11_lowSurrogate_5068e, Cond.static yJ11_lowSurrogate_5068e, Cond.code yJ11_lowSurrogate_5068e cJ11_lowSurrogate_5068e 1 (some .char), Cond.constant RJ11 76 (56320), Cond.methodLink RX4 75 yX4_readNot, Cond.instanceMethod yX4_readNot, Cond.selects RX4 yX4_readNot yX4_readNot, Cond.methodLink RX4 78 yX4_readInner, Cond.instanceMethod yX4_readInner, Cond.selects RX4 yX4_readInner yX4_readInner, Cond.code yX4_readNot cX4_readNot 2 (some .boolean)]
def wsX4_read : List Cond := .code yX4_read cX4_read 3 (some .boolean) :: ((wsX4_read_r1 ++ (wsX4_read_r2 ++ (wsX4_read_r3 ++ (wsX4_read_r4 ++ (wsX4_read_r5 ++ wsX4_read_r6))))) ++ wsX40 ++ wsX60)
def wsX5_init : List Cond := .code yX5_init cX5_init 1 none :: ([.methodLink RX5 3 objectInit, .instanceMethod objectInit, .code objectInit ⟨#[0xb1]⟩ 1 none, .arrayClass .int, .fieldLink RX5 9 "StairCourt$Sheet" "numbers" "[I", .fieldLink RX5 15 "StairCourt$Sheet" "bits" "I", .fieldLink RX5 19 "StairCourt$Sheet" "length" "I"] ++ wsX50)
def wsX5_isMissing : List Cond := .code yX5_isMissing cX5_isMissing 1 (some .boolean) :: ([.fieldLink RX5 15 "StairCourt$Sheet" "bits" "I"] ++ wsX50)
def wsX5_renew : List Cond := .code yX5_renew cX5_renew 3 none :: ([.fieldLink RX5 9 "StairCourt$Sheet" "numbers" "[I", .fieldLink RX5 15 "StairCourt$Sheet" "bits" "I", .methodLink RX5 28 Lib.Math.min.name, .static Lib.Math.min.name, .initialized "java/lang/Math", .code Lib.Math.min.name Lib.Math.min.code 2 (some .int), .methodLink RX5 34 Lib.Math.max.name, .static Lib.Math.max.name, .code Lib.Math.max.name Lib.Math.max.code 2 (some .int), .fieldLink RX5 19 "StairCourt$Sheet" "length" "I", .methodLink RX5 22 yJ7_fill_53178, .static yJ7_fill_53178, .initialized RJ7, .code yJ7_fill_53178 cJ7_fill_53178 4 none] ++ wsX50)
def wsX5_get : List Cond := .code yX5_get cX5_get 2 (some .int) :: ([.fieldLink RX5 19 "StairCourt$Sheet" "length" "I", .fieldLink RX5 9 "StairCourt$Sheet" "numbers" "[I"] ++ wsX50)
def wsX5_lowest : List Cond := .code yX5_lowest cX5_lowest 2 (some .int) :: ([.fieldLink RX5 15 "StairCourt$Sheet" "bits" "I", .constant RX5 41 (65535)] ++ wsX50)
def wsX5_set : List Cond := .code yX5_set cX5_set 3 none :: ([.fieldLink RX5 19 "StairCourt$Sheet" "length" "I", .fieldLink RX5 9 "StairCourt$Sheet" "numbers" "[I", .methodLink RX5 37 yX5_lowest, .instanceMethod yX5_lowest, .selects RX5 yX5_lowest yX5_lowest, .initialized RX5, .code yX5_lowest cX5_lowest 2 (some .int), .fieldLink RX5 15 "StairCourt$Sheet" "bits" "I", .constant RX5 41 (65535)] ++ wsX50)
def wsX5_holds : List Cond := .code yX5_holds cX5_holds 3 (some .boolean) :: ([.fieldLink RX5 19 "StairCourt$Sheet" "length" "I"] ++ wsX50)
def wsX8_within : List Cond := .code yX8_within cX8_within 3 (some .boolean) :: ([])
def wsX8_isWord : List Cond := .code yX8_isWord cX8_isWord 1 (some .boolean) :: ([.methodLink RX8 63 yX8_within, .static yX8_within, .initialized RX8, .code yX8_within cX8_within 3 (some .boolean)])
def wsX5_holdsWordsAlone : List Cond := .code yX5_holdsWordsAlone cX5_holdsWordsAlone 2 (some .boolean) :: ([.fieldLink RX5 19 "StairCourt$Sheet" "length" "I", .methodLink RX5 42 yX5_get, .instanceMethod yX5_get, .selects RX5 yX5_get yX5_get, .initialized RX5, .code yX5_get cX5_get 2 (some .int), .fieldLink RX5 9 "StairCourt$Sheet" "numbers" "[I", .static yX8_isWord, .initialized RX8, .code yX8_isWord cX8_isWord 1 (some .boolean), .methodLink RX8 63 yX8_within, .static yX8_within, .code yX8_within cX8_within 3 (some .boolean)] ++ wsX50)
def wsX7_init : List Cond := .code yX7_init cX7_init 1 none :: ([.methodLink RX7 3 objectInit, .instanceMethod objectInit, .code objectInit ⟨#[0xb1]⟩ 1 none, .fieldLink RX7 9 "StairCourt$Voices" "traced" "I", .fieldLink RX7 15 "StairCourt$Voices" "parted" "Z", .arrayClass .int, .fieldLink RX7 19 "StairCourt$Voices" "trace" "[I", .fieldLink RX7 23 "StairCourt$Voices" "kind" "I", .fieldLink RX7 26 "StairCourt$Voices" "m" "I", .fieldLink RX7 29 "StairCourt$Voices" "place" "I"] ++ wsX70)
def wsX8_kindAbove : List Cond := .code yX8_kindAbove cX8_kindAbove 1 (some .int) :: ([.fieldLink RX8 295 "StairCourt" "ABOVE" "[I"])
def wsX7_bodyOf : List Cond := .code yX7_bodyOf cX7_bodyOf 3 (some .int) :: ([])
def wsX7_bodyFrom : List Cond := .code yX7_bodyFrom cX7_bodyFrom 4 (some .int) :: ([.methodLink RX7 52 yX7_bodyOf, .static yX7_bodyOf, .initialized RX7, .code yX7_bodyOf cX7_bodyOf 3 (some .int), .static yX8_kindAbove, .initialized RX8, .code yX8_kindAbove cX8_kindAbove 1 (some .int), .fieldLink RX8 295 "StairCourt" "ABOVE" "[I"])
def wsX7_note : List Cond := .code yX7_note cX7_note 2 none :: ([.fieldLink RX7 9 "StairCourt$Voices" "traced" "I", .fieldLink RX7 19 "StairCourt$Voices" "trace" "[I"] ++ wsX70)
def wsX7_part : List Cond := .code yX7_part cX7_part 3 (some .int) :: ([.fieldLink RX7 26 "StairCourt$Voices" "m" "I", .fieldLink RX7 29 "StairCourt$Voices" "place" "I", .fieldLink RX7 15 "StairCourt$Voices" "parted" "Z"] ++ wsX70)
def wsX7_above_r1 : List Cond := [Cond.static yX8_kindAbove, Cond.initialized RX8, Cond.code yX8_kindAbove cX8_kindAbove 1 (some .int), Cond.fieldLink RX8 295 "StairCourt" "ABOVE" "[I", Cond.methodLink RX7 41 yX7_bodyFrom, Cond.static yX7_bodyFrom, Cond.initialized RX7, Cond.code yX7_bodyFrom cX7_bodyFrom 4 (some .int), Cond.methodLink RX7 52 yX7_bodyOf, Cond.static yX7_bodyOf, Cond.code yX7_bodyOf cX7_bodyOf 3 (some .int), Cond.methodLink RX7 45 yX7_begin, Cond.instanceMethod yX7_begin, Cond.selects RX7 yX7_begin yX7_begin, Cond.code yX7_begin cX7_begin 4 (some .int), Cond.fieldLink RX7 15 "StairCourt$Voices" "parted" "Z", Cond.fieldLink RX7 29 "StairCourt$Voices" "place" "I", Cond.fieldLink RX7 26 "StairCourt$Voices" "m" "I", Cond.methodLink RX7 58 yX7_note, Cond.instanceMethod yX7_note, Cond.selects RX7 yX7_note yX7_note, Cond.code yX7_note cX7_note 2 none, Cond.fieldLink RX7 9 "StairCourt$Voices" "traced" "I", Cond.fieldLink RX7 19 "StairCourt$Voices" "trace" "[I"]
def wsX7_above_r2 : List Cond := [Cond.methodLink RX7 37 yX7_own, Cond.instanceMethod yX7_own, Cond.selects RX7 yX7_own yX7_own, Cond.methodLink RX7 62 yX7_part, Cond.instanceMethod yX7_part, Cond.selects RX7 yX7_part yX7_part, Cond.code yX7_part cX7_part 3 (some .int), Cond.methodLink RX7 65 yX7_above, Cond.instanceMethod yX7_above, Cond.selects RX7 yX7_above yX7_above, Cond.code yX7_own cX7_own 4 (some .int), Cond.fieldLink RX7 23 "StairCourt$Voices" "kind" "I"]
def wsX7_above : List Cond := .code yX7_above cX7_above 5 (some .int) :: ((wsX7_above_r1 ++ wsX7_above_r2) ++ wsX70)
def wsX7_begin_r1 : List Cond := [Cond.fieldLink RX7 15 "StairCourt$Voices" "parted" "Z", Cond.fieldLink RX7 29 "StairCourt$Voices" "place" "I", Cond.fieldLink RX7 26 "StairCourt$Voices" "m" "I", Cond.methodLink RX7 58 yX7_note, Cond.instanceMethod yX7_note, Cond.selects RX7 yX7_note yX7_note, Cond.initialized RX7, Cond.code yX7_note cX7_note 2 none, Cond.fieldLink RX7 9 "StairCourt$Voices" "traced" "I", Cond.fieldLink RX7 19 "StairCourt$Voices" "trace" "[I", Cond.methodLink RX7 37 yX7_own, Cond.instanceMethod yX7_own, Cond.selects RX7 yX7_own yX7_own, Cond.methodLink RX7 62 yX7_part, Cond.instanceMethod yX7_part, Cond.selects RX7 yX7_part yX7_part, Cond.code yX7_part cX7_part 3 (some .int), Cond.methodLink RX7 65 yX7_above, Cond.instanceMethod yX7_above, Cond.selects RX7 yX7_above yX7_above, Cond.code yX7_above cX7_above 5 (some .int), Cond.static yX8_kindAbove, Cond.initialized RX8, Cond.code yX8_kindAbove cX8_kindAbove 1 (some .int)]
def wsX7_begin_r2 : List Cond := [Cond.fieldLink RX8 295 "StairCourt" "ABOVE" "[I", Cond.methodLink RX7 41 yX7_bodyFrom, Cond.static yX7_bodyFrom, Cond.code yX7_bodyFrom cX7_bodyFrom 4 (some .int), Cond.methodLink RX7 52 yX7_bodyOf, Cond.static yX7_bodyOf, Cond.code yX7_bodyOf cX7_bodyOf 3 (some .int), Cond.methodLink RX7 45 yX7_begin, Cond.instanceMethod yX7_begin, Cond.selects RX7 yX7_begin yX7_begin, Cond.code yX7_own cX7_own 4 (some .int), Cond.fieldLink RX7 23 "StairCourt$Voices" "kind" "I"]
def wsX7_begin : List Cond := .code yX7_begin cX7_begin 4 (some .int) :: ((wsX7_begin_r1 ++ wsX7_begin_r2) ++ wsX70)
def wsX7_own_r1 : List Cond := [Cond.fieldLink RX7 23 "StairCourt$Voices" "kind" "I", Cond.methodLink RX7 41 yX7_bodyFrom, Cond.static yX7_bodyFrom, Cond.initialized RX7, Cond.code yX7_bodyFrom cX7_bodyFrom 4 (some .int), Cond.methodLink RX7 52 yX7_bodyOf, Cond.static yX7_bodyOf, Cond.code yX7_bodyOf cX7_bodyOf 3 (some .int), Cond.static yX8_kindAbove, Cond.initialized RX8, Cond.code yX8_kindAbove cX8_kindAbove 1 (some .int), Cond.fieldLink RX8 295 "StairCourt" "ABOVE" "[I", Cond.methodLink RX7 45 yX7_begin, Cond.instanceMethod yX7_begin, Cond.selects RX7 yX7_begin yX7_begin, Cond.code yX7_above cX7_above 5 (some .int), Cond.code yX7_begin cX7_begin 4 (some .int), Cond.fieldLink RX7 15 "StairCourt$Voices" "parted" "Z", Cond.fieldLink RX7 29 "StairCourt$Voices" "place" "I", Cond.fieldLink RX7 26 "StairCourt$Voices" "m" "I", Cond.methodLink RX7 58 yX7_note, Cond.instanceMethod yX7_note, Cond.selects RX7 yX7_note yX7_note, Cond.code yX7_note cX7_note 2 none]
def wsX7_own_r2 : List Cond := [Cond.fieldLink RX7 9 "StairCourt$Voices" "traced" "I", Cond.fieldLink RX7 19 "StairCourt$Voices" "trace" "[I", Cond.methodLink RX7 37 yX7_own, Cond.instanceMethod yX7_own, Cond.selects RX7 yX7_own yX7_own, Cond.methodLink RX7 62 yX7_part, Cond.instanceMethod yX7_part, Cond.selects RX7 yX7_part yX7_part, Cond.code yX7_part cX7_part 3 (some .int), Cond.methodLink RX7 65 yX7_above, Cond.instanceMethod yX7_above, Cond.selects RX7 yX7_above yX7_above]
def wsX7_own : List Cond := .code yX7_own cX7_own 4 (some .int) :: ((wsX7_own_r1 ++ wsX7_own_r2) ++ wsX70)
def wsX7_sound_r1 : List Cond := [Cond.fieldLink RX7 9 "StairCourt$Voices" "traced" "I", Cond.fieldLink RX7 15 "StairCourt$Voices" "parted" "Z", Cond.fieldLink RX7 32 "StairCourt$Judge" "kind" "I", Cond.fieldLink RX7 23 "StairCourt$Voices" "kind" "I", Cond.fieldLink RX7 35 "StairCourt$Judge" "m" "I", Cond.fieldLink RX7 26 "StairCourt$Voices" "m" "I", Cond.fieldLink RX7 36 "StairCourt$Judge" "place" "I", Cond.fieldLink RX7 29 "StairCourt$Voices" "place" "I", Cond.methodLink RX7 37 yX7_own, Cond.instanceMethod yX7_own, Cond.selects RX7 yX7_own yX7_own, Cond.initialized RX7, Cond.code yX7_own cX7_own 4 (some .int), Cond.methodLink RX7 41 yX7_bodyFrom, Cond.static yX7_bodyFrom, Cond.code yX7_bodyFrom cX7_bodyFrom 4 (some .int), Cond.methodLink RX7 52 yX7_bodyOf, Cond.static yX7_bodyOf, Cond.code yX7_bodyOf cX7_bodyOf 3 (some .int), Cond.static yX8_kindAbove, Cond.initialized RX8, Cond.code yX8_kindAbove cX8_kindAbove 1 (some .int), Cond.fieldLink RX8 295 "StairCourt" "ABOVE" "[I", Cond.methodLink RX7 45 yX7_begin]
def wsX7_sound_r2 : List Cond := [Cond.instanceMethod yX7_begin, Cond.selects RX7 yX7_begin yX7_begin, Cond.code yX7_above cX7_above 5 (some .int), Cond.code yX7_begin cX7_begin 4 (some .int), Cond.methodLink RX7 58 yX7_note, Cond.instanceMethod yX7_note, Cond.selects RX7 yX7_note yX7_note, Cond.code yX7_note cX7_note 2 none, Cond.fieldLink RX7 19 "StairCourt$Voices" "trace" "[I", Cond.methodLink RX7 62 yX7_part, Cond.instanceMethod yX7_part, Cond.selects RX7 yX7_part yX7_part, Cond.code yX7_part cX7_part 3 (some .int), Cond.methodLink RX7 65 yX7_above, Cond.instanceMethod yX7_above, Cond.selects RX7 yX7_above yX7_above]
def wsX7_sound : List Cond := .code yX7_sound cX7_sound 4 (some .int) :: ((wsX7_sound_r1 ++ wsX7_sound_r2) ++ wsX70 ++ wsX20)
def wsX7_bodyAt : List Cond := .code yX7_bodyAt cX7_bodyAt 2 (some .int) :: ([.fieldLink RX7 9 "StairCourt$Voices" "traced" "I", .fieldLink RX7 19 "StairCourt$Voices" "trace" "[I"] ++ wsX70)
def wsX8_init_r1 : List Cond := [Cond.methodLink RX8 3 objectInit, Cond.instanceMethod objectInit, Cond.code objectInit ⟨#[0xb1]⟩ 1 none, Cond.classLink RX8 9 RX0, Cond.instantiable RX0 12, Cond.initialized RX0, Cond.fieldLink RX8 12 "StairCourt" "now" "LStairCourt$Court;", Cond.fieldLink RX8 16 "StairCourt" "kept" "LStairCourt$Court;", Cond.fieldLink RX8 19 "StairCourt" "thought" "LStairCourt$Court;", Cond.classLink RX8 22 RX4, Cond.instantiable RX4 5, Cond.initialized RX4, Cond.fieldLink RX8 24 "StairCourt$Court" "tape" "[I", Cond.fieldLink RX8 31 "StairCourt" "reader" "LStairCourt$Reader;", Cond.classLink RX8 35 RX7, Cond.instantiable RX7 6, Cond.initialized RX7, Cond.fieldLink RX8 38 "StairCourt" "voices" "LStairCourt$Voices;", Cond.classLink RX8 42 RX1, Cond.instantiable RX1 4, Cond.initialized RX1, Cond.fieldLink RX8 45 "StairCourt" "cover" "LStairCourt$Cover;", Cond.classLink RX8 49 RX5, Cond.fieldLink RX8 51 "StairCourt" "sheets" "[LStairCourt$Sheet;"]
def wsX8_init_r2 : List Cond := [Cond.arrayClass .int, Cond.fieldLink RX8 55 "StairCourt" "errors" "[I", Cond.fieldLink RX8 58 "StairCourt" "images" "I", Cond.instantiable RX5 3, Cond.initialized RX5, Cond.methodLink RX8 11 yX0_init, Cond.instanceMethod yX0_init, Cond.code yX0_init cX0_init 2 none, Cond.methodLink RX0 3 objectInit, Cond.classLink RX0 9 RX2, Cond.fieldLink RX0 11 "StairCourt$Court" "judges" "[LStairCourt$Judge;", Cond.fieldLink RX0 17 "StairCourt$Court" "steps" "I", Cond.classLink RX0 21 RX3, Cond.fieldLink RX0 23 "StairCourt$Court" "persons" "[LStairCourt$Person;", Cond.fieldLink RX0 27 "StairCourt$Court" "people" "I", Cond.classLink RX0 30 RX6, Cond.instantiable RX6 3, Cond.initialized RX6, Cond.fieldLink RX0 33 "StairCourt$Court" "heeds" "LStairCourt$Text;", Cond.fieldLink RX0 37 "StairCourt$Court" "bribes" "LStairCourt$Text;", Cond.fieldLink RX0 40 "StairCourt$Court" "tape" "[I", Cond.fieldLink RX0 44 "StairCourt$Court" "taped" "I", Cond.fieldLink RX0 47 "StairCourt$Court" "waits" "[I", Cond.fieldLink RX0 50 "StairCourt$Court" "waiting" "I"]
def wsX8_init_r3 : List Cond := [Cond.fieldLink RX0 53 "StairCourt$Court" "hour" "I", Cond.fieldLink RX0 56 "StairCourt$Court" "z" "I", Cond.instantiable RX2 4, Cond.initialized RX2, Cond.instantiable RX3 4, Cond.initialized RX3, Cond.instanceMethod yX6_init, Cond.code yX6_init cX6_init 1 none, Cond.methodLink RX6 3 objectInit, Cond.fieldLink RX6 9 "StairCourt$Text" "codes" "[I", Cond.fieldLink RX6 15 "StairCourt$Text" "open" "[I", Cond.fieldLink RX6 18 "StairCourt$Text" "length" "I", Cond.methodLink RX0 59 yX2_init, Cond.instanceMethod yX2_init, Cond.code yX2_init cX2_init 2 none, Cond.methodLink RX2 3 objectInit, Cond.fieldLink RX2 9 "StairCourt$Judge" "kind" "I", Cond.fieldLink RX2 15 "StairCourt$Judge" "m" "I", Cond.fieldLink RX2 18 "StairCourt$Judge" "heard" "I", Cond.fieldLink RX2 21 "StairCourt$Judge" "place" "I", Cond.instanceMethod yX3_init, Cond.code yX3_init cX3_init 1 none, Cond.methodLink RX3 1 objectInit, Cond.fieldLink RX3 7 "StairCourt$Person" "at" "I"]
def wsX8_init_r4 : List Cond := [Cond.fieldLink RX3 13 "StairCourt$Person" "legs" "I", Cond.fieldLink RX3 16 "StairCourt$Person" "paid" "I", Cond.fieldLink RX3 19 "StairCourt$Person" "falls" "I", Cond.methodLink RX8 28 yX4_init, Cond.instanceMethod yX4_init, Cond.code yX4_init cX4_init 2 none, Cond.methodLink RX4 3 objectInit, Cond.classLink RX4 9 RX6, Cond.fieldLink RX4 12 "StairCourt$Reader" "draft" "LStairCourt$Text;", Cond.fieldLink RX4 18 "StairCourt$Reader" "at" "I", Cond.fieldLink RX4 22 "StairCourt$Reader" "length" "I", Cond.fieldLink RX4 27 "StairCourt$Reader" "names" "Ljava/lang/String;", Cond.fieldLink RX4 31 "StairCourt$Reader" "tape" "[I", Cond.instanceMethod yX7_init, Cond.code yX7_init cX7_init 1 none, Cond.methodLink RX7 3 objectInit, Cond.fieldLink RX7 9 "StairCourt$Voices" "traced" "I", Cond.fieldLink RX7 15 "StairCourt$Voices" "parted" "Z", Cond.fieldLink RX7 19 "StairCourt$Voices" "trace" "[I", Cond.fieldLink RX7 23 "StairCourt$Voices" "kind" "I", Cond.fieldLink RX7 26 "StairCourt$Voices" "m" "I", Cond.fieldLink RX7 29 "StairCourt$Voices" "place" "I", Cond.instanceMethod yX1_init, Cond.code yX1_init cX1_init 1 none]
def wsX8_init_r5 : List Cond := [Cond.methodLink RX1 3 objectInit, Cond.fieldLink RX1 9 "StairCourt$Cover" "judgesBy" "[I", Cond.fieldLink RX1 15 "StairCourt$Cover" "judgesFrom" "[I", Cond.fieldLink RX1 18 "StairCourt$Cover" "chosen" "[I", Cond.fieldLink RX1 21 "StairCourt$Cover" "all" "I", Cond.instanceMethod yX5_init, Cond.code yX5_init cX5_init 1 none, Cond.methodLink RX5 3 objectInit, Cond.fieldLink RX5 9 "StairCourt$Sheet" "numbers" "[I", Cond.fieldLink RX5 15 "StairCourt$Sheet" "bits" "I", Cond.fieldLink RX5 19 "StairCourt$Sheet" "length" "I"]
def wsX8_init : List Cond := .code yX8_init cX8_init 2 none :: ((wsX8_init_r1 ++ (wsX8_init_r2 ++ (wsX8_init_r3 ++ (wsX8_init_r4 ++ wsX8_init_r5)))) ++ wsX00 ++ wsX80 ++ wsX40 ++ wsX70 ++ wsX10 ++ wsX50 ++ wsX60 ++ wsX20 ++ wsX30)
def wsX8_error : List Cond := .code yX8_error cX8_error 3 (some .int) :: ([.constant RX8 294 (-1000000000), .fieldLink RX8 55 "StairCourt" "errors" "[I", .methodLink RX8 63 yX8_within, .static yX8_within, .initialized RX8, .code yX8_within cX8_within 3 (some .boolean)] ++ wsX80)
def wsX8_step : List Cond := .code yX8_step cX8_step 2 (some .int) :: ([.constant RX8 67 (-1000000001), .fieldLink RX8 12 "StairCourt" "now" "LStairCourt$Court;", .fieldLink RX8 72 "StairCourt$Court" "steps" "I", .constant RX8 75 (-1000000004), .methodLink RX8 63 yX8_within, .static yX8_within, .initialized RX8, .code yX8_within cX8_within 3 (some .boolean), .methodLink RX8 68 yX8_error, .instanceMethod yX8_error, .selects RX8 yX8_error yX8_error, .code yX8_error cX8_error 3 (some .int), .constant RX8 294 (-1000000000), .fieldLink RX8 55 "StairCourt" "errors" "[I", .methodLink RX8 76 yX0_addStep, .instanceMethod yX0_addStep, .selects RX0 yX0_addStep yX0_addStep, .initialized RX0, .code yX0_addStep cX0_addStep 5 (some .int), .fieldLink RX0 17 "StairCourt$Court" "steps" "I", .fieldLink RX0 11 "StairCourt$Court" "judges" "[LStairCourt$Judge;", .fieldLink RX0 79 "StairCourt$Judge" "kind" "I", .fieldLink RX0 82 "StairCourt$Judge" "m" "I", .fieldLink RX0 85 "StairCourt$Judge" "heard" "I"] ++ wsX80 ++ wsX00 ++ wsX20)
def wsX8_stepIs_r1 : List Cond := [Cond.fieldLink RX8 12 "StairCourt" "now" "LStairCourt$Court;", Cond.constant RX8 67 (-1000000001), Cond.fieldLink RX8 84 "StairCourt$Judge" "kind" "I", Cond.fieldLink RX8 89 "StairCourt$Judge" "m" "I", Cond.fieldLink RX8 92 "StairCourt$Judge" "heard" "I", Cond.methodLink RX8 80 yX0_judgeOn, Cond.instanceMethod yX0_judgeOn, Cond.selects RX0 yX0_judgeOn yX0_judgeOn, Cond.initialized RX0, Cond.code yX0_judgeOn cX0_judgeOn 2 (some (.object "StairCourt$Judge")), Cond.fieldLink RX0 17 "StairCourt$Court" "steps" "I", Cond.fieldLink RX0 11 "StairCourt$Court" "judges" "[LStairCourt$Judge;", Cond.methodLink RX8 63 yX8_within, Cond.static yX8_within, Cond.initialized RX8, Cond.code yX8_within cX8_within 3 (some .boolean), Cond.methodLink RX8 68 yX8_error, Cond.instanceMethod yX8_error, Cond.selects RX8 yX8_error yX8_error, Cond.code yX8_error cX8_error 3 (some .int), Cond.constant RX8 294 (-1000000000), Cond.fieldLink RX8 55 "StairCourt" "errors" "[I", Cond.methodLink RX8 95 yX0_bribeOf, Cond.instanceMethod yX0_bribeOf]
def wsX8_stepIs_r2 : List Cond := [Cond.selects RX0 yX0_bribeOf yX0_bribeOf, Cond.code yX0_bribeOf cX0_bribeOf 2 (some .int), Cond.fieldLink RX0 128 "StairCourt$Judge" "place" "I", Cond.fieldLink RX0 79 "StairCourt$Judge" "kind" "I", Cond.methodLink RX0 135 yX2_wants, Cond.instanceMethod yX2_wants, Cond.selects RX2 yX2_wants yX2_wants, Cond.initialized RX2, Cond.code yX2_wants cX2_wants 2 (some .int), Cond.fieldLink RX2 18 "StairCourt$Judge" "heard" "I", Cond.fieldLink RX2 9 "StairCourt$Judge" "kind" "I", Cond.fieldLink RX2 15 "StairCourt$Judge" "m" "I", Cond.fieldLink RX2 21 "StairCourt$Judge" "place" "I", Cond.methodLink RX0 131 yX0_gives, Cond.instanceMethod yX0_gives, Cond.selects RX0 yX0_gives yX0_gives, Cond.code yX0_gives cX0_gives 5 (some .int), Cond.fieldLink RX0 33 "StairCourt$Court" "heeds" "LStairCourt$Text;", Cond.fieldLink RX0 37 "StairCourt$Court" "bribes" "LStairCourt$Text;", Cond.methodLink RX0 104 yX6_isThere, Cond.instanceMethod yX6_isThere, Cond.selects RX6 yX6_isThere yX6_isThere, Cond.initialized RX6, Cond.code yX6_isThere cX6_isThere 1 (some .boolean)]
def wsX8_stepIs_r3 : List Cond := [Cond.fieldLink RX6 18 "StairCourt$Text" "length" "I", Cond.methodLink RX0 108 yX6_work, Cond.instanceMethod yX6_work, Cond.selects RX6 yX6_work yX6_work, Cond.code yX6_work cX6_work 7 (some .int), Cond.fieldLink RX6 9 "StairCourt$Text" "codes" "[I", Cond.fieldLink RX6 15 "StairCourt$Text" "open" "[I", Cond.methodLink RX6 28 yX6_nameAt, Cond.static yX6_nameAt, Cond.code yX6_nameAt cX6_nameAt 4 (some .int), Cond.methodLink RX6 32 yX6_join, Cond.static yX6_join, Cond.code yX6_join cX6_join 3 (some .int), Cond.methodLink RX0 112 yX0_hold, Cond.static yX0_hold, Cond.code yX0_hold cX0_hold 2 (some .int), Cond.methodLink RX0 116 Lib.Math.min.name, Cond.static Lib.Math.min.name, Cond.initialized "java/lang/Math", Cond.code Lib.Math.min.name Lib.Math.min.code 2 (some .int), Cond.methodLink RX0 121 Lib.Math.max.name, Cond.static Lib.Math.max.name, Cond.code Lib.Math.max.name Lib.Math.max.code 2 (some .int)]
def wsX8_stepIs : List Cond := .code yX8_stepIs cX8_stepIs 4 (some .int) :: ((wsX8_stepIs_r1 ++ (wsX8_stepIs_r2 ++ wsX8_stepIs_r3)) ++ wsX80 ++ wsX20 ++ wsX00 ++ wsX60)
def wsX8_become : List Cond := .code yX8_become cX8_become 5 (some .int) :: ([.fieldLink RX8 12 "StairCourt" "now" "LStairCourt$Court;", .constant RX8 67 (-1000000001), .fieldLink RX8 84 "StairCourt$Judge" "kind" "I", .fieldLink RX8 89 "StairCourt$Judge" "m" "I", .methodLink RX8 80 yX0_judgeOn, .instanceMethod yX0_judgeOn, .selects RX0 yX0_judgeOn yX0_judgeOn, .initialized RX0, .code yX0_judgeOn cX0_judgeOn 2 (some (.object "StairCourt$Judge")), .fieldLink RX0 17 "StairCourt$Court" "steps" "I", .fieldLink RX0 11 "StairCourt$Court" "judges" "[LStairCourt$Judge;", .methodLink RX8 63 yX8_within, .static yX8_within, .initialized RX8, .code yX8_within cX8_within 3 (some .boolean), .methodLink RX8 68 yX8_error, .instanceMethod yX8_error, .selects RX8 yX8_error yX8_error, .code yX8_error cX8_error 3 (some .int), .constant RX8 294 (-1000000000), .fieldLink RX8 55 "StairCourt" "errors" "[I"] ++ wsX80 ++ wsX20 ++ wsX00)
def wsX8_isUnder : List Cond := .code yX8_isUnder cX8_isUnder 4 (some .boolean) :: ([.methodLink RX8 298 yX8_kindAbove, .static yX8_kindAbove, .initialized RX8, .code yX8_kindAbove cX8_kindAbove 1 (some .int), .fieldLink RX8 295 "StairCourt" "ABOVE" "[I"])
def wsX8_as_r1 : List Cond := [Cond.fieldLink RX8 12 "StairCourt" "now" "LStairCourt$Court;", Cond.constant RX8 67 (-1000000001), Cond.fieldLink RX8 84 "StairCourt$Judge" "kind" "I", Cond.fieldLink RX8 89 "StairCourt$Judge" "m" "I", Cond.constant RX8 103 (-1000000005), Cond.methodLink RX8 80 yX0_judgeOn, Cond.instanceMethod yX0_judgeOn, Cond.selects RX0 yX0_judgeOn yX0_judgeOn, Cond.initialized RX0, Cond.code yX0_judgeOn cX0_judgeOn 2 (some (.object "StairCourt$Judge")), Cond.fieldLink RX0 17 "StairCourt$Court" "steps" "I", Cond.fieldLink RX0 11 "StairCourt$Court" "judges" "[LStairCourt$Judge;", Cond.methodLink RX8 63 yX8_within, Cond.static yX8_within, Cond.initialized RX8, Cond.code yX8_within cX8_within 3 (some .boolean), Cond.methodLink RX8 68 yX8_error, Cond.instanceMethod yX8_error, Cond.selects RX8 yX8_error yX8_error, Cond.code yX8_error cX8_error 3 (some .int), Cond.constant RX8 294 (-1000000000), Cond.fieldLink RX8 55 "StairCourt" "errors" "[I", Cond.methodLink RX8 99 yX8_isUnder, Cond.static yX8_isUnder]
def wsX8_as_r2 : List Cond := [Cond.code yX8_isUnder cX8_isUnder 4 (some .boolean), Cond.methodLink RX8 298 yX8_kindAbove, Cond.static yX8_kindAbove, Cond.code yX8_kindAbove cX8_kindAbove 1 (some .int), Cond.fieldLink RX8 295 "StairCourt" "ABOVE" "[I"]
def wsX8_as : List Cond := .code yX8_as cX8_as 4 (some .int) :: ((wsX8_as_r1 ++ wsX8_as_r2) ++ wsX80 ++ wsX20 ++ wsX00)
def wsX8_person_r1 : List Cond := [Cond.constant RX8 67 (-1000000001), Cond.fieldLink RX8 12 "StairCourt" "now" "LStairCourt$Court;", Cond.fieldLink RX8 104 "StairCourt$Court" "people" "I", Cond.constant RX8 75 (-1000000004), Cond.methodLink RX8 63 yX8_within, Cond.static yX8_within, Cond.initialized RX8, Cond.code yX8_within cX8_within 3 (some .boolean), Cond.methodLink RX8 68 yX8_error, Cond.instanceMethod yX8_error, Cond.selects RX8 yX8_error yX8_error, Cond.code yX8_error cX8_error 3 (some .int), Cond.constant RX8 294 (-1000000000), Cond.fieldLink RX8 55 "StairCourt" "errors" "[I", Cond.methodLink RX8 107 yX0_addPerson, Cond.instanceMethod yX0_addPerson, Cond.selects RX0 yX0_addPerson yX0_addPerson, Cond.initialized RX0, Cond.code yX0_addPerson cX0_addPerson 4 (some .int), Cond.fieldLink RX0 27 "StairCourt$Court" "people" "I", Cond.fieldLink RX0 23 "StairCourt$Court" "persons" "[LStairCourt$Person;", Cond.fieldLink RX0 88 "StairCourt$Person" "at" "I", Cond.fieldLink RX0 91 "StairCourt$Person" "legs" "I", Cond.fieldLink RX0 94 "StairCourt$Person" "paid" "I"]
def wsX8_person_r2 : List Cond := [Cond.fieldLink RX0 97 "StairCourt$Person" "falls" "I"]
def wsX8_person : List Cond := .code yX8_person cX8_person 2 (some .int) :: ((wsX8_person_r1 ++ wsX8_person_r2) ++ wsX80 ++ wsX00 ++ wsX30)
def wsX8_personIs_r1 : List Cond := [Cond.fieldLink RX8 12 "StairCourt" "now" "LStairCourt$Court;", Cond.constant RX8 67 (-1000000001), Cond.fieldLink RX8 114 "StairCourt$Person" "at" "I", Cond.fieldLink RX8 119 "StairCourt$Person" "legs" "I", Cond.fieldLink RX8 122 "StairCourt$Person" "paid" "I", Cond.fieldLink RX8 125 "StairCourt$Person" "falls" "I", Cond.methodLink RX8 110 yX0_personOf, Cond.instanceMethod yX0_personOf, Cond.selects RX0 yX0_personOf yX0_personOf, Cond.initialized RX0, Cond.code yX0_personOf cX0_personOf 2 (some (.object "StairCourt$Person")), Cond.fieldLink RX0 27 "StairCourt$Court" "people" "I", Cond.fieldLink RX0 23 "StairCourt$Court" "persons" "[LStairCourt$Person;", Cond.methodLink RX8 63 yX8_within, Cond.static yX8_within, Cond.initialized RX8, Cond.code yX8_within cX8_within 3 (some .boolean), Cond.methodLink RX8 68 yX8_error, Cond.instanceMethod yX8_error, Cond.selects RX8 yX8_error yX8_error, Cond.code yX8_error cX8_error 3 (some .int), Cond.constant RX8 294 (-1000000000), Cond.fieldLink RX8 55 "StairCourt" "errors" "[I", Cond.methodLink RX8 128 yX0_isUp]
def wsX8_personIs_r2 : List Cond := [Cond.instanceMethod yX0_isUp, Cond.selects RX0 yX0_isUp yX0_isUp, Cond.code yX0_isUp cX0_isUp 2 (some .boolean), Cond.fieldLink RX0 88 "StairCourt$Person" "at" "I", Cond.fieldLink RX0 17 "StairCourt$Court" "steps" "I"]
def wsX8_personIs : List Cond := .code yX8_personIs cX8_personIs 4 (some .int) :: ((wsX8_personIs_r1 ++ wsX8_personIs_r2) ++ wsX80 ++ wsX30 ++ wsX00)
def wsX8_rests : List Cond := .code yX8_rests cX8_rests 5 (some .int) :: ([.fieldLink RX8 12 "StairCourt" "now" "LStairCourt$Court;", .constant RX8 67 (-1000000001), .fieldLink RX8 119 "StairCourt$Person" "legs" "I", .methodLink RX8 110 yX0_personOf, .instanceMethod yX0_personOf, .selects RX0 yX0_personOf yX0_personOf, .initialized RX0, .code yX0_personOf cX0_personOf 2 (some (.object "StairCourt$Person")), .fieldLink RX0 27 "StairCourt$Court" "people" "I", .fieldLink RX0 23 "StairCourt$Court" "persons" "[LStairCourt$Person;", .methodLink RX8 63 yX8_within, .static yX8_within, .initialized RX8, .code yX8_within cX8_within 3 (some .boolean), .methodLink RX8 68 yX8_error, .instanceMethod yX8_error, .selects RX8 yX8_error yX8_error, .code yX8_error cX8_error 3 (some .int), .constant RX8 294 (-1000000000), .fieldLink RX8 55 "StairCourt" "errors" "[I"] ++ wsX80 ++ wsX30 ++ wsX00)
def wsX8_carry : List Cond := .code yX8_carry cX8_carry 5 (some .int) :: ([.fieldLink RX8 12 "StairCourt" "now" "LStairCourt$Court;", .fieldLink RX8 72 "StairCourt$Court" "steps" "I", .constant RX8 67 (-1000000001), .fieldLink RX8 114 "StairCourt$Person" "at" "I", .methodLink RX8 110 yX0_personOf, .instanceMethod yX0_personOf, .selects RX0 yX0_personOf yX0_personOf, .initialized RX0, .code yX0_personOf cX0_personOf 2 (some (.object "StairCourt$Person")), .fieldLink RX0 27 "StairCourt$Court" "people" "I", .fieldLink RX0 23 "StairCourt$Court" "persons" "[LStairCourt$Person;", .methodLink RX8 63 yX8_within, .static yX8_within, .initialized RX8, .code yX8_within cX8_within 3 (some .boolean), .methodLink RX8 68 yX8_error, .instanceMethod yX8_error, .selects RX8 yX8_error yX8_error, .code yX8_error cX8_error 3 (some .int), .constant RX8 294 (-1000000000), .fieldLink RX8 55 "StairCourt" "errors" "[I"] ++ wsX80 ++ wsX00 ++ wsX30)
def wsX8_content_r1 : List Cond := [Cond.fieldLink RX8 12 "StairCourt" "now" "LStairCourt$Court;", Cond.constant RX8 67 (-1000000001), Cond.methodLink RX8 80 yX0_judgeOn, Cond.instanceMethod yX0_judgeOn, Cond.selects RX0 yX0_judgeOn yX0_judgeOn, Cond.initialized RX0, Cond.code yX0_judgeOn cX0_judgeOn 2 (some (.object "StairCourt$Judge")), Cond.fieldLink RX0 17 "StairCourt$Court" "steps" "I", Cond.fieldLink RX0 11 "StairCourt$Court" "judges" "[LStairCourt$Judge;", Cond.methodLink RX8 132 yX8_isWord, Cond.static yX8_isWord, Cond.initialized RX8, Cond.code yX8_isWord cX8_isWord 1 (some .boolean), Cond.methodLink RX8 63 yX8_within, Cond.static yX8_within, Cond.code yX8_within cX8_within 3 (some .boolean), Cond.methodLink RX8 68 yX8_error, Cond.instanceMethod yX8_error, Cond.selects RX8 yX8_error yX8_error, Cond.code yX8_error cX8_error 3 (some .int), Cond.constant RX8 294 (-1000000000), Cond.fieldLink RX8 55 "StairCourt" "errors" "[I", Cond.methodLink RX8 136 yX0_isContent, Cond.instanceMethod yX0_isContent]
def wsX8_content_r2 : List Cond := [Cond.selects RX0 yX0_isContent yX0_isContent, Cond.code yX0_isContent cX0_isContent 3 (some .boolean), Cond.fieldLink RX0 53 "StairCourt$Court" "hour" "I", Cond.fieldLink RX0 128 "StairCourt$Judge" "place" "I", Cond.fieldLink RX0 82 "StairCourt$Judge" "m" "I", Cond.methodLink RX0 124 yX2_nods, Cond.instanceMethod yX2_nods, Cond.selects RX2 yX2_nods yX2_nods, Cond.initialized RX2, Cond.code yX2_nods cX2_nods 3 (some .boolean), Cond.fieldLink RX2 9 "StairCourt$Judge" "kind" "I", Cond.fieldLink RX2 15 "StairCourt$Judge" "m" "I", Cond.fieldLink RX2 21 "StairCourt$Judge" "place" "I", Cond.fieldLink RX2 18 "StairCourt$Judge" "heard" "I", Cond.methodLink RX2 24 yX2_nodsStrictly, Cond.instanceMethod yX2_nodsStrictly, Cond.selects RX2 yX2_nodsStrictly yX2_nodsStrictly, Cond.code yX2_nodsStrictly cX2_nodsStrictly 2 (some .boolean), Cond.methodLink RX2 31 yX2_nodsPlainly, Cond.instanceMethod yX2_nodsPlainly, Cond.selects RX2 yX2_nodsPlainly yX2_nodsPlainly, Cond.code yX2_nodsPlainly cX2_nodsPlainly 2 (some .boolean), Cond.methodLink RX2 28 yX2_nodsMildly, Cond.instanceMethod yX2_nodsMildly]
def wsX8_content_r3 : List Cond := [Cond.selects RX2 yX2_nodsMildly yX2_nodsMildly, Cond.code yX2_nodsMildly cX2_nodsMildly 2 (some .boolean), Cond.methodLink RX0 131 yX0_gives, Cond.instanceMethod yX0_gives, Cond.selects RX0 yX0_gives yX0_gives, Cond.code yX0_gives cX0_gives 5 (some .int), Cond.fieldLink RX0 33 "StairCourt$Court" "heeds" "LStairCourt$Text;", Cond.fieldLink RX0 37 "StairCourt$Court" "bribes" "LStairCourt$Text;", Cond.methodLink RX0 104 yX6_isThere, Cond.instanceMethod yX6_isThere, Cond.selects RX6 yX6_isThere yX6_isThere, Cond.initialized RX6, Cond.code yX6_isThere cX6_isThere 1 (some .boolean), Cond.fieldLink RX6 18 "StairCourt$Text" "length" "I", Cond.methodLink RX0 108 yX6_work, Cond.instanceMethod yX6_work, Cond.selects RX6 yX6_work yX6_work, Cond.code yX6_work cX6_work 7 (some .int), Cond.fieldLink RX6 9 "StairCourt$Text" "codes" "[I", Cond.fieldLink RX6 15 "StairCourt$Text" "open" "[I", Cond.methodLink RX6 28 yX6_nameAt, Cond.static yX6_nameAt, Cond.code yX6_nameAt cX6_nameAt 4 (some .int), Cond.methodLink RX6 32 yX6_join]
def wsX8_content_r4 : List Cond := [Cond.static yX6_join, Cond.code yX6_join cX6_join 3 (some .int), Cond.methodLink RX0 112 yX0_hold, Cond.static yX0_hold, Cond.code yX0_hold cX0_hold 2 (some .int), Cond.methodLink RX0 116 Lib.Math.min.name, Cond.static Lib.Math.min.name, Cond.initialized "java/lang/Math", Cond.code Lib.Math.min.name Lib.Math.min.code 2 (some .int), Cond.methodLink RX0 121 Lib.Math.max.name, Cond.static Lib.Math.max.name, Cond.code Lib.Math.max.name Lib.Math.max.code 2 (some .int)]
def wsX8_content : List Cond := .code yX8_content cX8_content 4 (some .int) :: ((wsX8_content_r1 ++ (wsX8_content_r2 ++ (wsX8_content_r3 ++ wsX8_content_r4))) ++ wsX80 ++ wsX00 ++ wsX20 ++ wsX60)
def wsX8_say_r1 : List Cond := [Cond.fieldLink RX8 12 "StairCourt" "now" "LStairCourt$Court;", Cond.constant RX8 67 (-1000000001), Cond.constant RX8 143 (-1000000003), Cond.fieldLink RX8 114 "StairCourt$Person" "at" "I", Cond.methodLink RX8 110 yX0_personOf, Cond.instanceMethod yX0_personOf, Cond.selects RX0 yX0_personOf yX0_personOf, Cond.initialized RX0, Cond.code yX0_personOf cX0_personOf 2 (some (.object "StairCourt$Person")), Cond.fieldLink RX0 27 "StairCourt$Court" "people" "I", Cond.fieldLink RX0 23 "StairCourt$Court" "persons" "[LStairCourt$Person;", Cond.methodLink RX8 132 yX8_isWord, Cond.static yX8_isWord, Cond.initialized RX8, Cond.code yX8_isWord cX8_isWord 1 (some .boolean), Cond.methodLink RX8 63 yX8_within, Cond.static yX8_within, Cond.code yX8_within cX8_within 3 (some .boolean), Cond.methodLink RX8 68 yX8_error, Cond.instanceMethod yX8_error, Cond.selects RX8 yX8_error yX8_error, Cond.code yX8_error cX8_error 3 (some .int), Cond.constant RX8 294 (-1000000000), Cond.fieldLink RX8 55 "StairCourt" "errors" "[I"]
def wsX8_say_r2 : List Cond := [Cond.methodLink RX8 140 yX0_canGo, Cond.instanceMethod yX0_canGo, Cond.selects RX0 yX0_canGo yX0_canGo, Cond.code yX0_canGo cX0_canGo 2 (some .boolean), Cond.fieldLink RX0 91 "StairCourt$Person" "legs" "I", Cond.methodLink RX0 100 yX0_isUp, Cond.instanceMethod yX0_isUp, Cond.selects RX0 yX0_isUp yX0_isUp, Cond.code yX0_isUp cX0_isUp 2 (some .boolean), Cond.fieldLink RX0 88 "StairCourt$Person" "at" "I", Cond.fieldLink RX0 17 "StairCourt$Court" "steps" "I", Cond.methodLink RX8 144 yX0_hear, Cond.instanceMethod yX0_hear, Cond.selects RX0 yX0_hear yX0_hear, Cond.code yX0_hear cX0_hear 5 (some .boolean), Cond.fieldLink RX0 85 "StairCourt$Judge" "heard" "I", Cond.methodLink RX0 116 Lib.Math.min.name, Cond.static Lib.Math.min.name, Cond.initialized "java/lang/Math", Cond.code Lib.Math.min.name Lib.Math.min.code 2 (some .int), Cond.methodLink RX0 121 Lib.Math.max.name, Cond.static Lib.Math.max.name, Cond.code Lib.Math.max.name Lib.Math.max.code 2 (some .int), Cond.fieldLink RX0 97 "StairCourt$Person" "falls" "I"]
def wsX8_say_r3 : List Cond := [Cond.methodLink RX0 143 yX0_judgeOn, Cond.instanceMethod yX0_judgeOn, Cond.selects RX0 yX0_judgeOn yX0_judgeOn, Cond.code yX0_judgeOn cX0_judgeOn 2 (some (.object "StairCourt$Judge")), Cond.fieldLink RX0 11 "StairCourt$Court" "judges" "[LStairCourt$Judge;", Cond.methodLink RX0 139 yX0_isContent, Cond.instanceMethod yX0_isContent, Cond.selects RX0 yX0_isContent yX0_isContent, Cond.code yX0_isContent cX0_isContent 3 (some .boolean), Cond.fieldLink RX0 53 "StairCourt$Court" "hour" "I", Cond.fieldLink RX0 128 "StairCourt$Judge" "place" "I", Cond.fieldLink RX0 82 "StairCourt$Judge" "m" "I", Cond.methodLink RX0 124 yX2_nods, Cond.instanceMethod yX2_nods, Cond.selects RX2 yX2_nods yX2_nods, Cond.initialized RX2, Cond.code yX2_nods cX2_nods 3 (some .boolean), Cond.fieldLink RX2 9 "StairCourt$Judge" "kind" "I", Cond.fieldLink RX2 15 "StairCourt$Judge" "m" "I", Cond.fieldLink RX2 21 "StairCourt$Judge" "place" "I", Cond.fieldLink RX2 18 "StairCourt$Judge" "heard" "I", Cond.methodLink RX2 24 yX2_nodsStrictly, Cond.instanceMethod yX2_nodsStrictly, Cond.selects RX2 yX2_nodsStrictly yX2_nodsStrictly]
def wsX8_say_r4 : List Cond := [Cond.code yX2_nodsStrictly cX2_nodsStrictly 2 (some .boolean), Cond.methodLink RX2 31 yX2_nodsPlainly, Cond.instanceMethod yX2_nodsPlainly, Cond.selects RX2 yX2_nodsPlainly yX2_nodsPlainly, Cond.code yX2_nodsPlainly cX2_nodsPlainly 2 (some .boolean), Cond.methodLink RX2 28 yX2_nodsMildly, Cond.instanceMethod yX2_nodsMildly, Cond.selects RX2 yX2_nodsMildly yX2_nodsMildly, Cond.code yX2_nodsMildly cX2_nodsMildly 2 (some .boolean), Cond.methodLink RX0 131 yX0_gives, Cond.instanceMethod yX0_gives, Cond.selects RX0 yX0_gives yX0_gives, Cond.code yX0_gives cX0_gives 5 (some .int), Cond.fieldLink RX0 33 "StairCourt$Court" "heeds" "LStairCourt$Text;", Cond.fieldLink RX0 37 "StairCourt$Court" "bribes" "LStairCourt$Text;", Cond.methodLink RX0 104 yX6_isThere, Cond.instanceMethod yX6_isThere, Cond.selects RX6 yX6_isThere yX6_isThere, Cond.initialized RX6, Cond.code yX6_isThere cX6_isThere 1 (some .boolean), Cond.fieldLink RX6 18 "StairCourt$Text" "length" "I", Cond.methodLink RX0 108 yX6_work, Cond.instanceMethod yX6_work, Cond.selects RX6 yX6_work yX6_work]
def wsX8_say_r5 : List Cond := [Cond.code yX6_work cX6_work 7 (some .int), Cond.fieldLink RX6 9 "StairCourt$Text" "codes" "[I", Cond.fieldLink RX6 15 "StairCourt$Text" "open" "[I", Cond.methodLink RX6 28 yX6_nameAt, Cond.static yX6_nameAt, Cond.code yX6_nameAt cX6_nameAt 4 (some .int), Cond.methodLink RX6 32 yX6_join, Cond.static yX6_join, Cond.code yX6_join cX6_join 3 (some .int), Cond.methodLink RX0 112 yX0_hold, Cond.static yX0_hold, Cond.code yX0_hold cX0_hold 2 (some .int)]
def wsX8_say : List Cond := .code yX8_say cX8_say 4 (some .int) :: ((wsX8_say_r1 ++ (wsX8_say_r2 ++ (wsX8_say_r3 ++ (wsX8_say_r4 ++ wsX8_say_r5)))) ++ wsX80 ++ wsX30 ++ wsX00 ++ wsX20 ++ wsX60)
def wsX8_bribe_r1 : List Cond := [Cond.fieldLink RX8 12 "StairCourt" "now" "LStairCourt$Court;", Cond.constant RX8 67 (-1000000001), Cond.fieldLink RX8 114 "StairCourt$Person" "at" "I", Cond.constant RX8 143 (-1000000003), Cond.constant RX8 148 (99999), Cond.fieldLink RX8 122 "StairCourt$Person" "paid" "I", Cond.methodLink RX8 149 Lib.Math.min.name, Cond.static Lib.Math.min.name, Cond.initialized "java/lang/Math", Cond.code Lib.Math.min.name Lib.Math.min.code 2 (some .int), Cond.fieldLink RX8 119 "StairCourt$Person" "legs" "I", Cond.methodLink RX8 110 yX0_personOf, Cond.instanceMethod yX0_personOf, Cond.selects RX0 yX0_personOf yX0_personOf, Cond.initialized RX0, Cond.code yX0_personOf cX0_personOf 2 (some (.object "StairCourt$Person")), Cond.fieldLink RX0 27 "StairCourt$Court" "people" "I", Cond.fieldLink RX0 23 "StairCourt$Court" "persons" "[LStairCourt$Person;", Cond.methodLink RX8 68 yX8_error, Cond.instanceMethod yX8_error, Cond.selects RX8 yX8_error yX8_error, Cond.initialized RX8, Cond.code yX8_error cX8_error 3 (some .int), Cond.constant RX8 294 (-1000000000)]
def wsX8_bribe_r2 : List Cond := [Cond.fieldLink RX8 55 "StairCourt" "errors" "[I", Cond.methodLink RX8 63 yX8_within, Cond.static yX8_within, Cond.code yX8_within cX8_within 3 (some .boolean), Cond.methodLink RX8 80 yX0_judgeOn, Cond.instanceMethod yX0_judgeOn, Cond.selects RX0 yX0_judgeOn yX0_judgeOn, Cond.code yX0_judgeOn cX0_judgeOn 2 (some (.object "StairCourt$Judge")), Cond.fieldLink RX0 17 "StairCourt$Court" "steps" "I", Cond.fieldLink RX0 11 "StairCourt$Court" "judges" "[LStairCourt$Judge;", Cond.methodLink RX8 140 yX0_canGo, Cond.instanceMethod yX0_canGo, Cond.selects RX0 yX0_canGo yX0_canGo, Cond.code yX0_canGo cX0_canGo 2 (some .boolean), Cond.fieldLink RX0 91 "StairCourt$Person" "legs" "I", Cond.methodLink RX0 100 yX0_isUp, Cond.instanceMethod yX0_isUp, Cond.selects RX0 yX0_isUp yX0_isUp, Cond.code yX0_isUp cX0_isUp 2 (some .boolean), Cond.fieldLink RX0 88 "StairCourt$Person" "at" "I", Cond.methodLink RX8 95 yX0_bribeOf, Cond.instanceMethod yX0_bribeOf, Cond.selects RX0 yX0_bribeOf yX0_bribeOf, Cond.code yX0_bribeOf cX0_bribeOf 2 (some .int)]
def wsX8_bribe_r3 : List Cond := [Cond.fieldLink RX0 128 "StairCourt$Judge" "place" "I", Cond.fieldLink RX0 79 "StairCourt$Judge" "kind" "I", Cond.methodLink RX0 135 yX2_wants, Cond.instanceMethod yX2_wants, Cond.selects RX2 yX2_wants yX2_wants, Cond.initialized RX2, Cond.code yX2_wants cX2_wants 2 (some .int), Cond.fieldLink RX2 18 "StairCourt$Judge" "heard" "I", Cond.fieldLink RX2 9 "StairCourt$Judge" "kind" "I", Cond.fieldLink RX2 15 "StairCourt$Judge" "m" "I", Cond.fieldLink RX2 21 "StairCourt$Judge" "place" "I", Cond.methodLink RX0 131 yX0_gives, Cond.instanceMethod yX0_gives, Cond.selects RX0 yX0_gives yX0_gives, Cond.code yX0_gives cX0_gives 5 (some .int), Cond.fieldLink RX0 33 "StairCourt$Court" "heeds" "LStairCourt$Text;", Cond.fieldLink RX0 37 "StairCourt$Court" "bribes" "LStairCourt$Text;", Cond.methodLink RX0 104 yX6_isThere, Cond.instanceMethod yX6_isThere, Cond.selects RX6 yX6_isThere yX6_isThere, Cond.initialized RX6, Cond.code yX6_isThere cX6_isThere 1 (some .boolean), Cond.fieldLink RX6 18 "StairCourt$Text" "length" "I", Cond.methodLink RX0 108 yX6_work]
def wsX8_bribe_r4 : List Cond := [Cond.instanceMethod yX6_work, Cond.selects RX6 yX6_work yX6_work, Cond.code yX6_work cX6_work 7 (some .int), Cond.fieldLink RX6 9 "StairCourt$Text" "codes" "[I", Cond.fieldLink RX6 15 "StairCourt$Text" "open" "[I", Cond.methodLink RX6 28 yX6_nameAt, Cond.static yX6_nameAt, Cond.code yX6_nameAt cX6_nameAt 4 (some .int), Cond.methodLink RX6 32 yX6_join, Cond.static yX6_join, Cond.code yX6_join cX6_join 3 (some .int), Cond.methodLink RX0 112 yX0_hold, Cond.static yX0_hold, Cond.code yX0_hold cX0_hold 2 (some .int), Cond.methodLink RX0 116 Lib.Math.min.name, Cond.methodLink RX0 121 Lib.Math.max.name, Cond.static Lib.Math.max.name, Cond.code Lib.Math.max.name Lib.Math.max.code 2 (some .int)]
def wsX8_bribe : List Cond := .code yX8_bribe cX8_bribe 5 (some .int) :: ((wsX8_bribe_r1 ++ (wsX8_bribe_r2 ++ (wsX8_bribe_r3 ++ wsX8_bribe_r4))) ++ wsX80 ++ wsX30 ++ wsX00 ++ wsX20 ++ wsX60)
def wsX8_feed : List Cond := .code yX8_feed cX8_feed 5 (some .int) :: ([.constant RX8 67 (-1000000001), .fieldLink RX8 12 "StairCourt" "now" "LStairCourt$Court;", .fieldLink RX8 154 "StairCourt$Court" "taped" "I", .constant RX8 75 (-1000000004), .fieldLink RX8 24 "StairCourt$Court" "tape" "[I", .methodLink RX8 63 yX8_within, .static yX8_within, .initialized RX8, .code yX8_within cX8_within 3 (some .boolean), .methodLink RX8 68 yX8_error, .instanceMethod yX8_error, .selects RX8 yX8_error yX8_error, .code yX8_error cX8_error 3 (some .int), .constant RX8 294 (-1000000000), .fieldLink RX8 55 "StairCourt" "errors" "[I"] ++ wsX80 ++ wsX00)
def wsX8_text_r1 : List Cond := [Cond.fieldLink RX8 12 "StairCourt" "now" "LStairCourt$Court;", Cond.constant RX8 67 (-1000000001), Cond.fieldLink RX8 31 "StairCourt" "reader" "LStairCourt$Reader;", Cond.fieldLink RX8 154 "StairCourt$Court" "taped" "I", Cond.fieldLink RX8 169 "StairCourt$Reader" "at" "I", Cond.fieldLink RX8 170 "StairCourt$Reader" "draft" "LStairCourt$Text;", Cond.methodLink RX8 157 yX0_textOf, Cond.instanceMethod yX0_textOf, Cond.selects RX0 yX0_textOf yX0_textOf, Cond.initialized RX0, Cond.code yX0_textOf cX0_textOf 2 (some (.object "StairCourt$Text")), Cond.fieldLink RX0 33 "StairCourt$Court" "heeds" "LStairCourt$Text;", Cond.fieldLink RX0 37 "StairCourt$Court" "bribes" "LStairCourt$Text;", Cond.methodLink RX8 68 yX8_error, Cond.instanceMethod yX8_error, Cond.selects RX8 yX8_error yX8_error, Cond.initialized RX8, Cond.code yX8_error cX8_error 3 (some .int), Cond.constant RX8 294 (-1000000000), Cond.fieldLink RX8 55 "StairCourt" "errors" "[I", Cond.methodLink RX8 63 yX8_within, Cond.static yX8_within, Cond.code yX8_within cX8_within 3 (some .boolean), Cond.methodLink RX8 165 yX4_read]
def wsX8_text_r2 : List Cond := [Cond.instanceMethod yX4_read, Cond.selects RX4 yX4_read yX4_read, Cond.initialized RX4, Cond.code yX4_read cX4_read 3 (some .boolean), Cond.fieldLink RX4 12 "StairCourt$Reader" "draft" "LStairCourt$Text;", Cond.fieldLink RX4 18 "StairCourt$Reader" "at" "I", Cond.fieldLink RX4 31 "StairCourt$Reader" "tape" "[I", Cond.methodLink RX4 38 Lib.Math.min.name, Cond.static Lib.Math.min.name, Cond.initialized "java/lang/Math", Cond.code Lib.Math.min.name Lib.Math.min.code 2 (some .int), Cond.fieldLink RX4 22 "StairCourt$Reader" "length" "I", Cond.fieldLink RX4 27 "StairCourt$Reader" "names" "Ljava/lang/String;", Cond.methodLink RX4 35 yX6_clear, Cond.instanceMethod yX6_clear, Cond.selects RX6 yX6_clear yX6_clear, Cond.initialized RX6, Cond.code yX6_clear cX6_clear 1 none, Cond.fieldLink RX6 18 "StairCourt$Text" "length" "I", Cond.methodLink RX4 44 yX4_readLevel, Cond.instanceMethod yX4_readLevel, Cond.selects RX4 yX4_readLevel yX4_readLevel, Cond.code yX4_readLevel cX4_readLevel 6 (some .boolean), Cond.methodLink RX4 48 yX4_readLast]
def wsX8_text_r3 : List Cond := [Cond.instanceMethod yX4_readLast, Cond.selects RX4 yX4_readLast yX4_readLast, Cond.methodLink RX4 52 yX4_next, Cond.instanceMethod yX4_next, Cond.selects RX4 yX4_next yX4_next, Cond.code yX4_next cX4_next 1 (some .int), Cond.methodLink RX4 56 yX4_levelOf, Cond.static yX4_levelOf, Cond.code yX4_levelOf cX4_levelOf 1 (some .int), Cond.methodLink RX4 60 yX6_add, Cond.instanceMethod yX6_add, Cond.selects RX6 yX6_add yX6_add, Cond.code yX6_add cX6_add 2 none, Cond.fieldLink RX6 9 "StairCourt$Text" "codes" "[I", Cond.code yX4_readInner cX4_readInner 2 (some .boolean), Cond.code yX4_readLast cX4_readLast 4 (some .boolean), Cond.methodLink RX4 64 yX4_isDigit, Cond.static yX4_isDigit, Cond.code yX4_isDigit cX4_isDigit 1 (some .boolean), Cond.methodLink RX4 67 yX4_readNumber, Cond.instanceMethod yX4_readNumber, Cond.selects RX4 yX4_readNumber yX4_readNumber, Cond.code yX4_readNumber cX4_readNumber 3 none, Cond.methodLink RX4 70 yJ0_indexOf_0f7a4]
def wsX8_text_r4 : List Cond := [Cond.instanceMethod yJ0_indexOf_0f7a4, Cond.selects RJ0 yJ0_indexOf_0f7a4 yJ0_indexOf_0f7a4, Cond.initialized RJ0, Cond.code yJ0_indexOf_0f7a4 cJ0_indexOf_0f7a4 2 (some .int), Cond.methodLink RJ0 633 yJ0_indexOf_7cf53, Cond.instanceMethod yJ0_indexOf_7cf53, Cond.selects RJ0 yJ0_indexOf_7cf53 yJ0_indexOf_7cf53, Cond.code yJ0_indexOf_7cf53 cJ0_indexOf_7cf53 3 (some .int), Cond.fieldLink RJ0 9 "java/lang/String" "value" "[B", Cond.methodLink RJ0 492 yJ0_isLatin1_aae02, Cond.instanceMethod yJ0_isLatin1_aae02, Cond.selects RJ0 yJ0_isLatin1_aae02 yJ0_isLatin1_aae02, Cond.code yJ0_isLatin1_aae02 cJ0_isLatin1_aae02 1 (some .boolean), Cond.fieldLink RJ0 38 "java/lang/String" "COMPACT_STRINGS" "Z", Cond.fieldLink RJ0 15 "java/lang/String" "coder" "B", Cond.methodLink RJ0 505 yJ0_length_8abf5, Cond.instanceMethod yJ0_length_8abf5, Cond.selects RJ0 yJ0_length_8abf5 yJ0_length_8abf5, Cond.code yJ0_length_8abf5 cJ0_length_8abf5 1 (some .int), Cond.methodLink RJ0 335 yJ0_coder_7d493, Cond.instanceMethod yJ0_coder_7d493, Cond.selects RJ0 yJ0_coder_7d493 yJ0_coder_7d493, Cond.code yJ0_coder_7d493 cJ0_coder_7d493 1 (some .byte), Cond.methodLink RJ0 637 yJ1_indexOf_4cfef]
def wsX8_text_r5 : List Cond := [Cond.static yJ1_indexOf_4cfef, Cond.initialized RJ1, Cond.code yJ1_indexOf_4cfef cJ1_indexOf_4cfef 4 (some .int), Cond.methodLink RJ1 92 Lib.Math.max.name, Cond.static Lib.Math.max.name, Cond.code Lib.Math.max.name Lib.Math.max.code 2 (some .int), Cond.methodLink RJ1 38 Lib.Math.min.name, Cond.methodLink RJ1 88 yJ1_canEncode_9a6ad, Cond.static yJ1_canEncode_9a6ad, Cond.code yJ1_canEncode_9a6ad cJ1_canEncode_9a6ad 1 (some .boolean), Cond.methodLink RJ1 95 yJ1_indexOfChar_4cfef, Cond.static yJ1_indexOfChar_4cfef, Cond.code yJ1_indexOfChar_4cfef cJ1_indexOfChar_4cfef 6 (some .int), Cond.methodLink RJ0 640 yJ2_indexOf_4cfef, Cond.static yJ2_indexOf_4cfef, Cond.initialized RJ2, Cond.code yJ2_indexOf_4cfef cJ2_indexOf_4cfef 4 (some .int), Cond.methodLink RJ2 224 Lib.Math.max.name, Cond.methodLink RJ2 183 Lib.Math.min.name, Cond.constant RJ2 227 (65536), Cond.methodLink RJ2 228 yJ2_indexOfChar_4cfef, Cond.static yJ2_indexOfChar_4cfef, Cond.code yJ2_indexOfChar_4cfef cJ2_indexOfChar_4cfef 4 (some .int), Cond.methodLink RJ2 96 yJ2_checkBoundsBeginEnd_d044e]
def wsX8_text_r6 : List Cond := [Cond.static yJ2_checkBoundsBeginEnd_d044e, Cond.code yJ2_checkBoundsBeginEnd_d044e cJ2_checkBoundsBeginEnd_d044e 3 none, Cond.methodLink RJ2 48 yJ2_length_9d52b, Cond.static yJ2_length_9d52b, Cond.code yJ2_length_9d52b cJ2_length_9d52b 1 (some .int), Cond.methodLink RJ2 241 yJ0_checkBoundsBeginEnd_23922, Cond.static yJ0_checkBoundsBeginEnd_23922, Cond.code yJ0_checkBoundsBeginEnd_23922 cJ0_checkBoundsBeginEnd_23922 3 none, Cond.fieldLink RJ0 1053 "jdk/internal/util/Preconditions" "SIOOBE_FORMATTER" "Ljava/util/function/BiFunction;", Cond.methodLink RJ0 1062 yJ3_checkFromToIndex_8c36e, Cond.static yJ3_checkFromToIndex_8c36e, Cond.initialized RJ3, Cond.code yJ3_checkFromToIndex_8c36e cJ3_checkFromToIndex_8c36e 4 (some .int), Cond.methodLink RJ2 244 yJ2_indexOfCharUnsafe_4cfef, Cond.static yJ2_indexOfCharUnsafe_4cfef, Cond.code yJ2_indexOfCharUnsafe_4cfef cJ2_indexOfCharUnsafe_4cfef 5 (some .int), Cond.methodLink RJ2 71 yJ2_getChar_3b067, Cond.static yJ2_getChar_3b067, Cond.code yJ2_getChar_3b067 cJ2_getChar_3b067 2 (some .char), Cond.fieldLink RJ2 44 "java/lang/StringUTF16" "$assertionsDisabled" "Z", Cond.fieldLink RJ2 59 "java/lang/StringUTF16" "HI_BYTE_SHIFT" "I", Cond.fieldLink RJ2 63 "java/lang/StringUTF16" "LO_BYTE_SHIFT" "I", Cond.methodLink RJ2 232 yJ2_indexOfSupplementary_4cfef, Cond.static yJ2_indexOfSupplementary_4cfef]
def wsX8_text_r7 : List Cond := [Cond.code yJ2_indexOfSupplementary_4cfef cJ2_indexOfSupplementary_4cfef 7 (some .int), Cond.methodLink RJ2 164 yJ11_isValidCodePoint_9a6ad, Cond.static yJ11_isValidCodePoint_9a6ad, Cond.initialized RJ11, Cond.code yJ11_isValidCodePoint_9a6ad cJ11_isValidCodePoint_9a6ad 2 (some .boolean), Cond.methodLink RJ2 157 yJ11_highSurrogate_5068e, Cond.static yJ11_highSurrogate_5068e, Cond.code yJ11_highSurrogate_5068e cJ11_highSurrogate_5068e 1 (some .char), Cond.constant RJ11 110 (55232), Cond.methodLink RJ2 161 yJ11_lowSurrogate_5068e, Cond.static yJ11_lowSurrogate_5068e, Cond.code yJ11_lowSurrogate_5068e cJ11_lowSurrogate_5068e 1 (some .char), Cond.constant RJ11 76 (56320), Cond.methodLink RX4 75 yX4_readNot, Cond.instanceMethod yX4_readNot, Cond.selects RX4 yX4_readNot yX4_readNot, Cond.methodLink RX4 78 yX4_readInner, Cond.instanceMethod yX4_readInner, Cond.selects RX4 yX4_readInner yX4_readInner, Cond.code yX4_readNot cX4_readNot 2 (some .boolean), Cond.methodLink RX8 174 yX6_copyFrom, Cond.instanceMethod yX6_copyFrom, Cond.selects RX6 yX6_copyFrom yX6_copyFrom, Cond.code yX6_copyFrom cX6_copyFrom 2 none]
def wsX8_text_r8 : List Cond := [Cond.methodLink RX6 22 arraycopyName, Cond.native arraycopyName, Cond.static arraycopyName, Cond.initialized "java/lang/System"]
def wsX8_text : List Cond := .code yX8_text cX8_text 4 (some .int) :: ((wsX8_text_r1 ++ (wsX8_text_r2 ++ (wsX8_text_r3 ++ (wsX8_text_r4 ++ (wsX8_text_r5 ++ (wsX8_text_r6 ++ (wsX8_text_r7 ++ wsX8_text_r8))))))) ++ wsX80 ++ wsX00 ++ wsX40 ++ wsX60)
def wsX8_untell_r1 : List Cond := [Cond.fieldLink RX8 12 "StairCourt" "now" "LStairCourt$Court;", Cond.constant RX8 67 (-1000000001), Cond.methodLink RX8 157 yX0_textOf, Cond.instanceMethod yX0_textOf, Cond.selects RX0 yX0_textOf yX0_textOf, Cond.initialized RX0, Cond.code yX0_textOf cX0_textOf 2 (some (.object "StairCourt$Text")), Cond.fieldLink RX0 33 "StairCourt$Court" "heeds" "LStairCourt$Text;", Cond.fieldLink RX0 37 "StairCourt$Court" "bribes" "LStairCourt$Text;", Cond.methodLink RX8 68 yX8_error, Cond.instanceMethod yX8_error, Cond.selects RX8 yX8_error yX8_error, Cond.initialized RX8, Cond.code yX8_error cX8_error 3 (some .int), Cond.constant RX8 294 (-1000000000), Cond.fieldLink RX8 55 "StairCourt" "errors" "[I", Cond.methodLink RX8 63 yX8_within, Cond.static yX8_within, Cond.code yX8_within cX8_within 3 (some .boolean), Cond.methodLink RX8 180 yX6_isThere, Cond.instanceMethod yX6_isThere, Cond.selects RX6 yX6_isThere yX6_isThere, Cond.initialized RX6, Cond.code yX6_isThere cX6_isThere 1 (some .boolean)]
def wsX8_untell_r2 : List Cond := [Cond.fieldLink RX6 18 "StairCourt$Text" "length" "I", Cond.methodLink RX8 184 yX6_clear, Cond.instanceMethod yX6_clear, Cond.selects RX6 yX6_clear yX6_clear, Cond.code yX6_clear cX6_clear 1 none]
def wsX8_untell : List Cond := .code yX8_untell cX8_untell 4 (some .int) :: ((wsX8_untell_r1 ++ wsX8_untell_r2) ++ wsX80 ++ wsX00 ++ wsX60)
def wsX8_law_r1 : List Cond := [Cond.constant RX8 67 (-1000000001), Cond.fieldLink RX8 12 "StairCourt" "now" "LStairCourt$Court;", Cond.methodLink RX8 63 yX8_within, Cond.static yX8_within, Cond.initialized RX8, Cond.code yX8_within cX8_within 3 (some .boolean), Cond.methodLink RX8 68 yX8_error, Cond.instanceMethod yX8_error, Cond.selects RX8 yX8_error yX8_error, Cond.code yX8_error cX8_error 3 (some .int), Cond.constant RX8 294 (-1000000000), Cond.fieldLink RX8 55 "StairCourt" "errors" "[I", Cond.methodLink RX8 187 yX0_gives, Cond.instanceMethod yX0_gives, Cond.selects RX0 yX0_gives yX0_gives, Cond.initialized RX0, Cond.code yX0_gives cX0_gives 5 (some .int), Cond.fieldLink RX0 33 "StairCourt$Court" "heeds" "LStairCourt$Text;", Cond.fieldLink RX0 37 "StairCourt$Court" "bribes" "LStairCourt$Text;", Cond.methodLink RX0 104 yX6_isThere, Cond.instanceMethod yX6_isThere, Cond.selects RX6 yX6_isThere yX6_isThere, Cond.initialized RX6, Cond.code yX6_isThere cX6_isThere 1 (some .boolean)]
def wsX8_law_r2 : List Cond := [Cond.fieldLink RX6 18 "StairCourt$Text" "length" "I", Cond.methodLink RX0 108 yX6_work, Cond.instanceMethod yX6_work, Cond.selects RX6 yX6_work yX6_work, Cond.code yX6_work cX6_work 7 (some .int), Cond.fieldLink RX6 9 "StairCourt$Text" "codes" "[I", Cond.fieldLink RX6 15 "StairCourt$Text" "open" "[I", Cond.methodLink RX6 28 yX6_nameAt, Cond.static yX6_nameAt, Cond.code yX6_nameAt cX6_nameAt 4 (some .int), Cond.methodLink RX6 32 yX6_join, Cond.static yX6_join, Cond.code yX6_join cX6_join 3 (some .int), Cond.methodLink RX0 112 yX0_hold, Cond.static yX0_hold, Cond.code yX0_hold cX0_hold 2 (some .int), Cond.methodLink RX0 116 Lib.Math.min.name, Cond.static Lib.Math.min.name, Cond.initialized "java/lang/Math", Cond.code Lib.Math.min.name Lib.Math.min.code 2 (some .int), Cond.methodLink RX0 121 Lib.Math.max.name, Cond.static Lib.Math.max.name, Cond.code Lib.Math.max.name Lib.Math.max.code 2 (some .int)]
def wsX8_law : List Cond := .code yX8_law cX8_law 5 (some .int) :: ((wsX8_law_r1 ++ wsX8_law_r2) ++ wsX80 ++ wsX00 ++ wsX60)
def wsX8_hours_r1 : List Cond := [Cond.constant RX8 67 (-1000000001), Cond.fieldLink RX8 12 "StairCourt" "now" "LStairCourt$Court;", Cond.fieldLink RX8 191 "StairCourt$Court" "hour" "I", Cond.constant RX8 143 (-1000000003), Cond.methodLink RX8 63 yX8_within, Cond.static yX8_within, Cond.initialized RX8, Cond.code yX8_within cX8_within 3 (some .boolean), Cond.methodLink RX8 68 yX8_error, Cond.instanceMethod yX8_error, Cond.selects RX8 yX8_error yX8_error, Cond.code yX8_error cX8_error 3 (some .int), Cond.constant RX8 294 (-1000000000), Cond.fieldLink RX8 55 "StairCourt" "errors" "[I", Cond.methodLink RX8 194 yX0_passHour, Cond.instanceMethod yX0_passHour, Cond.selects RX0 yX0_passHour yX0_passHour, Cond.initialized RX0, Cond.code yX0_passHour cX0_passHour 3 none, Cond.fieldLink RX0 27 "StairCourt$Court" "people" "I", Cond.fieldLink RX0 23 "StairCourt$Court" "persons" "[LStairCourt$Person;", Cond.fieldLink RX0 88 "StairCourt$Person" "at" "I", Cond.fieldLink RX0 91 "StairCourt$Person" "legs" "I", Cond.methodLink RX0 116 Lib.Math.min.name]
def wsX8_hours_r2 : List Cond := [Cond.static Lib.Math.min.name, Cond.initialized "java/lang/Math", Cond.code Lib.Math.min.name Lib.Math.min.code 2 (some .int), Cond.fieldLink RX0 53 "StairCourt$Court" "hour" "I"]
def wsX8_hours : List Cond := .code yX8_hours cX8_hours 3 (some .int) :: ((wsX8_hours_r1 ++ wsX8_hours_r2) ++ wsX80 ++ wsX00 ++ wsX30)
def wsX8_loose_r1 : List Cond := [Cond.constant RX8 67 (-1000000001), Cond.fieldLink RX8 12 "StairCourt" "now" "LStairCourt$Court;", Cond.fieldLink RX8 191 "StairCourt$Court" "hour" "I", Cond.constant RX8 143 (-1000000003), Cond.methodLink RX8 63 yX8_within, Cond.static yX8_within, Cond.initialized RX8, Cond.code yX8_within cX8_within 3 (some .boolean), Cond.methodLink RX8 68 yX8_error, Cond.instanceMethod yX8_error, Cond.selects RX8 yX8_error yX8_error, Cond.code yX8_error cX8_error 3 (some .int), Cond.constant RX8 294 (-1000000000), Cond.fieldLink RX8 55 "StairCourt" "errors" "[I", Cond.methodLink RX8 197 yX0_passHourByDraws, Cond.instanceMethod yX0_passHourByDraws, Cond.selects RX0 yX0_passHourByDraws yX0_passHourByDraws, Cond.initialized RX0, Cond.code yX0_passHourByDraws cX0_passHourByDraws 4 (some .int), Cond.fieldLink RX0 27 "StairCourt$Court" "people" "I", Cond.fieldLink RX0 23 "StairCourt$Court" "persons" "[LStairCourt$Person;", Cond.methodLink RX0 147 yX0_canGo, Cond.instanceMethod yX0_canGo, Cond.selects RX0 yX0_canGo yX0_canGo]
def wsX8_loose_r2 : List Cond := [Cond.code yX0_canGo cX0_canGo 2 (some .boolean), Cond.fieldLink RX0 91 "StairCourt$Person" "legs" "I", Cond.methodLink RX0 100 yX0_isUp, Cond.instanceMethod yX0_isUp, Cond.selects RX0 yX0_isUp yX0_isUp, Cond.code yX0_isUp cX0_isUp 2 (some .boolean), Cond.fieldLink RX0 88 "StairCourt$Person" "at" "I", Cond.fieldLink RX0 17 "StairCourt$Court" "steps" "I", Cond.methodLink RX0 150 yX0_draw, Cond.instanceMethod yX0_draw, Cond.selects RX0 yX0_draw yX0_draw, Cond.code yX0_draw cX0_draw 1 (some .int), Cond.fieldLink RX0 56 "StairCourt$Court" "z" "I", Cond.constant RX0 160 (1103515245), Cond.methodLink RX0 153 yX0_hear, Cond.instanceMethod yX0_hear, Cond.selects RX0 yX0_hear yX0_hear, Cond.code yX0_hear cX0_hear 5 (some .boolean), Cond.fieldLink RX0 85 "StairCourt$Judge" "heard" "I", Cond.methodLink RX0 116 Lib.Math.min.name, Cond.static Lib.Math.min.name, Cond.initialized "java/lang/Math", Cond.code Lib.Math.min.name Lib.Math.min.code 2 (some .int), Cond.methodLink RX0 121 Lib.Math.max.name]
def wsX8_loose_r3 : List Cond := [Cond.static Lib.Math.max.name, Cond.code Lib.Math.max.name Lib.Math.max.code 2 (some .int), Cond.fieldLink RX0 97 "StairCourt$Person" "falls" "I", Cond.methodLink RX0 143 yX0_judgeOn, Cond.instanceMethod yX0_judgeOn, Cond.selects RX0 yX0_judgeOn yX0_judgeOn, Cond.code yX0_judgeOn cX0_judgeOn 2 (some (.object "StairCourt$Judge")), Cond.fieldLink RX0 11 "StairCourt$Court" "judges" "[LStairCourt$Judge;", Cond.methodLink RX0 139 yX0_isContent, Cond.instanceMethod yX0_isContent, Cond.selects RX0 yX0_isContent yX0_isContent, Cond.code yX0_isContent cX0_isContent 3 (some .boolean), Cond.fieldLink RX0 53 "StairCourt$Court" "hour" "I", Cond.fieldLink RX0 128 "StairCourt$Judge" "place" "I", Cond.fieldLink RX0 82 "StairCourt$Judge" "m" "I", Cond.methodLink RX0 124 yX2_nods, Cond.instanceMethod yX2_nods, Cond.selects RX2 yX2_nods yX2_nods, Cond.initialized RX2, Cond.code yX2_nods cX2_nods 3 (some .boolean), Cond.fieldLink RX2 9 "StairCourt$Judge" "kind" "I", Cond.fieldLink RX2 15 "StairCourt$Judge" "m" "I", Cond.fieldLink RX2 21 "StairCourt$Judge" "place" "I", Cond.fieldLink RX2 18 "StairCourt$Judge" "heard" "I"]
def wsX8_loose_r4 : List Cond := [Cond.methodLink RX2 24 yX2_nodsStrictly, Cond.instanceMethod yX2_nodsStrictly, Cond.selects RX2 yX2_nodsStrictly yX2_nodsStrictly, Cond.code yX2_nodsStrictly cX2_nodsStrictly 2 (some .boolean), Cond.methodLink RX2 31 yX2_nodsPlainly, Cond.instanceMethod yX2_nodsPlainly, Cond.selects RX2 yX2_nodsPlainly yX2_nodsPlainly, Cond.code yX2_nodsPlainly cX2_nodsPlainly 2 (some .boolean), Cond.methodLink RX2 28 yX2_nodsMildly, Cond.instanceMethod yX2_nodsMildly, Cond.selects RX2 yX2_nodsMildly yX2_nodsMildly, Cond.code yX2_nodsMildly cX2_nodsMildly 2 (some .boolean), Cond.methodLink RX0 131 yX0_gives, Cond.instanceMethod yX0_gives, Cond.selects RX0 yX0_gives yX0_gives, Cond.code yX0_gives cX0_gives 5 (some .int), Cond.fieldLink RX0 33 "StairCourt$Court" "heeds" "LStairCourt$Text;", Cond.fieldLink RX0 37 "StairCourt$Court" "bribes" "LStairCourt$Text;", Cond.methodLink RX0 104 yX6_isThere, Cond.instanceMethod yX6_isThere, Cond.selects RX6 yX6_isThere yX6_isThere, Cond.initialized RX6, Cond.code yX6_isThere cX6_isThere 1 (some .boolean), Cond.fieldLink RX6 18 "StairCourt$Text" "length" "I"]
def wsX8_loose_r5 : List Cond := [Cond.methodLink RX0 108 yX6_work, Cond.instanceMethod yX6_work, Cond.selects RX6 yX6_work yX6_work, Cond.code yX6_work cX6_work 7 (some .int), Cond.fieldLink RX6 9 "StairCourt$Text" "codes" "[I", Cond.fieldLink RX6 15 "StairCourt$Text" "open" "[I", Cond.methodLink RX6 28 yX6_nameAt, Cond.static yX6_nameAt, Cond.code yX6_nameAt cX6_nameAt 4 (some .int), Cond.methodLink RX6 32 yX6_join, Cond.static yX6_join, Cond.code yX6_join cX6_join 3 (some .int), Cond.methodLink RX0 112 yX0_hold, Cond.static yX0_hold, Cond.code yX0_hold cX0_hold 2 (some .int), Cond.methodLink RX0 157 yX0_passHour, Cond.instanceMethod yX0_passHour, Cond.selects RX0 yX0_passHour yX0_passHour, Cond.code yX0_passHour cX0_passHour 3 none]
def wsX8_loose : List Cond := .code yX8_loose cX8_loose 4 (some .int) :: ((wsX8_loose_r1 ++ (wsX8_loose_r2 ++ (wsX8_loose_r3 ++ (wsX8_loose_r4 ++ wsX8_loose_r5)))) ++ wsX80 ++ wsX00 ++ wsX30 ++ wsX20 ++ wsX60)
def wsX8_seed : List Cond := .code yX8_seed cX8_seed 3 (some .int) :: ([.fieldLink RX8 12 "StairCourt" "now" "LStairCourt$Court;", .fieldLink RX8 201 "StairCourt$Court" "z" "I"] ++ wsX80 ++ wsX00)
def wsX8_words_r1 : List Cond := [Cond.fieldLink RX8 12 "StairCourt" "now" "LStairCourt$Court;", Cond.constant RX8 67 (-1000000001), Cond.constant RX8 210 (-1000000002), Cond.methodLink RX8 80 yX0_judgeOn, Cond.instanceMethod yX0_judgeOn, Cond.selects RX0 yX0_judgeOn yX0_judgeOn, Cond.initialized RX0, Cond.code yX0_judgeOn cX0_judgeOn 2 (some (.object "StairCourt$Judge")), Cond.fieldLink RX0 17 "StairCourt$Court" "steps" "I", Cond.fieldLink RX0 11 "StairCourt$Court" "judges" "[LStairCourt$Judge;", Cond.methodLink RX8 63 yX8_within, Cond.static yX8_within, Cond.initialized RX8, Cond.code yX8_within cX8_within 3 (some .boolean), Cond.methodLink RX8 68 yX8_error, Cond.instanceMethod yX8_error, Cond.selects RX8 yX8_error yX8_error, Cond.code yX8_error cX8_error 3 (some .int), Cond.constant RX8 294 (-1000000000), Cond.fieldLink RX8 55 "StairCourt" "errors" "[I", Cond.methodLink RX8 204 yX0_contentWords, Cond.instanceMethod yX0_contentWords, Cond.selects RX0 yX0_contentWords yX0_contentWords, Cond.code yX0_contentWords cX0_contentWords 4 (some .int)]
def wsX8_words_r2 : List Cond := [Cond.methodLink RX0 139 yX0_isContent, Cond.instanceMethod yX0_isContent, Cond.selects RX0 yX0_isContent yX0_isContent, Cond.code yX0_isContent cX0_isContent 3 (some .boolean), Cond.fieldLink RX0 53 "StairCourt$Court" "hour" "I", Cond.fieldLink RX0 128 "StairCourt$Judge" "place" "I", Cond.fieldLink RX0 82 "StairCourt$Judge" "m" "I", Cond.methodLink RX0 124 yX2_nods, Cond.instanceMethod yX2_nods, Cond.selects RX2 yX2_nods yX2_nods, Cond.initialized RX2, Cond.code yX2_nods cX2_nods 3 (some .boolean), Cond.fieldLink RX2 9 "StairCourt$Judge" "kind" "I", Cond.fieldLink RX2 15 "StairCourt$Judge" "m" "I", Cond.fieldLink RX2 21 "StairCourt$Judge" "place" "I", Cond.fieldLink RX2 18 "StairCourt$Judge" "heard" "I", Cond.methodLink RX2 24 yX2_nodsStrictly, Cond.instanceMethod yX2_nodsStrictly, Cond.selects RX2 yX2_nodsStrictly yX2_nodsStrictly, Cond.code yX2_nodsStrictly cX2_nodsStrictly 2 (some .boolean), Cond.methodLink RX2 31 yX2_nodsPlainly, Cond.instanceMethod yX2_nodsPlainly, Cond.selects RX2 yX2_nodsPlainly yX2_nodsPlainly, Cond.code yX2_nodsPlainly cX2_nodsPlainly 2 (some .boolean)]
def wsX8_words_r3 : List Cond := [Cond.methodLink RX2 28 yX2_nodsMildly, Cond.instanceMethod yX2_nodsMildly, Cond.selects RX2 yX2_nodsMildly yX2_nodsMildly, Cond.code yX2_nodsMildly cX2_nodsMildly 2 (some .boolean), Cond.methodLink RX0 131 yX0_gives, Cond.instanceMethod yX0_gives, Cond.selects RX0 yX0_gives yX0_gives, Cond.code yX0_gives cX0_gives 5 (some .int), Cond.fieldLink RX0 33 "StairCourt$Court" "heeds" "LStairCourt$Text;", Cond.fieldLink RX0 37 "StairCourt$Court" "bribes" "LStairCourt$Text;", Cond.methodLink RX0 104 yX6_isThere, Cond.instanceMethod yX6_isThere, Cond.selects RX6 yX6_isThere yX6_isThere, Cond.initialized RX6, Cond.code yX6_isThere cX6_isThere 1 (some .boolean), Cond.fieldLink RX6 18 "StairCourt$Text" "length" "I", Cond.methodLink RX0 108 yX6_work, Cond.instanceMethod yX6_work, Cond.selects RX6 yX6_work yX6_work, Cond.code yX6_work cX6_work 7 (some .int), Cond.fieldLink RX6 9 "StairCourt$Text" "codes" "[I", Cond.fieldLink RX6 15 "StairCourt$Text" "open" "[I", Cond.methodLink RX6 28 yX6_nameAt, Cond.static yX6_nameAt]
def wsX8_words_r4 : List Cond := [Cond.code yX6_nameAt cX6_nameAt 4 (some .int), Cond.methodLink RX6 32 yX6_join, Cond.static yX6_join, Cond.code yX6_join cX6_join 3 (some .int), Cond.methodLink RX0 112 yX0_hold, Cond.static yX0_hold, Cond.code yX0_hold cX0_hold 2 (some .int), Cond.methodLink RX0 116 Lib.Math.min.name, Cond.static Lib.Math.min.name, Cond.initialized "java/lang/Math", Cond.code Lib.Math.min.name Lib.Math.min.code 2 (some .int), Cond.methodLink RX0 121 Lib.Math.max.name, Cond.static Lib.Math.max.name, Cond.code Lib.Math.max.name Lib.Math.max.code 2 (some .int), Cond.methodLink RX8 207 yX0_leastContent, Cond.instanceMethod yX0_leastContent, Cond.selects RX0 yX0_leastContent yX0_leastContent, Cond.code yX0_leastContent cX0_leastContent 3 (some .int)]
def wsX8_words : List Cond := .code yX8_words cX8_words 5 (some .int) :: ((wsX8_words_r1 ++ (wsX8_words_r2 ++ (wsX8_words_r3 ++ wsX8_words_r4))) ++ wsX80 ++ wsX00 ++ wsX20 ++ wsX60)
def wsX8_sheetOf : List Cond := .code yX8_sheetOf cX8_sheetOf 2 (some (.object "StairCourt$Sheet")) :: ([.fieldLink RX8 51 "StairCourt" "sheets" "[LStairCourt$Sheet;"] ++ wsX80)
def wsX8_climb_r1 : List Cond := [Cond.fieldLink RX8 19 "StairCourt" "thought" "LStairCourt$Court;", Cond.fieldLink RX8 12 "StairCourt" "now" "LStairCourt$Court;", Cond.constant RX8 67 (-1000000001), Cond.constant RX8 210 (-1000000002), Cond.constant RX8 143 (-1000000003), Cond.fieldLink RX8 125 "StairCourt$Person" "falls" "I", Cond.fieldLink RX8 224 "StairCourt$Sheet" "length" "I", Cond.fieldLink RX8 114 "StairCourt$Person" "at" "I", Cond.methodLink RX8 211 yX0_copyFrom, Cond.instanceMethod yX0_copyFrom, Cond.selects RX0 yX0_copyFrom yX0_copyFrom, Cond.initialized RX0, Cond.code yX0_copyFrom cX0_copyFrom 3 none, Cond.fieldLink RX0 17 "StairCourt$Court" "steps" "I", Cond.fieldLink RX0 11 "StairCourt$Court" "judges" "[LStairCourt$Judge;", Cond.fieldLink RX0 27 "StairCourt$Court" "people" "I", Cond.fieldLink RX0 23 "StairCourt$Court" "persons" "[LStairCourt$Person;", Cond.fieldLink RX0 33 "StairCourt$Court" "heeds" "LStairCourt$Text;", Cond.fieldLink RX0 37 "StairCourt$Court" "bribes" "LStairCourt$Text;", Cond.fieldLink RX0 40 "StairCourt$Court" "tape" "[I", Cond.methodLink RX0 73 arraycopyName, Cond.native arraycopyName, Cond.static arraycopyName, Cond.initialized "java/lang/System"]
def wsX8_climb_r2 : List Cond := [Cond.fieldLink RX0 44 "StairCourt$Court" "taped" "I", Cond.fieldLink RX0 47 "StairCourt$Court" "waits" "[I", Cond.fieldLink RX0 50 "StairCourt$Court" "waiting" "I", Cond.fieldLink RX0 53 "StairCourt$Court" "hour" "I", Cond.fieldLink RX0 56 "StairCourt$Court" "z" "I", Cond.methodLink RX0 63 yX2_copyFrom, Cond.instanceMethod yX2_copyFrom, Cond.selects RX2 yX2_copyFrom yX2_copyFrom, Cond.initialized RX2, Cond.code yX2_copyFrom cX2_copyFrom 2 none, Cond.fieldLink RX2 9 "StairCourt$Judge" "kind" "I", Cond.fieldLink RX2 15 "StairCourt$Judge" "m" "I", Cond.fieldLink RX2 18 "StairCourt$Judge" "heard" "I", Cond.methodLink RX0 67 yX3_copyFrom, Cond.instanceMethod yX3_copyFrom, Cond.selects RX3 yX3_copyFrom yX3_copyFrom, Cond.initialized RX3, Cond.code yX3_copyFrom cX3_copyFrom 2 none, Cond.fieldLink RX3 7 "StairCourt$Person" "at" "I", Cond.fieldLink RX3 13 "StairCourt$Person" "legs" "I", Cond.fieldLink RX3 16 "StairCourt$Person" "paid" "I", Cond.fieldLink RX3 19 "StairCourt$Person" "falls" "I", Cond.methodLink RX0 70 yX6_copyFrom, Cond.instanceMethod yX6_copyFrom]
def wsX8_climb_r3 : List Cond := [Cond.selects RX6 yX6_copyFrom yX6_copyFrom, Cond.initialized RX6, Cond.code yX6_copyFrom cX6_copyFrom 2 none, Cond.fieldLink RX6 9 "StairCourt$Text" "codes" "[I", Cond.methodLink RX6 22 arraycopyName, Cond.fieldLink RX6 18 "StairCourt$Text" "length" "I", Cond.methodLink RX8 110 yX0_personOf, Cond.instanceMethod yX0_personOf, Cond.selects RX0 yX0_personOf yX0_personOf, Cond.code yX0_personOf cX0_personOf 2 (some (.object "StairCourt$Person")), Cond.methodLink RX8 214 yX8_sheetOf, Cond.instanceMethod yX8_sheetOf, Cond.selects RX8 yX8_sheetOf yX8_sheetOf, Cond.initialized RX8, Cond.code yX8_sheetOf cX8_sheetOf 2 (some (.object "StairCourt$Sheet")), Cond.fieldLink RX8 51 "StairCourt" "sheets" "[LStairCourt$Sheet;", Cond.methodLink RX8 63 yX8_within, Cond.static yX8_within, Cond.code yX8_within cX8_within 3 (some .boolean), Cond.methodLink RX8 68 yX8_error, Cond.instanceMethod yX8_error, Cond.selects RX8 yX8_error yX8_error, Cond.code yX8_error cX8_error 3 (some .int), Cond.constant RX8 294 (-1000000000)]
def wsX8_climb_r4 : List Cond := [Cond.fieldLink RX8 55 "StairCourt" "errors" "[I", Cond.methodLink RX8 218 yX5_isMissing, Cond.instanceMethod yX5_isMissing, Cond.selects RX5 yX5_isMissing yX5_isMissing, Cond.initialized RX5, Cond.code yX5_isMissing cX5_isMissing 1 (some .boolean), Cond.fieldLink RX5 15 "StairCourt$Sheet" "bits" "I", Cond.methodLink RX8 221 yX5_holdsWordsAlone, Cond.instanceMethod yX5_holdsWordsAlone, Cond.selects RX5 yX5_holdsWordsAlone yX5_holdsWordsAlone, Cond.code yX5_holdsWordsAlone cX5_holdsWordsAlone 2 (some .boolean), Cond.fieldLink RX5 19 "StairCourt$Sheet" "length" "I", Cond.methodLink RX5 42 yX5_get, Cond.instanceMethod yX5_get, Cond.selects RX5 yX5_get yX5_get, Cond.code yX5_get cX5_get 2 (some .int), Cond.fieldLink RX5 9 "StairCourt$Sheet" "numbers" "[I", Cond.static yX8_isWord, Cond.code yX8_isWord cX8_isWord 1 (some .boolean), Cond.methodLink RX8 140 yX0_canGo, Cond.instanceMethod yX0_canGo, Cond.selects RX0 yX0_canGo yX0_canGo, Cond.code yX0_canGo cX0_canGo 2 (some .boolean), Cond.fieldLink RX0 91 "StairCourt$Person" "legs" "I"]
def wsX8_climb_r5 : List Cond := [Cond.methodLink RX0 100 yX0_isUp, Cond.instanceMethod yX0_isUp, Cond.selects RX0 yX0_isUp yX0_isUp, Cond.code yX0_isUp cX0_isUp 2 (some .boolean), Cond.fieldLink RX0 88 "StairCourt$Person" "at" "I", Cond.methodLink RX8 227 yX5_get, Cond.methodLink RX8 144 yX0_hear, Cond.instanceMethod yX0_hear, Cond.selects RX0 yX0_hear yX0_hear, Cond.code yX0_hear cX0_hear 5 (some .boolean), Cond.fieldLink RX0 85 "StairCourt$Judge" "heard" "I", Cond.methodLink RX0 116 Lib.Math.min.name, Cond.static Lib.Math.min.name, Cond.initialized "java/lang/Math", Cond.code Lib.Math.min.name Lib.Math.min.code 2 (some .int), Cond.methodLink RX0 121 Lib.Math.max.name, Cond.static Lib.Math.max.name, Cond.code Lib.Math.max.name Lib.Math.max.code 2 (some .int), Cond.fieldLink RX0 97 "StairCourt$Person" "falls" "I", Cond.methodLink RX0 143 yX0_judgeOn, Cond.instanceMethod yX0_judgeOn, Cond.selects RX0 yX0_judgeOn yX0_judgeOn, Cond.code yX0_judgeOn cX0_judgeOn 2 (some (.object "StairCourt$Judge")), Cond.methodLink RX0 139 yX0_isContent]
def wsX8_climb_r6 : List Cond := [Cond.instanceMethod yX0_isContent, Cond.selects RX0 yX0_isContent yX0_isContent, Cond.code yX0_isContent cX0_isContent 3 (some .boolean), Cond.fieldLink RX0 128 "StairCourt$Judge" "place" "I", Cond.fieldLink RX0 82 "StairCourt$Judge" "m" "I", Cond.methodLink RX0 124 yX2_nods, Cond.instanceMethod yX2_nods, Cond.selects RX2 yX2_nods yX2_nods, Cond.code yX2_nods cX2_nods 3 (some .boolean), Cond.fieldLink RX2 21 "StairCourt$Judge" "place" "I", Cond.methodLink RX2 24 yX2_nodsStrictly, Cond.instanceMethod yX2_nodsStrictly, Cond.selects RX2 yX2_nodsStrictly yX2_nodsStrictly, Cond.code yX2_nodsStrictly cX2_nodsStrictly 2 (some .boolean), Cond.methodLink RX2 31 yX2_nodsPlainly, Cond.instanceMethod yX2_nodsPlainly, Cond.selects RX2 yX2_nodsPlainly yX2_nodsPlainly, Cond.code yX2_nodsPlainly cX2_nodsPlainly 2 (some .boolean), Cond.methodLink RX2 28 yX2_nodsMildly, Cond.instanceMethod yX2_nodsMildly, Cond.selects RX2 yX2_nodsMildly yX2_nodsMildly, Cond.code yX2_nodsMildly cX2_nodsMildly 2 (some .boolean), Cond.methodLink RX0 131 yX0_gives, Cond.instanceMethod yX0_gives]
def wsX8_climb_r7 : List Cond := [Cond.selects RX0 yX0_gives yX0_gives, Cond.code yX0_gives cX0_gives 5 (some .int), Cond.methodLink RX0 104 yX6_isThere, Cond.instanceMethod yX6_isThere, Cond.selects RX6 yX6_isThere yX6_isThere, Cond.code yX6_isThere cX6_isThere 1 (some .boolean), Cond.methodLink RX0 108 yX6_work, Cond.instanceMethod yX6_work, Cond.selects RX6 yX6_work yX6_work, Cond.code yX6_work cX6_work 7 (some .int), Cond.fieldLink RX6 15 "StairCourt$Text" "open" "[I", Cond.methodLink RX6 28 yX6_nameAt, Cond.static yX6_nameAt, Cond.code yX6_nameAt cX6_nameAt 4 (some .int), Cond.methodLink RX6 32 yX6_join, Cond.static yX6_join, Cond.code yX6_join cX6_join 3 (some .int), Cond.methodLink RX0 112 yX0_hold, Cond.static yX0_hold, Cond.code yX0_hold cX0_hold 2 (some .int)]
def wsX8_climb : List Cond := .code yX8_climb cX8_climb 8 (some .int) :: ((wsX8_climb_r1 ++ (wsX8_climb_r2 ++ (wsX8_climb_r3 ++ (wsX8_climb_r4 ++ (wsX8_climb_r5 ++ (wsX8_climb_r6 ++ wsX8_climb_r7)))))) ++ wsX80 ++ wsX30 ++ wsX50 ++ wsX00 ++ wsX20 ++ wsX60)
def wsX8_fewest_r1 : List Cond := [Cond.fieldLink RX8 12 "StairCourt" "now" "LStairCourt$Court;", Cond.constant RX8 67 (-1000000001), Cond.fieldLink RX8 45 "StairCourt" "cover" "LStairCourt$Cover;", Cond.fieldLink RX8 114 "StairCourt$Person" "at" "I", Cond.constant RX8 210 (-1000000002), Cond.methodLink RX8 110 yX0_personOf, Cond.instanceMethod yX0_personOf, Cond.selects RX0 yX0_personOf yX0_personOf, Cond.initialized RX0, Cond.code yX0_personOf cX0_personOf 2 (some (.object "StairCourt$Person")), Cond.fieldLink RX0 27 "StairCourt$Court" "people" "I", Cond.fieldLink RX0 23 "StairCourt$Court" "persons" "[LStairCourt$Person;", Cond.methodLink RX8 63 yX8_within, Cond.static yX8_within, Cond.initialized RX8, Cond.code yX8_within cX8_within 3 (some .boolean), Cond.methodLink RX8 68 yX8_error, Cond.instanceMethod yX8_error, Cond.selects RX8 yX8_error yX8_error, Cond.code yX8_error cX8_error 3 (some .int), Cond.constant RX8 294 (-1000000000), Cond.fieldLink RX8 55 "StairCourt" "errors" "[I", Cond.methodLink RX8 230 yX1_find, Cond.instanceMethod yX1_find]
def wsX8_fewest_r2 : List Cond := [Cond.selects RX1 yX1_find yX1_find, Cond.initialized RX1, Cond.code yX1_find cX1_find 5 (some .int), Cond.fieldLink RX1 18 "StairCourt$Cover" "chosen" "[I", Cond.fieldLink RX1 21 "StairCourt$Cover" "all" "I", Cond.methodLink RX1 31 Lib.Math.max.name, Cond.static Lib.Math.max.name, Cond.initialized "java/lang/Math", Cond.code Lib.Math.max.name Lib.Math.max.code 2 (some .int), Cond.fieldLink RX1 37 "StairCourt$Court" "steps" "I", Cond.fieldLink RX1 9 "StairCourt$Cover" "judgesBy" "[I", Cond.fieldLink RX1 15 "StairCourt$Cover" "judgesFrom" "[I", Cond.methodLink RX1 25 yJ7_fill_53178, Cond.static yJ7_fill_53178, Cond.initialized RJ7, Cond.code yJ7_fill_53178 cJ7_fill_53178 4 none, Cond.methodLink RX1 42 yX1_contentFrom, Cond.static yX1_contentFrom, Cond.code yX1_contentFrom cX1_contentFrom 6 (some .int), Cond.methodLink RX1 50 yX0_judgeOn, Cond.instanceMethod yX0_judgeOn, Cond.selects RX0 yX0_judgeOn yX0_judgeOn, Cond.code yX0_judgeOn cX0_judgeOn 2 (some (.object "StairCourt$Judge")), Cond.fieldLink RX0 17 "StairCourt$Court" "steps" "I"]
def wsX8_fewest_r3 : List Cond := [Cond.fieldLink RX0 11 "StairCourt$Court" "judges" "[LStairCourt$Judge;", Cond.methodLink RX1 54 yX0_isContent, Cond.instanceMethod yX0_isContent, Cond.selects RX0 yX0_isContent yX0_isContent, Cond.code yX0_isContent cX0_isContent 3 (some .boolean), Cond.fieldLink RX0 53 "StairCourt$Court" "hour" "I", Cond.fieldLink RX0 128 "StairCourt$Judge" "place" "I", Cond.fieldLink RX0 82 "StairCourt$Judge" "m" "I", Cond.methodLink RX0 124 yX2_nods, Cond.instanceMethod yX2_nods, Cond.selects RX2 yX2_nods yX2_nods, Cond.initialized RX2, Cond.code yX2_nods cX2_nods 3 (some .boolean), Cond.fieldLink RX2 9 "StairCourt$Judge" "kind" "I", Cond.fieldLink RX2 15 "StairCourt$Judge" "m" "I", Cond.fieldLink RX2 21 "StairCourt$Judge" "place" "I", Cond.fieldLink RX2 18 "StairCourt$Judge" "heard" "I", Cond.methodLink RX2 24 yX2_nodsStrictly, Cond.instanceMethod yX2_nodsStrictly, Cond.selects RX2 yX2_nodsStrictly yX2_nodsStrictly, Cond.code yX2_nodsStrictly cX2_nodsStrictly 2 (some .boolean), Cond.methodLink RX2 31 yX2_nodsPlainly, Cond.instanceMethod yX2_nodsPlainly, Cond.selects RX2 yX2_nodsPlainly yX2_nodsPlainly]
def wsX8_fewest_r4 : List Cond := [Cond.code yX2_nodsPlainly cX2_nodsPlainly 2 (some .boolean), Cond.methodLink RX2 28 yX2_nodsMildly, Cond.instanceMethod yX2_nodsMildly, Cond.selects RX2 yX2_nodsMildly yX2_nodsMildly, Cond.code yX2_nodsMildly cX2_nodsMildly 2 (some .boolean), Cond.methodLink RX0 131 yX0_gives, Cond.instanceMethod yX0_gives, Cond.selects RX0 yX0_gives yX0_gives, Cond.code yX0_gives cX0_gives 5 (some .int), Cond.fieldLink RX0 33 "StairCourt$Court" "heeds" "LStairCourt$Text;", Cond.fieldLink RX0 37 "StairCourt$Court" "bribes" "LStairCourt$Text;", Cond.methodLink RX0 104 yX6_isThere, Cond.instanceMethod yX6_isThere, Cond.selects RX6 yX6_isThere yX6_isThere, Cond.initialized RX6, Cond.code yX6_isThere cX6_isThere 1 (some .boolean), Cond.fieldLink RX6 18 "StairCourt$Text" "length" "I", Cond.methodLink RX0 108 yX6_work, Cond.instanceMethod yX6_work, Cond.selects RX6 yX6_work yX6_work, Cond.code yX6_work cX6_work 7 (some .int), Cond.fieldLink RX6 9 "StairCourt$Text" "codes" "[I", Cond.fieldLink RX6 15 "StairCourt$Text" "open" "[I", Cond.methodLink RX6 28 yX6_nameAt]
def wsX8_fewest_r5 : List Cond := [Cond.static yX6_nameAt, Cond.code yX6_nameAt cX6_nameAt 4 (some .int), Cond.methodLink RX6 32 yX6_join, Cond.static yX6_join, Cond.code yX6_join cX6_join 3 (some .int), Cond.methodLink RX0 112 yX0_hold, Cond.static yX0_hold, Cond.code yX0_hold cX0_hold 2 (some .int), Cond.methodLink RX0 116 Lib.Math.min.name, Cond.static Lib.Math.min.name, Cond.code Lib.Math.min.name Lib.Math.min.code 2 (some .int), Cond.methodLink RX0 121 Lib.Math.max.name, Cond.methodLink RX1 46 yX1_choose, Cond.instanceMethod yX1_choose, Cond.selects RX1 yX1_choose yX1_choose, Cond.code yX1_choose cX1_choose 7 (some .boolean), Cond.methodLink RX8 234 yX1_wordAt, Cond.instanceMethod yX1_wordAt, Cond.selects RX1 yX1_wordAt yX1_wordAt, Cond.code yX1_wordAt cX1_wordAt 2 (some .int)]
def wsX8_fewest : List Cond := .code yX8_fewest cX8_fewest 5 (some .int) :: ((wsX8_fewest_r1 ++ (wsX8_fewest_r2 ++ (wsX8_fewest_r3 ++ (wsX8_fewest_r4 ++ wsX8_fewest_r5)))) ++ wsX80 ++ wsX30 ++ wsX00 ++ wsX10 ++ wsX20 ++ wsX60)
def wsX8_isContentByAny_r1 : List Cond := [Cond.fieldLink RX8 224 "StairCourt$Sheet" "length" "I", Cond.fieldLink RX8 12 "StairCourt" "now" "LStairCourt$Court;", Cond.methodLink RX8 227 yX5_get, Cond.instanceMethod yX5_get, Cond.selects RX5 yX5_get yX5_get, Cond.initialized RX5, Cond.code yX5_get cX5_get 2 (some .int), Cond.fieldLink RX5 19 "StairCourt$Sheet" "length" "I", Cond.fieldLink RX5 9 "StairCourt$Sheet" "numbers" "[I", Cond.methodLink RX8 132 yX8_isWord, Cond.static yX8_isWord, Cond.initialized RX8, Cond.code yX8_isWord cX8_isWord 1 (some .boolean), Cond.methodLink RX8 63 yX8_within, Cond.static yX8_within, Cond.code yX8_within cX8_within 3 (some .boolean), Cond.methodLink RX8 136 yX0_isContent, Cond.instanceMethod yX0_isContent, Cond.selects RX0 yX0_isContent yX0_isContent, Cond.initialized RX0, Cond.code yX0_isContent cX0_isContent 3 (some .boolean), Cond.fieldLink RX0 53 "StairCourt$Court" "hour" "I", Cond.fieldLink RX0 128 "StairCourt$Judge" "place" "I", Cond.fieldLink RX0 82 "StairCourt$Judge" "m" "I"]
def wsX8_isContentByAny_r2 : List Cond := [Cond.methodLink RX0 124 yX2_nods, Cond.instanceMethod yX2_nods, Cond.selects RX2 yX2_nods yX2_nods, Cond.initialized RX2, Cond.code yX2_nods cX2_nods 3 (some .boolean), Cond.fieldLink RX2 9 "StairCourt$Judge" "kind" "I", Cond.fieldLink RX2 15 "StairCourt$Judge" "m" "I", Cond.fieldLink RX2 21 "StairCourt$Judge" "place" "I", Cond.fieldLink RX2 18 "StairCourt$Judge" "heard" "I", Cond.methodLink RX2 24 yX2_nodsStrictly, Cond.instanceMethod yX2_nodsStrictly, Cond.selects RX2 yX2_nodsStrictly yX2_nodsStrictly, Cond.code yX2_nodsStrictly cX2_nodsStrictly 2 (some .boolean), Cond.methodLink RX2 31 yX2_nodsPlainly, Cond.instanceMethod yX2_nodsPlainly, Cond.selects RX2 yX2_nodsPlainly yX2_nodsPlainly, Cond.code yX2_nodsPlainly cX2_nodsPlainly 2 (some .boolean), Cond.methodLink RX2 28 yX2_nodsMildly, Cond.instanceMethod yX2_nodsMildly, Cond.selects RX2 yX2_nodsMildly yX2_nodsMildly, Cond.code yX2_nodsMildly cX2_nodsMildly 2 (some .boolean), Cond.methodLink RX0 131 yX0_gives, Cond.instanceMethod yX0_gives, Cond.selects RX0 yX0_gives yX0_gives]
def wsX8_isContentByAny_r3 : List Cond := [Cond.code yX0_gives cX0_gives 5 (some .int), Cond.fieldLink RX0 33 "StairCourt$Court" "heeds" "LStairCourt$Text;", Cond.fieldLink RX0 37 "StairCourt$Court" "bribes" "LStairCourt$Text;", Cond.methodLink RX0 104 yX6_isThere, Cond.instanceMethod yX6_isThere, Cond.selects RX6 yX6_isThere yX6_isThere, Cond.initialized RX6, Cond.code yX6_isThere cX6_isThere 1 (some .boolean), Cond.fieldLink RX6 18 "StairCourt$Text" "length" "I", Cond.methodLink RX0 108 yX6_work, Cond.instanceMethod yX6_work, Cond.selects RX6 yX6_work yX6_work, Cond.code yX6_work cX6_work 7 (some .int), Cond.fieldLink RX6 9 "StairCourt$Text" "codes" "[I", Cond.fieldLink RX6 15 "StairCourt$Text" "open" "[I", Cond.methodLink RX6 28 yX6_nameAt, Cond.static yX6_nameAt, Cond.code yX6_nameAt cX6_nameAt 4 (some .int), Cond.methodLink RX6 32 yX6_join, Cond.static yX6_join, Cond.code yX6_join cX6_join 3 (some .int), Cond.methodLink RX0 112 yX0_hold, Cond.static yX0_hold, Cond.code yX0_hold cX0_hold 2 (some .int)]
def wsX8_isContentByAny_r4 : List Cond := [Cond.methodLink RX0 116 Lib.Math.min.name, Cond.static Lib.Math.min.name, Cond.initialized "java/lang/Math", Cond.code Lib.Math.min.name Lib.Math.min.code 2 (some .int), Cond.methodLink RX0 121 Lib.Math.max.name, Cond.static Lib.Math.max.name, Cond.code Lib.Math.max.name Lib.Math.max.code 2 (some .int)]
def wsX8_isContentByAny : List Cond := .code yX8_isContentByAny cX8_isContentByAny 4 (some .boolean) :: ((wsX8_isContentByAny_r1 ++ (wsX8_isContentByAny_r2 ++ (wsX8_isContentByAny_r3 ++ wsX8_isContentByAny_r4))) ++ wsX50 ++ wsX80 ++ wsX00 ++ wsX20 ++ wsX60)
def wsX8_cheapest_r1 : List Cond := [Cond.fieldLink RX8 12 "StairCourt" "now" "LStairCourt$Court;", Cond.constant RX8 67 (-1000000001), Cond.constant RX8 210 (-1000000002), Cond.fieldLink RX8 114 "StairCourt$Person" "at" "I", Cond.fieldLink RX8 72 "StairCourt$Court" "steps" "I", Cond.methodLink RX8 110 yX0_personOf, Cond.instanceMethod yX0_personOf, Cond.selects RX0 yX0_personOf yX0_personOf, Cond.initialized RX0, Cond.code yX0_personOf cX0_personOf 2 (some (.object "StairCourt$Person")), Cond.fieldLink RX0 27 "StairCourt$Court" "people" "I", Cond.fieldLink RX0 23 "StairCourt$Court" "persons" "[LStairCourt$Person;", Cond.methodLink RX8 214 yX8_sheetOf, Cond.instanceMethod yX8_sheetOf, Cond.selects RX8 yX8_sheetOf yX8_sheetOf, Cond.initialized RX8, Cond.code yX8_sheetOf cX8_sheetOf 2 (some (.object "StairCourt$Sheet")), Cond.fieldLink RX8 51 "StairCourt" "sheets" "[LStairCourt$Sheet;", Cond.methodLink RX8 63 yX8_within, Cond.static yX8_within, Cond.code yX8_within cX8_within 3 (some .boolean), Cond.methodLink RX8 68 yX8_error, Cond.instanceMethod yX8_error, Cond.selects RX8 yX8_error yX8_error]
def wsX8_cheapest_r2 : List Cond := [Cond.code yX8_error cX8_error 3 (some .int), Cond.constant RX8 294 (-1000000000), Cond.fieldLink RX8 55 "StairCourt" "errors" "[I", Cond.methodLink RX8 218 yX5_isMissing, Cond.instanceMethod yX5_isMissing, Cond.selects RX5 yX5_isMissing yX5_isMissing, Cond.initialized RX5, Cond.code yX5_isMissing cX5_isMissing 1 (some .boolean), Cond.fieldLink RX5 15 "StairCourt$Sheet" "bits" "I", Cond.methodLink RX8 80 yX0_judgeOn, Cond.instanceMethod yX0_judgeOn, Cond.selects RX0 yX0_judgeOn yX0_judgeOn, Cond.code yX0_judgeOn cX0_judgeOn 2 (some (.object "StairCourt$Judge")), Cond.fieldLink RX0 17 "StairCourt$Court" "steps" "I", Cond.fieldLink RX0 11 "StairCourt$Court" "judges" "[LStairCourt$Judge;", Cond.methodLink RX8 237 yX8_isContentByAny, Cond.instanceMethod yX8_isContentByAny, Cond.selects RX8 yX8_isContentByAny yX8_isContentByAny, Cond.code yX8_isContentByAny cX8_isContentByAny 4 (some .boolean), Cond.fieldLink RX8 224 "StairCourt$Sheet" "length" "I", Cond.methodLink RX8 227 yX5_get, Cond.instanceMethod yX5_get, Cond.selects RX5 yX5_get yX5_get, Cond.code yX5_get cX5_get 2 (some .int)]
def wsX8_cheapest_r3 : List Cond := [Cond.fieldLink RX5 19 "StairCourt$Sheet" "length" "I", Cond.fieldLink RX5 9 "StairCourt$Sheet" "numbers" "[I", Cond.methodLink RX8 132 yX8_isWord, Cond.static yX8_isWord, Cond.code yX8_isWord cX8_isWord 1 (some .boolean), Cond.methodLink RX8 136 yX0_isContent, Cond.instanceMethod yX0_isContent, Cond.selects RX0 yX0_isContent yX0_isContent, Cond.code yX0_isContent cX0_isContent 3 (some .boolean), Cond.fieldLink RX0 53 "StairCourt$Court" "hour" "I", Cond.fieldLink RX0 128 "StairCourt$Judge" "place" "I", Cond.fieldLink RX0 82 "StairCourt$Judge" "m" "I", Cond.methodLink RX0 124 yX2_nods, Cond.instanceMethod yX2_nods, Cond.selects RX2 yX2_nods yX2_nods, Cond.initialized RX2, Cond.code yX2_nods cX2_nods 3 (some .boolean), Cond.fieldLink RX2 9 "StairCourt$Judge" "kind" "I", Cond.fieldLink RX2 15 "StairCourt$Judge" "m" "I", Cond.fieldLink RX2 21 "StairCourt$Judge" "place" "I", Cond.fieldLink RX2 18 "StairCourt$Judge" "heard" "I", Cond.methodLink RX2 24 yX2_nodsStrictly, Cond.instanceMethod yX2_nodsStrictly, Cond.selects RX2 yX2_nodsStrictly yX2_nodsStrictly]
def wsX8_cheapest_r4 : List Cond := [Cond.code yX2_nodsStrictly cX2_nodsStrictly 2 (some .boolean), Cond.methodLink RX2 31 yX2_nodsPlainly, Cond.instanceMethod yX2_nodsPlainly, Cond.selects RX2 yX2_nodsPlainly yX2_nodsPlainly, Cond.code yX2_nodsPlainly cX2_nodsPlainly 2 (some .boolean), Cond.methodLink RX2 28 yX2_nodsMildly, Cond.instanceMethod yX2_nodsMildly, Cond.selects RX2 yX2_nodsMildly yX2_nodsMildly, Cond.code yX2_nodsMildly cX2_nodsMildly 2 (some .boolean), Cond.methodLink RX0 131 yX0_gives, Cond.instanceMethod yX0_gives, Cond.selects RX0 yX0_gives yX0_gives, Cond.code yX0_gives cX0_gives 5 (some .int), Cond.fieldLink RX0 33 "StairCourt$Court" "heeds" "LStairCourt$Text;", Cond.fieldLink RX0 37 "StairCourt$Court" "bribes" "LStairCourt$Text;", Cond.methodLink RX0 104 yX6_isThere, Cond.instanceMethod yX6_isThere, Cond.selects RX6 yX6_isThere yX6_isThere, Cond.initialized RX6, Cond.code yX6_isThere cX6_isThere 1 (some .boolean), Cond.fieldLink RX6 18 "StairCourt$Text" "length" "I", Cond.methodLink RX0 108 yX6_work, Cond.instanceMethod yX6_work, Cond.selects RX6 yX6_work yX6_work]
def wsX8_cheapest_r5 : List Cond := [Cond.code yX6_work cX6_work 7 (some .int), Cond.fieldLink RX6 9 "StairCourt$Text" "codes" "[I", Cond.fieldLink RX6 15 "StairCourt$Text" "open" "[I", Cond.methodLink RX6 28 yX6_nameAt, Cond.static yX6_nameAt, Cond.code yX6_nameAt cX6_nameAt 4 (some .int), Cond.methodLink RX6 32 yX6_join, Cond.static yX6_join, Cond.code yX6_join cX6_join 3 (some .int), Cond.methodLink RX0 112 yX0_hold, Cond.static yX0_hold, Cond.code yX0_hold cX0_hold 2 (some .int), Cond.methodLink RX0 116 Lib.Math.min.name, Cond.static Lib.Math.min.name, Cond.initialized "java/lang/Math", Cond.code Lib.Math.min.name Lib.Math.min.code 2 (some .int), Cond.methodLink RX0 121 Lib.Math.max.name, Cond.static Lib.Math.max.name, Cond.code Lib.Math.max.name Lib.Math.max.code 2 (some .int), Cond.methodLink RX8 95 yX0_bribeOf, Cond.instanceMethod yX0_bribeOf, Cond.selects RX0 yX0_bribeOf yX0_bribeOf, Cond.code yX0_bribeOf cX0_bribeOf 2 (some .int), Cond.fieldLink RX0 79 "StairCourt$Judge" "kind" "I"]
def wsX8_cheapest_r6 : List Cond := [Cond.methodLink RX0 135 yX2_wants, Cond.instanceMethod yX2_wants, Cond.selects RX2 yX2_wants yX2_wants, Cond.code yX2_wants cX2_wants 2 (some .int)]
def wsX8_cheapest : List Cond := .code yX8_cheapest cX8_cheapest 10 (some .int) :: ((wsX8_cheapest_r1 ++ (wsX8_cheapest_r2 ++ (wsX8_cheapest_r3 ++ (wsX8_cheapest_r4 ++ (wsX8_cheapest_r5 ++ wsX8_cheapest_r6))))) ++ wsX80 ++ wsX30 ++ wsX00 ++ wsX50 ++ wsX20 ++ wsX60)
def wsX8_sharedDivisor : List Cond := .code yX8_sharedDivisor cX8_sharedDivisor 11 (some .long) :: ([])
def wsX8_odds_r1 : List Cond := [Cond.fieldLink RX8 12 "StairCourt" "now" "LStairCourt$Court;", Cond.constant RX8 67 (-1000000001), Cond.fieldLink RX8 114 "StairCourt$Person" "at" "I", Cond.constantLong RX8 241 (100), Cond.methodLink RX8 110 yX0_personOf, Cond.instanceMethod yX0_personOf, Cond.selects RX0 yX0_personOf yX0_personOf, Cond.initialized RX0, Cond.code yX0_personOf cX0_personOf 2 (some (.object "StairCourt$Person")), Cond.fieldLink RX0 27 "StairCourt$Court" "people" "I", Cond.fieldLink RX0 23 "StairCourt$Court" "persons" "[LStairCourt$Person;", Cond.methodLink RX8 63 yX8_within, Cond.static yX8_within, Cond.initialized RX8, Cond.code yX8_within cX8_within 3 (some .boolean), Cond.methodLink RX8 68 yX8_error, Cond.instanceMethod yX8_error, Cond.selects RX8 yX8_error yX8_error, Cond.code yX8_error cX8_error 3 (some .int), Cond.constant RX8 294 (-1000000000), Cond.fieldLink RX8 55 "StairCourt" "errors" "[I", Cond.methodLink RX8 80 yX0_judgeOn, Cond.instanceMethod yX0_judgeOn, Cond.selects RX0 yX0_judgeOn yX0_judgeOn]
def wsX8_odds_r2 : List Cond := [Cond.code yX0_judgeOn cX0_judgeOn 2 (some (.object "StairCourt$Judge")), Cond.fieldLink RX0 17 "StairCourt$Court" "steps" "I", Cond.fieldLink RX0 11 "StairCourt$Court" "judges" "[LStairCourt$Judge;", Cond.methodLink RX8 204 yX0_contentWords, Cond.instanceMethod yX0_contentWords, Cond.selects RX0 yX0_contentWords yX0_contentWords, Cond.code yX0_contentWords cX0_contentWords 4 (some .int), Cond.methodLink RX0 139 yX0_isContent, Cond.instanceMethod yX0_isContent, Cond.selects RX0 yX0_isContent yX0_isContent, Cond.code yX0_isContent cX0_isContent 3 (some .boolean), Cond.fieldLink RX0 53 "StairCourt$Court" "hour" "I", Cond.fieldLink RX0 128 "StairCourt$Judge" "place" "I", Cond.fieldLink RX0 82 "StairCourt$Judge" "m" "I", Cond.methodLink RX0 124 yX2_nods, Cond.instanceMethod yX2_nods, Cond.selects RX2 yX2_nods yX2_nods, Cond.initialized RX2, Cond.code yX2_nods cX2_nods 3 (some .boolean), Cond.fieldLink RX2 9 "StairCourt$Judge" "kind" "I", Cond.fieldLink RX2 15 "StairCourt$Judge" "m" "I", Cond.fieldLink RX2 21 "StairCourt$Judge" "place" "I", Cond.fieldLink RX2 18 "StairCourt$Judge" "heard" "I", Cond.methodLink RX2 24 yX2_nodsStrictly]
def wsX8_odds_r3 : List Cond := [Cond.instanceMethod yX2_nodsStrictly, Cond.selects RX2 yX2_nodsStrictly yX2_nodsStrictly, Cond.code yX2_nodsStrictly cX2_nodsStrictly 2 (some .boolean), Cond.methodLink RX2 31 yX2_nodsPlainly, Cond.instanceMethod yX2_nodsPlainly, Cond.selects RX2 yX2_nodsPlainly yX2_nodsPlainly, Cond.code yX2_nodsPlainly cX2_nodsPlainly 2 (some .boolean), Cond.methodLink RX2 28 yX2_nodsMildly, Cond.instanceMethod yX2_nodsMildly, Cond.selects RX2 yX2_nodsMildly yX2_nodsMildly, Cond.code yX2_nodsMildly cX2_nodsMildly 2 (some .boolean), Cond.methodLink RX0 131 yX0_gives, Cond.instanceMethod yX0_gives, Cond.selects RX0 yX0_gives yX0_gives, Cond.code yX0_gives cX0_gives 5 (some .int), Cond.fieldLink RX0 33 "StairCourt$Court" "heeds" "LStairCourt$Text;", Cond.fieldLink RX0 37 "StairCourt$Court" "bribes" "LStairCourt$Text;", Cond.methodLink RX0 104 yX6_isThere, Cond.instanceMethod yX6_isThere, Cond.selects RX6 yX6_isThere yX6_isThere, Cond.initialized RX6, Cond.code yX6_isThere cX6_isThere 1 (some .boolean), Cond.fieldLink RX6 18 "StairCourt$Text" "length" "I", Cond.methodLink RX0 108 yX6_work]
def wsX8_odds_r4 : List Cond := [Cond.instanceMethod yX6_work, Cond.selects RX6 yX6_work yX6_work, Cond.code yX6_work cX6_work 7 (some .int), Cond.fieldLink RX6 9 "StairCourt$Text" "codes" "[I", Cond.fieldLink RX6 15 "StairCourt$Text" "open" "[I", Cond.methodLink RX6 28 yX6_nameAt, Cond.static yX6_nameAt, Cond.code yX6_nameAt cX6_nameAt 4 (some .int), Cond.methodLink RX6 32 yX6_join, Cond.static yX6_join, Cond.code yX6_join cX6_join 3 (some .int), Cond.methodLink RX0 112 yX0_hold, Cond.static yX0_hold, Cond.code yX0_hold cX0_hold 2 (some .int), Cond.methodLink RX0 116 Lib.Math.min.name, Cond.static Lib.Math.min.name, Cond.initialized "java/lang/Math", Cond.code Lib.Math.min.name Lib.Math.min.code 2 (some .int), Cond.methodLink RX0 121 Lib.Math.max.name, Cond.static Lib.Math.max.name, Cond.code Lib.Math.max.name Lib.Math.max.code 2 (some .int), Cond.methodLink RX8 243 yX8_sharedDivisor, Cond.static yX8_sharedDivisor, Cond.code yX8_sharedDivisor cX8_sharedDivisor 11 (some .long)]
def wsX8_odds : List Cond := .code yX8_odds cX8_odds 13 (some .long) :: ((wsX8_odds_r1 ++ (wsX8_odds_r2 ++ (wsX8_odds_r3 ++ wsX8_odds_r4))) ++ wsX80 ++ wsX30 ++ wsX00 ++ wsX20 ++ wsX60)
def wsX8_isToldBy_r1 : List Cond := [Cond.fieldLink RX8 224 "StairCourt$Sheet" "length" "I", Cond.fieldLink RX8 12 "StairCourt" "now" "LStairCourt$Court;", Cond.methodLink RX8 80 yX0_judgeOn, Cond.instanceMethod yX0_judgeOn, Cond.selects RX0 yX0_judgeOn yX0_judgeOn, Cond.initialized RX0, Cond.code yX0_judgeOn cX0_judgeOn 2 (some (.object "StairCourt$Judge")), Cond.fieldLink RX0 17 "StairCourt$Court" "steps" "I", Cond.fieldLink RX0 11 "StairCourt$Court" "judges" "[LStairCourt$Judge;", Cond.methodLink RX8 227 yX5_get, Cond.instanceMethod yX5_get, Cond.selects RX5 yX5_get yX5_get, Cond.initialized RX5, Cond.code yX5_get cX5_get 2 (some .int), Cond.fieldLink RX5 19 "StairCourt$Sheet" "length" "I", Cond.fieldLink RX5 9 "StairCourt$Sheet" "numbers" "[I", Cond.methodLink RX8 136 yX0_isContent, Cond.instanceMethod yX0_isContent, Cond.selects RX0 yX0_isContent yX0_isContent, Cond.code yX0_isContent cX0_isContent 3 (some .boolean), Cond.fieldLink RX0 53 "StairCourt$Court" "hour" "I", Cond.fieldLink RX0 128 "StairCourt$Judge" "place" "I", Cond.fieldLink RX0 82 "StairCourt$Judge" "m" "I", Cond.methodLink RX0 124 yX2_nods]
def wsX8_isToldBy_r2 : List Cond := [Cond.instanceMethod yX2_nods, Cond.selects RX2 yX2_nods yX2_nods, Cond.initialized RX2, Cond.code yX2_nods cX2_nods 3 (some .boolean), Cond.fieldLink RX2 9 "StairCourt$Judge" "kind" "I", Cond.fieldLink RX2 15 "StairCourt$Judge" "m" "I", Cond.fieldLink RX2 21 "StairCourt$Judge" "place" "I", Cond.fieldLink RX2 18 "StairCourt$Judge" "heard" "I", Cond.methodLink RX2 24 yX2_nodsStrictly, Cond.instanceMethod yX2_nodsStrictly, Cond.selects RX2 yX2_nodsStrictly yX2_nodsStrictly, Cond.code yX2_nodsStrictly cX2_nodsStrictly 2 (some .boolean), Cond.methodLink RX2 31 yX2_nodsPlainly, Cond.instanceMethod yX2_nodsPlainly, Cond.selects RX2 yX2_nodsPlainly yX2_nodsPlainly, Cond.code yX2_nodsPlainly cX2_nodsPlainly 2 (some .boolean), Cond.methodLink RX2 28 yX2_nodsMildly, Cond.instanceMethod yX2_nodsMildly, Cond.selects RX2 yX2_nodsMildly yX2_nodsMildly, Cond.code yX2_nodsMildly cX2_nodsMildly 2 (some .boolean), Cond.methodLink RX0 131 yX0_gives, Cond.instanceMethod yX0_gives, Cond.selects RX0 yX0_gives yX0_gives, Cond.code yX0_gives cX0_gives 5 (some .int)]
def wsX8_isToldBy_r3 : List Cond := [Cond.fieldLink RX0 33 "StairCourt$Court" "heeds" "LStairCourt$Text;", Cond.fieldLink RX0 37 "StairCourt$Court" "bribes" "LStairCourt$Text;", Cond.methodLink RX0 104 yX6_isThere, Cond.instanceMethod yX6_isThere, Cond.selects RX6 yX6_isThere yX6_isThere, Cond.initialized RX6, Cond.code yX6_isThere cX6_isThere 1 (some .boolean), Cond.fieldLink RX6 18 "StairCourt$Text" "length" "I", Cond.methodLink RX0 108 yX6_work, Cond.instanceMethod yX6_work, Cond.selects RX6 yX6_work yX6_work, Cond.code yX6_work cX6_work 7 (some .int), Cond.fieldLink RX6 9 "StairCourt$Text" "codes" "[I", Cond.fieldLink RX6 15 "StairCourt$Text" "open" "[I", Cond.methodLink RX6 28 yX6_nameAt, Cond.static yX6_nameAt, Cond.code yX6_nameAt cX6_nameAt 4 (some .int), Cond.methodLink RX6 32 yX6_join, Cond.static yX6_join, Cond.code yX6_join cX6_join 3 (some .int), Cond.methodLink RX0 112 yX0_hold, Cond.static yX0_hold, Cond.code yX0_hold cX0_hold 2 (some .int), Cond.methodLink RX0 116 Lib.Math.min.name]
def wsX8_isToldBy_r4 : List Cond := [Cond.static Lib.Math.min.name, Cond.initialized "java/lang/Math", Cond.code Lib.Math.min.name Lib.Math.min.code 2 (some .int), Cond.methodLink RX0 121 Lib.Math.max.name, Cond.static Lib.Math.max.name, Cond.code Lib.Math.max.name Lib.Math.max.code 2 (some .int)]
def wsX8_isToldBy : List Cond := .code yX8_isToldBy cX8_isToldBy 5 (some .boolean) :: ((wsX8_isToldBy_r1 ++ (wsX8_isToldBy_r2 ++ (wsX8_isToldBy_r3 ++ wsX8_isToldBy_r4))) ++ wsX50 ++ wsX80 ++ wsX00 ++ wsX20 ++ wsX60)
def wsX8_fits_r1 : List Cond := [Cond.constant RX8 67 (-1000000001), Cond.constant RX8 210 (-1000000002), Cond.methodLink RX8 214 yX8_sheetOf, Cond.instanceMethod yX8_sheetOf, Cond.selects RX8 yX8_sheetOf yX8_sheetOf, Cond.initialized RX8, Cond.code yX8_sheetOf cX8_sheetOf 2 (some (.object "StairCourt$Sheet")), Cond.fieldLink RX8 51 "StairCourt" "sheets" "[LStairCourt$Sheet;", Cond.methodLink RX8 63 yX8_within, Cond.static yX8_within, Cond.code yX8_within cX8_within 3 (some .boolean), Cond.methodLink RX8 68 yX8_error, Cond.instanceMethod yX8_error, Cond.selects RX8 yX8_error yX8_error, Cond.code yX8_error cX8_error 3 (some .int), Cond.constant RX8 294 (-1000000000), Cond.fieldLink RX8 55 "StairCourt" "errors" "[I", Cond.methodLink RX8 218 yX5_isMissing, Cond.instanceMethod yX5_isMissing, Cond.selects RX5 yX5_isMissing yX5_isMissing, Cond.initialized RX5, Cond.code yX5_isMissing cX5_isMissing 1 (some .boolean), Cond.fieldLink RX5 15 "StairCourt$Sheet" "bits" "I", Cond.methodLink RX8 247 yX8_isToldBy]
def wsX8_fits_r2 : List Cond := [Cond.instanceMethod yX8_isToldBy, Cond.selects RX8 yX8_isToldBy yX8_isToldBy, Cond.code yX8_isToldBy cX8_isToldBy 5 (some .boolean), Cond.fieldLink RX8 224 "StairCourt$Sheet" "length" "I", Cond.fieldLink RX8 12 "StairCourt" "now" "LStairCourt$Court;", Cond.methodLink RX8 80 yX0_judgeOn, Cond.instanceMethod yX0_judgeOn, Cond.selects RX0 yX0_judgeOn yX0_judgeOn, Cond.initialized RX0, Cond.code yX0_judgeOn cX0_judgeOn 2 (some (.object "StairCourt$Judge")), Cond.fieldLink RX0 17 "StairCourt$Court" "steps" "I", Cond.fieldLink RX0 11 "StairCourt$Court" "judges" "[LStairCourt$Judge;", Cond.methodLink RX8 227 yX5_get, Cond.instanceMethod yX5_get, Cond.selects RX5 yX5_get yX5_get, Cond.code yX5_get cX5_get 2 (some .int), Cond.fieldLink RX5 19 "StairCourt$Sheet" "length" "I", Cond.fieldLink RX5 9 "StairCourt$Sheet" "numbers" "[I", Cond.methodLink RX8 136 yX0_isContent, Cond.instanceMethod yX0_isContent, Cond.selects RX0 yX0_isContent yX0_isContent, Cond.code yX0_isContent cX0_isContent 3 (some .boolean), Cond.fieldLink RX0 53 "StairCourt$Court" "hour" "I", Cond.fieldLink RX0 128 "StairCourt$Judge" "place" "I"]
def wsX8_fits_r3 : List Cond := [Cond.fieldLink RX0 82 "StairCourt$Judge" "m" "I", Cond.methodLink RX0 124 yX2_nods, Cond.instanceMethod yX2_nods, Cond.selects RX2 yX2_nods yX2_nods, Cond.initialized RX2, Cond.code yX2_nods cX2_nods 3 (some .boolean), Cond.fieldLink RX2 9 "StairCourt$Judge" "kind" "I", Cond.fieldLink RX2 15 "StairCourt$Judge" "m" "I", Cond.fieldLink RX2 21 "StairCourt$Judge" "place" "I", Cond.fieldLink RX2 18 "StairCourt$Judge" "heard" "I", Cond.methodLink RX2 24 yX2_nodsStrictly, Cond.instanceMethod yX2_nodsStrictly, Cond.selects RX2 yX2_nodsStrictly yX2_nodsStrictly, Cond.code yX2_nodsStrictly cX2_nodsStrictly 2 (some .boolean), Cond.methodLink RX2 31 yX2_nodsPlainly, Cond.instanceMethod yX2_nodsPlainly, Cond.selects RX2 yX2_nodsPlainly yX2_nodsPlainly, Cond.code yX2_nodsPlainly cX2_nodsPlainly 2 (some .boolean), Cond.methodLink RX2 28 yX2_nodsMildly, Cond.instanceMethod yX2_nodsMildly, Cond.selects RX2 yX2_nodsMildly yX2_nodsMildly, Cond.code yX2_nodsMildly cX2_nodsMildly 2 (some .boolean), Cond.methodLink RX0 131 yX0_gives, Cond.instanceMethod yX0_gives]
def wsX8_fits_r4 : List Cond := [Cond.selects RX0 yX0_gives yX0_gives, Cond.code yX0_gives cX0_gives 5 (some .int), Cond.fieldLink RX0 33 "StairCourt$Court" "heeds" "LStairCourt$Text;", Cond.fieldLink RX0 37 "StairCourt$Court" "bribes" "LStairCourt$Text;", Cond.methodLink RX0 104 yX6_isThere, Cond.instanceMethod yX6_isThere, Cond.selects RX6 yX6_isThere yX6_isThere, Cond.initialized RX6, Cond.code yX6_isThere cX6_isThere 1 (some .boolean), Cond.fieldLink RX6 18 "StairCourt$Text" "length" "I", Cond.methodLink RX0 108 yX6_work, Cond.instanceMethod yX6_work, Cond.selects RX6 yX6_work yX6_work, Cond.code yX6_work cX6_work 7 (some .int), Cond.fieldLink RX6 9 "StairCourt$Text" "codes" "[I", Cond.fieldLink RX6 15 "StairCourt$Text" "open" "[I", Cond.methodLink RX6 28 yX6_nameAt, Cond.static yX6_nameAt, Cond.code yX6_nameAt cX6_nameAt 4 (some .int), Cond.methodLink RX6 32 yX6_join, Cond.static yX6_join, Cond.code yX6_join cX6_join 3 (some .int), Cond.methodLink RX0 112 yX0_hold, Cond.static yX0_hold]
def wsX8_fits_r5 : List Cond := [Cond.code yX0_hold cX0_hold 2 (some .int), Cond.methodLink RX0 116 Lib.Math.min.name, Cond.static Lib.Math.min.name, Cond.initialized "java/lang/Math", Cond.code Lib.Math.min.name Lib.Math.min.code 2 (some .int), Cond.methodLink RX0 121 Lib.Math.max.name, Cond.static Lib.Math.max.name, Cond.code Lib.Math.max.name Lib.Math.max.code 2 (some .int)]
def wsX8_fits : List Cond := .code yX8_fits cX8_fits 7 (some .int) :: ((wsX8_fits_r1 ++ (wsX8_fits_r2 ++ (wsX8_fits_r3 ++ (wsX8_fits_r4 ++ wsX8_fits_r5)))) ++ wsX80 ++ wsX50 ++ wsX00 ++ wsX20 ++ wsX60)
def wsX8_voice_r1 : List Cond := [Cond.fieldLink RX8 12 "StairCourt" "now" "LStairCourt$Court;", Cond.constant RX8 67 (-1000000001), Cond.fieldLink RX8 38 "StairCourt" "voices" "LStairCourt$Voices;", Cond.fieldLink RX8 255 "StairCourt$Voices" "parted" "Z", Cond.constant RX8 259 (-1000000006), Cond.methodLink RX8 80 yX0_judgeOn, Cond.instanceMethod yX0_judgeOn, Cond.selects RX0 yX0_judgeOn yX0_judgeOn, Cond.initialized RX0, Cond.code yX0_judgeOn cX0_judgeOn 2 (some (.object "StairCourt$Judge")), Cond.fieldLink RX0 17 "StairCourt$Court" "steps" "I", Cond.fieldLink RX0 11 "StairCourt$Court" "judges" "[LStairCourt$Judge;", Cond.methodLink RX8 63 yX8_within, Cond.static yX8_within, Cond.initialized RX8, Cond.code yX8_within cX8_within 3 (some .boolean), Cond.methodLink RX8 68 yX8_error, Cond.instanceMethod yX8_error, Cond.selects RX8 yX8_error yX8_error, Cond.code yX8_error cX8_error 3 (some .int), Cond.constant RX8 294 (-1000000000), Cond.fieldLink RX8 55 "StairCourt" "errors" "[I", Cond.methodLink RX8 251 yX7_sound, Cond.instanceMethod yX7_sound]
def wsX8_voice_r2 : List Cond := [Cond.selects RX7 yX7_sound yX7_sound, Cond.initialized RX7, Cond.code yX7_sound cX7_sound 4 (some .int), Cond.fieldLink RX7 9 "StairCourt$Voices" "traced" "I", Cond.fieldLink RX7 15 "StairCourt$Voices" "parted" "Z", Cond.fieldLink RX7 32 "StairCourt$Judge" "kind" "I", Cond.fieldLink RX7 23 "StairCourt$Voices" "kind" "I", Cond.fieldLink RX7 35 "StairCourt$Judge" "m" "I", Cond.fieldLink RX7 26 "StairCourt$Voices" "m" "I", Cond.fieldLink RX7 36 "StairCourt$Judge" "place" "I", Cond.fieldLink RX7 29 "StairCourt$Voices" "place" "I", Cond.methodLink RX7 37 yX7_own, Cond.instanceMethod yX7_own, Cond.selects RX7 yX7_own yX7_own, Cond.code yX7_own cX7_own 4 (some .int), Cond.methodLink RX7 41 yX7_bodyFrom, Cond.static yX7_bodyFrom, Cond.code yX7_bodyFrom cX7_bodyFrom 4 (some .int), Cond.methodLink RX7 52 yX7_bodyOf, Cond.static yX7_bodyOf, Cond.code yX7_bodyOf cX7_bodyOf 3 (some .int), Cond.static yX8_kindAbove, Cond.code yX8_kindAbove cX8_kindAbove 1 (some .int), Cond.fieldLink RX8 295 "StairCourt" "ABOVE" "[I"]
def wsX8_voice_r3 : List Cond := [Cond.methodLink RX7 45 yX7_begin, Cond.instanceMethod yX7_begin, Cond.selects RX7 yX7_begin yX7_begin, Cond.code yX7_above cX7_above 5 (some .int), Cond.code yX7_begin cX7_begin 4 (some .int), Cond.methodLink RX7 58 yX7_note, Cond.instanceMethod yX7_note, Cond.selects RX7 yX7_note yX7_note, Cond.code yX7_note cX7_note 2 none, Cond.fieldLink RX7 19 "StairCourt$Voices" "trace" "[I", Cond.methodLink RX7 62 yX7_part, Cond.instanceMethod yX7_part, Cond.selects RX7 yX7_part yX7_part, Cond.code yX7_part cX7_part 3 (some .int), Cond.methodLink RX7 65 yX7_above, Cond.instanceMethod yX7_above, Cond.selects RX7 yX7_above yX7_above]
def wsX8_voice : List Cond := .code yX8_voice cX8_voice 6 (some .int) :: ((wsX8_voice_r1 ++ (wsX8_voice_r2 ++ wsX8_voice_r3)) ++ wsX80 ++ wsX70 ++ wsX00 ++ wsX20)
def wsX8_body : List Cond := .code yX8_body cX8_body 2 (some .int) :: ([.fieldLink RX8 38 "StairCourt" "voices" "LStairCourt$Voices;", .fieldLink RX8 260 "StairCourt$Voices" "traced" "I", .constant RX8 210 (-1000000002), .methodLink RX8 63 yX8_within, .static yX8_within, .initialized RX8, .code yX8_within cX8_within 3 (some .boolean), .methodLink RX8 263 yX7_bodyAt, .instanceMethod yX7_bodyAt, .selects RX7 yX7_bodyAt yX7_bodyAt, .initialized RX7, .code yX7_bodyAt cX7_bodyAt 2 (some .int), .fieldLink RX7 9 "StairCourt$Voices" "traced" "I", .fieldLink RX7 19 "StairCourt$Voices" "trace" "[I", .methodLink RX8 68 yX8_error, .instanceMethod yX8_error, .selects RX8 yX8_error yX8_error, .code yX8_error cX8_error 3 (some .int), .constant RX8 294 (-1000000000), .fieldLink RX8 55 "StairCourt" "errors" "[I"] ++ wsX80 ++ wsX70)
def wsX8_sheet_r1 : List Cond := [Cond.constant RX8 67 (-1000000001), Cond.constant RX8 143 (-1000000003), Cond.methodLink RX8 214 yX8_sheetOf, Cond.instanceMethod yX8_sheetOf, Cond.selects RX8 yX8_sheetOf yX8_sheetOf, Cond.initialized RX8, Cond.code yX8_sheetOf cX8_sheetOf 2 (some (.object "StairCourt$Sheet")), Cond.fieldLink RX8 51 "StairCourt" "sheets" "[LStairCourt$Sheet;", Cond.methodLink RX8 68 yX8_error, Cond.instanceMethod yX8_error, Cond.selects RX8 yX8_error yX8_error, Cond.code yX8_error cX8_error 3 (some .int), Cond.constant RX8 294 (-1000000000), Cond.fieldLink RX8 55 "StairCourt" "errors" "[I", Cond.methodLink RX8 63 yX8_within, Cond.static yX8_within, Cond.code yX8_within cX8_within 3 (some .boolean), Cond.methodLink RX8 266 yX5_renew, Cond.instanceMethod yX5_renew, Cond.selects RX5 yX5_renew yX5_renew, Cond.initialized RX5, Cond.code yX5_renew cX5_renew 3 none, Cond.fieldLink RX5 9 "StairCourt$Sheet" "numbers" "[I", Cond.fieldLink RX5 15 "StairCourt$Sheet" "bits" "I"]
def wsX8_sheet_r2 : List Cond := [Cond.methodLink RX5 28 Lib.Math.min.name, Cond.static Lib.Math.min.name, Cond.initialized "java/lang/Math", Cond.code Lib.Math.min.name Lib.Math.min.code 2 (some .int), Cond.methodLink RX5 34 Lib.Math.max.name, Cond.static Lib.Math.max.name, Cond.code Lib.Math.max.name Lib.Math.max.code 2 (some .int), Cond.fieldLink RX5 19 "StairCourt$Sheet" "length" "I", Cond.methodLink RX5 22 yJ7_fill_53178, Cond.static yJ7_fill_53178, Cond.initialized RJ7, Cond.code yJ7_fill_53178 cJ7_fill_53178 4 none]
def wsX8_sheet : List Cond := .code yX8_sheet cX8_sheet 5 (some .int) :: ((wsX8_sheet_r1 ++ wsX8_sheet_r2) ++ wsX80 ++ wsX50)
def wsX8_put_r1 : List Cond := [Cond.constant RX8 67 (-1000000001), Cond.constant RX8 210 (-1000000002), Cond.fieldLink RX8 224 "StairCourt$Sheet" "length" "I", Cond.methodLink RX8 214 yX8_sheetOf, Cond.instanceMethod yX8_sheetOf, Cond.selects RX8 yX8_sheetOf yX8_sheetOf, Cond.initialized RX8, Cond.code yX8_sheetOf cX8_sheetOf 2 (some (.object "StairCourt$Sheet")), Cond.fieldLink RX8 51 "StairCourt" "sheets" "[LStairCourt$Sheet;", Cond.methodLink RX8 68 yX8_error, Cond.instanceMethod yX8_error, Cond.selects RX8 yX8_error yX8_error, Cond.code yX8_error cX8_error 3 (some .int), Cond.constant RX8 294 (-1000000000), Cond.fieldLink RX8 55 "StairCourt" "errors" "[I", Cond.methodLink RX8 63 yX8_within, Cond.static yX8_within, Cond.code yX8_within cX8_within 3 (some .boolean), Cond.methodLink RX8 218 yX5_isMissing, Cond.instanceMethod yX5_isMissing, Cond.selects RX5 yX5_isMissing yX5_isMissing, Cond.initialized RX5, Cond.code yX5_isMissing cX5_isMissing 1 (some .boolean), Cond.fieldLink RX5 15 "StairCourt$Sheet" "bits" "I"]
def wsX8_put_r2 : List Cond := [Cond.methodLink RX8 270 yX5_set, Cond.instanceMethod yX5_set, Cond.selects RX5 yX5_set yX5_set, Cond.code yX5_set cX5_set 3 none, Cond.fieldLink RX5 19 "StairCourt$Sheet" "length" "I", Cond.fieldLink RX5 9 "StairCourt$Sheet" "numbers" "[I", Cond.methodLink RX5 37 yX5_lowest, Cond.instanceMethod yX5_lowest, Cond.selects RX5 yX5_lowest yX5_lowest, Cond.code yX5_lowest cX5_lowest 2 (some .int), Cond.constant RX5 41 (65535)]
def wsX8_put : List Cond := .code yX8_put cX8_put 5 (some .int) :: ((wsX8_put_r1 ++ wsX8_put_r2) ++ wsX50 ++ wsX80)
def wsX8_move_r1 : List Cond := [Cond.constant RX8 67 (-1000000001), Cond.constant RX8 210 (-1000000002), Cond.fieldLink RX8 273 "StairCourt$Sheet" "bits" "I", Cond.constant RX8 103 (-1000000005), Cond.fieldLink RX8 279 "StairCourt$Sheet" "numbers" "[I", Cond.methodLink RX8 282 arraycopyName, Cond.native arraycopyName, Cond.static arraycopyName, Cond.initialized "java/lang/System", Cond.methodLink RX8 214 yX8_sheetOf, Cond.instanceMethod yX8_sheetOf, Cond.selects RX8 yX8_sheetOf yX8_sheetOf, Cond.initialized RX8, Cond.code yX8_sheetOf cX8_sheetOf 2 (some (.object "StairCourt$Sheet")), Cond.fieldLink RX8 51 "StairCourt" "sheets" "[LStairCourt$Sheet;", Cond.methodLink RX8 68 yX8_error, Cond.instanceMethod yX8_error, Cond.selects RX8 yX8_error yX8_error, Cond.code yX8_error cX8_error 3 (some .int), Cond.constant RX8 294 (-1000000000), Cond.fieldLink RX8 55 "StairCourt" "errors" "[I", Cond.methodLink RX8 63 yX8_within, Cond.static yX8_within, Cond.code yX8_within cX8_within 3 (some .boolean)]
def wsX8_move_r2 : List Cond := [Cond.methodLink RX8 218 yX5_isMissing, Cond.instanceMethod yX5_isMissing, Cond.selects RX5 yX5_isMissing yX5_isMissing, Cond.initialized RX5, Cond.code yX5_isMissing cX5_isMissing 1 (some .boolean), Cond.fieldLink RX5 15 "StairCourt$Sheet" "bits" "I", Cond.methodLink RX8 276 yX5_holds, Cond.instanceMethod yX5_holds, Cond.selects RX5 yX5_holds yX5_holds, Cond.code yX5_holds cX5_holds 3 (some .boolean), Cond.fieldLink RX5 19 "StairCourt$Sheet" "length" "I"]
def wsX8_move : List Cond := .code yX8_move cX8_move 8 (some .int) :: ((wsX8_move_r1 ++ wsX8_move_r2) ++ wsX50 ++ wsX80)
def wsX8_carries_r1 : List Cond := [Cond.constant RX8 67 (-1000000001), Cond.constant RX8 210 (-1000000002), Cond.fieldLink RX8 224 "StairCourt$Sheet" "length" "I", Cond.fieldLink RX8 12 "StairCourt" "now" "LStairCourt$Court;", Cond.fieldLink RX8 72 "StairCourt$Court" "steps" "I", Cond.fieldLink RX8 114 "StairCourt$Person" "at" "I", Cond.methodLink RX8 214 yX8_sheetOf, Cond.instanceMethod yX8_sheetOf, Cond.selects RX8 yX8_sheetOf yX8_sheetOf, Cond.initialized RX8, Cond.code yX8_sheetOf cX8_sheetOf 2 (some (.object "StairCourt$Sheet")), Cond.fieldLink RX8 51 "StairCourt" "sheets" "[LStairCourt$Sheet;", Cond.methodLink RX8 68 yX8_error, Cond.instanceMethod yX8_error, Cond.selects RX8 yX8_error yX8_error, Cond.code yX8_error cX8_error 3 (some .int), Cond.constant RX8 294 (-1000000000), Cond.fieldLink RX8 55 "StairCourt" "errors" "[I", Cond.methodLink RX8 63 yX8_within, Cond.static yX8_within, Cond.code yX8_within cX8_within 3 (some .boolean), Cond.methodLink RX8 218 yX5_isMissing, Cond.instanceMethod yX5_isMissing, Cond.selects RX5 yX5_isMissing yX5_isMissing]
def wsX8_carries_r2 : List Cond := [Cond.initialized RX5, Cond.code yX5_isMissing cX5_isMissing 1 (some .boolean), Cond.fieldLink RX5 15 "StairCourt$Sheet" "bits" "I", Cond.methodLink RX8 110 yX0_personOf, Cond.instanceMethod yX0_personOf, Cond.selects RX0 yX0_personOf yX0_personOf, Cond.initialized RX0, Cond.code yX0_personOf cX0_personOf 2 (some (.object "StairCourt$Person")), Cond.fieldLink RX0 27 "StairCourt$Court" "people" "I", Cond.fieldLink RX0 23 "StairCourt$Court" "persons" "[LStairCourt$Person;", Cond.methodLink RX8 227 yX5_get, Cond.instanceMethod yX5_get, Cond.selects RX5 yX5_get yX5_get, Cond.code yX5_get cX5_get 2 (some .int), Cond.fieldLink RX5 19 "StairCourt$Sheet" "length" "I", Cond.fieldLink RX5 9 "StairCourt$Sheet" "numbers" "[I"]
def wsX8_carries : List Cond := .code yX8_carries cX8_carries 5 (some .int) :: ((wsX8_carries_r1 ++ wsX8_carries_r2) ++ wsX50 ++ wsX80 ++ wsX00 ++ wsX30)
def wsX8_judge_r1 : List Cond := [Cond.constant RX8 67 (-1000000001), Cond.constant RX8 210 (-1000000002), Cond.fieldLink RX8 224 "StairCourt$Sheet" "length" "I", Cond.fieldLink RX8 12 "StairCourt" "now" "LStairCourt$Court;", Cond.fieldLink RX8 114 "StairCourt$Person" "at" "I", Cond.methodLink RX8 214 yX8_sheetOf, Cond.instanceMethod yX8_sheetOf, Cond.selects RX8 yX8_sheetOf yX8_sheetOf, Cond.initialized RX8, Cond.code yX8_sheetOf cX8_sheetOf 2 (some (.object "StairCourt$Sheet")), Cond.fieldLink RX8 51 "StairCourt" "sheets" "[LStairCourt$Sheet;", Cond.methodLink RX8 68 yX8_error, Cond.instanceMethod yX8_error, Cond.selects RX8 yX8_error yX8_error, Cond.code yX8_error cX8_error 3 (some .int), Cond.constant RX8 294 (-1000000000), Cond.fieldLink RX8 55 "StairCourt" "errors" "[I", Cond.methodLink RX8 63 yX8_within, Cond.static yX8_within, Cond.code yX8_within cX8_within 3 (some .boolean), Cond.methodLink RX8 218 yX5_isMissing, Cond.instanceMethod yX5_isMissing, Cond.selects RX5 yX5_isMissing yX5_isMissing, Cond.initialized RX5]
def wsX8_judge_r2 : List Cond := [Cond.code yX5_isMissing cX5_isMissing 1 (some .boolean), Cond.fieldLink RX5 15 "StairCourt$Sheet" "bits" "I", Cond.methodLink RX8 110 yX0_personOf, Cond.instanceMethod yX0_personOf, Cond.selects RX0 yX0_personOf yX0_personOf, Cond.initialized RX0, Cond.code yX0_personOf cX0_personOf 2 (some (.object "StairCourt$Person")), Cond.fieldLink RX0 27 "StairCourt$Court" "people" "I", Cond.fieldLink RX0 23 "StairCourt$Court" "persons" "[LStairCourt$Person;", Cond.methodLink RX8 227 yX5_get, Cond.instanceMethod yX5_get, Cond.selects RX5 yX5_get yX5_get, Cond.code yX5_get cX5_get 2 (some .int), Cond.fieldLink RX5 19 "StairCourt$Sheet" "length" "I", Cond.fieldLink RX5 9 "StairCourt$Sheet" "numbers" "[I"]
def wsX8_judge : List Cond := .code yX8_judge cX8_judge 5 (some .int) :: ((wsX8_judge_r1 ++ wsX8_judge_r2) ++ wsX50 ++ wsX80 ++ wsX30 ++ wsX00)
def wsX8_image_r1 : List Cond := [Cond.fieldLink RX8 16 "StairCourt" "kept" "LStairCourt$Court;", Cond.fieldLink RX8 12 "StairCourt" "now" "LStairCourt$Court;", Cond.fieldLink RX8 58 "StairCourt" "images" "I", Cond.methodLink RX8 211 yX0_copyFrom, Cond.instanceMethod yX0_copyFrom, Cond.selects RX0 yX0_copyFrom yX0_copyFrom, Cond.initialized RX0, Cond.code yX0_copyFrom cX0_copyFrom 3 none, Cond.fieldLink RX0 17 "StairCourt$Court" "steps" "I", Cond.fieldLink RX0 11 "StairCourt$Court" "judges" "[LStairCourt$Judge;", Cond.fieldLink RX0 27 "StairCourt$Court" "people" "I", Cond.fieldLink RX0 23 "StairCourt$Court" "persons" "[LStairCourt$Person;", Cond.fieldLink RX0 33 "StairCourt$Court" "heeds" "LStairCourt$Text;", Cond.fieldLink RX0 37 "StairCourt$Court" "bribes" "LStairCourt$Text;", Cond.fieldLink RX0 40 "StairCourt$Court" "tape" "[I", Cond.methodLink RX0 73 arraycopyName, Cond.native arraycopyName, Cond.static arraycopyName, Cond.initialized "java/lang/System", Cond.fieldLink RX0 44 "StairCourt$Court" "taped" "I", Cond.fieldLink RX0 47 "StairCourt$Court" "waits" "[I", Cond.fieldLink RX0 50 "StairCourt$Court" "waiting" "I", Cond.fieldLink RX0 53 "StairCourt$Court" "hour" "I", Cond.fieldLink RX0 56 "StairCourt$Court" "z" "I"]
def wsX8_image_r2 : List Cond := [Cond.methodLink RX0 63 yX2_copyFrom, Cond.instanceMethod yX2_copyFrom, Cond.selects RX2 yX2_copyFrom yX2_copyFrom, Cond.initialized RX2, Cond.code yX2_copyFrom cX2_copyFrom 2 none, Cond.fieldLink RX2 9 "StairCourt$Judge" "kind" "I", Cond.fieldLink RX2 15 "StairCourt$Judge" "m" "I", Cond.fieldLink RX2 18 "StairCourt$Judge" "heard" "I", Cond.methodLink RX0 67 yX3_copyFrom, Cond.instanceMethod yX3_copyFrom, Cond.selects RX3 yX3_copyFrom yX3_copyFrom, Cond.initialized RX3, Cond.code yX3_copyFrom cX3_copyFrom 2 none, Cond.fieldLink RX3 7 "StairCourt$Person" "at" "I", Cond.fieldLink RX3 13 "StairCourt$Person" "legs" "I", Cond.fieldLink RX3 16 "StairCourt$Person" "paid" "I", Cond.fieldLink RX3 19 "StairCourt$Person" "falls" "I", Cond.methodLink RX0 70 yX6_copyFrom, Cond.instanceMethod yX6_copyFrom, Cond.selects RX6 yX6_copyFrom yX6_copyFrom, Cond.initialized RX6, Cond.code yX6_copyFrom cX6_copyFrom 2 none, Cond.fieldLink RX6 9 "StairCourt$Text" "codes" "[I", Cond.methodLink RX6 22 arraycopyName]
def wsX8_image_r3 : List Cond := [Cond.fieldLink RX6 18 "StairCourt$Text" "length" "I"]
def wsX8_image : List Cond := .code yX8_image cX8_image 1 (some .int) :: ((wsX8_image_r1 ++ (wsX8_image_r2 ++ wsX8_image_r3)) ++ wsX80 ++ wsX00 ++ wsX20 ++ wsX30 ++ wsX60)
def wsX8_restore_r1 : List Cond := [Cond.fieldLink RX8 58 "StairCourt" "images" "I", Cond.constant RX8 210 (-1000000002), Cond.fieldLink RX8 12 "StairCourt" "now" "LStairCourt$Court;", Cond.fieldLink RX8 16 "StairCourt" "kept" "LStairCourt$Court;", Cond.fieldLink RX8 191 "StairCourt$Court" "hour" "I", Cond.methodLink RX8 68 yX8_error, Cond.instanceMethod yX8_error, Cond.selects RX8 yX8_error yX8_error, Cond.initialized RX8, Cond.code yX8_error cX8_error 3 (some .int), Cond.constant RX8 294 (-1000000000), Cond.fieldLink RX8 55 "StairCourt" "errors" "[I", Cond.methodLink RX8 63 yX8_within, Cond.static yX8_within, Cond.code yX8_within cX8_within 3 (some .boolean), Cond.methodLink RX8 211 yX0_copyFrom, Cond.instanceMethod yX0_copyFrom, Cond.selects RX0 yX0_copyFrom yX0_copyFrom, Cond.initialized RX0, Cond.code yX0_copyFrom cX0_copyFrom 3 none, Cond.fieldLink RX0 17 "StairCourt$Court" "steps" "I", Cond.fieldLink RX0 11 "StairCourt$Court" "judges" "[LStairCourt$Judge;", Cond.fieldLink RX0 27 "StairCourt$Court" "people" "I", Cond.fieldLink RX0 23 "StairCourt$Court" "persons" "[LStairCourt$Person;"]
def wsX8_restore_r2 : List Cond := [Cond.fieldLink RX0 33 "StairCourt$Court" "heeds" "LStairCourt$Text;", Cond.fieldLink RX0 37 "StairCourt$Court" "bribes" "LStairCourt$Text;", Cond.fieldLink RX0 40 "StairCourt$Court" "tape" "[I", Cond.methodLink RX0 73 arraycopyName, Cond.native arraycopyName, Cond.static arraycopyName, Cond.initialized "java/lang/System", Cond.fieldLink RX0 44 "StairCourt$Court" "taped" "I", Cond.fieldLink RX0 47 "StairCourt$Court" "waits" "[I", Cond.fieldLink RX0 50 "StairCourt$Court" "waiting" "I", Cond.fieldLink RX0 53 "StairCourt$Court" "hour" "I", Cond.fieldLink RX0 56 "StairCourt$Court" "z" "I", Cond.methodLink RX0 63 yX2_copyFrom, Cond.instanceMethod yX2_copyFrom, Cond.selects RX2 yX2_copyFrom yX2_copyFrom, Cond.initialized RX2, Cond.code yX2_copyFrom cX2_copyFrom 2 none, Cond.fieldLink RX2 9 "StairCourt$Judge" "kind" "I", Cond.fieldLink RX2 15 "StairCourt$Judge" "m" "I", Cond.fieldLink RX2 18 "StairCourt$Judge" "heard" "I", Cond.methodLink RX0 67 yX3_copyFrom, Cond.instanceMethod yX3_copyFrom, Cond.selects RX3 yX3_copyFrom yX3_copyFrom, Cond.initialized RX3]
def wsX8_restore_r3 : List Cond := [Cond.code yX3_copyFrom cX3_copyFrom 2 none, Cond.fieldLink RX3 7 "StairCourt$Person" "at" "I", Cond.fieldLink RX3 13 "StairCourt$Person" "legs" "I", Cond.fieldLink RX3 16 "StairCourt$Person" "paid" "I", Cond.fieldLink RX3 19 "StairCourt$Person" "falls" "I", Cond.methodLink RX0 70 yX6_copyFrom, Cond.instanceMethod yX6_copyFrom, Cond.selects RX6 yX6_copyFrom yX6_copyFrom, Cond.initialized RX6, Cond.code yX6_copyFrom cX6_copyFrom 2 none, Cond.fieldLink RX6 9 "StairCourt$Text" "codes" "[I", Cond.methodLink RX6 22 arraycopyName, Cond.fieldLink RX6 18 "StairCourt$Text" "length" "I"]
def wsX8_restore : List Cond := .code yX8_restore cX8_restore 1 (some .int) :: ((wsX8_restore_r1 ++ (wsX8_restore_r2 ++ wsX8_restore_r3)) ++ wsX80 ++ wsX00 ++ wsX20 ++ wsX30 ++ wsX60)
def wsX8_tell : List Cond := .code yX8_tell cX8_tell 2 (some .int) :: ([.fieldLink RX8 12 "StairCourt" "now" "LStairCourt$Court;", .fieldLink RX8 288 "StairCourt$Court" "waiting" "I", .fieldLink RX8 291 "StairCourt$Court" "waits" "[I", .constant RX8 75 (-1000000004), .methodLink RX8 68 yX8_error, .instanceMethod yX8_error, .selects RX8 yX8_error yX8_error, .initialized RX8, .code yX8_error cX8_error 3 (some .int), .constant RX8 294 (-1000000000), .fieldLink RX8 55 "StairCourt" "errors" "[I", .methodLink RX8 63 yX8_within, .static yX8_within, .code yX8_within cX8_within 3 (some .boolean)] ++ wsX80 ++ wsX00)
def wsX8_check : List Cond := .code yX8_check cX8_check 4 (some .int) :: ([.fieldLink RX8 12 "StairCourt" "now" "LStairCourt$Court;", .fieldLink RX8 288 "StairCourt$Court" "waiting" "I", .fieldLink RX8 291 "StairCourt$Court" "waits" "[I", .methodLink RX8 149 Lib.Math.min.name, .static Lib.Math.min.name, .initialized "java/lang/Math", .code Lib.Math.min.name Lib.Math.min.code 2 (some .int), .fieldLink RX8 119 "StairCourt$Person" "legs" "I", .methodLink RX8 110 yX0_personOf, .instanceMethod yX0_personOf, .selects RX0 yX0_personOf yX0_personOf, .initialized RX0, .code yX0_personOf cX0_personOf 2 (some (.object "StairCourt$Person")), .fieldLink RX0 27 "StairCourt$Court" "people" "I", .fieldLink RX0 23 "StairCourt$Court" "persons" "[LStairCourt$Person;"] ++ wsX80 ++ wsX00 ++ wsX30)
def wsX8_count : List Cond := .code yX8_count cX8_count 2 (some .int) :: ([.fieldLink RX8 12 "StairCourt" "now" "LStairCourt$Court;", .fieldLink RX8 72 "StairCourt$Court" "steps" "I", .fieldLink RX8 104 "StairCourt$Court" "people" "I", .fieldLink RX8 191 "StairCourt$Court" "hour" "I", .fieldLink RX8 154 "StairCourt$Court" "taped" "I", .fieldLink RX8 288 "StairCourt$Court" "waiting" "I", .fieldLink RX8 38 "StairCourt" "voices" "LStairCourt$Voices;", .fieldLink RX8 260 "StairCourt$Voices" "traced" "I", .fieldLink RX8 201 "StairCourt$Court" "z" "I", .constant RX8 67 (-1000000001), .methodLink RX8 68 yX8_error, .instanceMethod yX8_error, .selects RX8 yX8_error yX8_error, .initialized RX8, .code yX8_error cX8_error 3 (some .int), .constant RX8 294 (-1000000000), .fieldLink RX8 55 "StairCourt" "errors" "[I", .methodLink RX8 63 yX8_within, .static yX8_within, .code yX8_within cX8_within 3 (some .boolean)] ++ wsX80 ++ wsX00 ++ wsX70)
def wsX8_told : List Cond := .code yX8_told cX8_told 2 (some .int) :: ([.fieldLink RX8 55 "StairCourt" "errors" "[I", .constant RX8 67 (-1000000001), .methodLink RX8 63 yX8_within, .static yX8_within, .initialized RX8, .code yX8_within cX8_within 3 (some .boolean), .methodLink RX8 68 yX8_error, .instanceMethod yX8_error, .selects RX8 yX8_error yX8_error, .code yX8_error cX8_error 3 (some .int), .constant RX8 294 (-1000000000)] ++ wsX80)
def wsX9_init : List Cond := .code yX9_init cX9_init 1 none :: ([.methodLink RX9 3 objectInit, .instanceMethod objectInit, .code objectInit ⟨#[0xb1]⟩ 1 none, .arrayClass .int, .fieldLink RX9 9 "StairCourtModel" "row" "[I", .fieldLink RX9 13 "StairCourtModel" "kept" "[I", .fieldLink RX9 16 "StairCourtModel" "before" "[I", .fieldLink RX9 19 "StairCourtModel" "errors" "[I", .fieldLink RX9 22 "StairCourtModel" "bitsOf" "[I", .fieldLink RX9 25 "StairCourtModel" "sizeOf" "[I", .fieldLink RX9 28 "StairCourtModel" "cells" "[I", .fieldLink RX9 31 "StairCourtModel" "act" "[I", .fieldLink RX9 34 "StairCourtModel" "with" "[I", .fieldLink RX9 37 "StairCourtModel" "facts" "[I", .fieldLink RX9 40 "StairCourtModel" "pile" "[I", .fieldLink RX9 43 "StairCourtModel" "whom" "[I", .fieldLink RX9 46 "StairCourtModel" "trace" "[I"] ++ wsX90)
def wsX9_error : List Cond := .code yX9_error cX9_error 2 (some .int) :: ([.fieldLink RX9 19 "StairCourtModel" "errors" "[I", .constant RX9 49 (-1000000000)] ++ wsX90)
def wsX9_in : List Cond := .code yX9_in cX9_in 3 (some .boolean) :: ([])
def wsX9_held : List Cond := .code yX9_held cX9_held 3 (some .int) :: ([])
def wsX9_copyAll : List Cond := .code yX9_copyAll cX9_copyAll 3 none :: ([])
def wsX9_thinks : List Cond := .code yX9_thinks cX9_thinks 1 none :: ([.fieldLink RX9 9 "StairCourtModel" "row" "[I", .fieldLink RX9 16 "StairCourtModel" "before" "[I", .methodLink RX9 50 yX9_copyAll, .static yX9_copyAll, .initialized RX9, .code yX9_copyAll cX9_copyAll 3 none] ++ wsX90)
def wsX9_putsBack : List Cond := .code yX9_putsBack cX9_putsBack 1 none :: ([.fieldLink RX9 16 "StairCourtModel" "before" "[I", .fieldLink RX9 9 "StairCourtModel" "row" "[I", .methodLink RX9 50 yX9_copyAll, .static yX9_copyAll, .initialized RX9, .code yX9_copyAll cX9_copyAll 3 none] ++ wsX90)
def wsX9_isStep : List Cond := .code yX9_isStep cX9_isStep 2 (some .boolean) :: ([.fieldLink RX9 9 "StairCourtModel" "row" "[I", .methodLink RX9 54 yX9_in, .static yX9_in, .initialized RX9, .code yX9_in cX9_in 3 (some .boolean)] ++ wsX90)
def wsX9_isPerson : List Cond := .code yX9_isPerson cX9_isPerson 2 (some .boolean) :: ([.fieldLink RX9 9 "StairCourtModel" "row" "[I", .methodLink RX9 54 yX9_in, .static yX9_in, .initialized RX9, .code yX9_in cX9_in 3 (some .boolean)] ++ wsX90)
def wsX9_isWord : List Cond := .code yX9_isWord cX9_isWord 1 (some .boolean) :: ([.methodLink RX9 54 yX9_in, .static yX9_in, .initialized RX9, .code yX9_in cX9_in 3 (some .boolean)])
def wsX9_becomes : List Cond := .code yX9_becomes cX9_becomes 4 (some .int) :: ([.fieldLink RX9 9 "StairCourtModel" "row" "[I"] ++ wsX90)
def wsX9_of : List Cond := .code yX9_of cX9_of 3 (some .int) :: ([.fieldLink RX9 9 "StairCourtModel" "row" "[I"] ++ wsX90)
def wsX9_about : List Cond := .code yX9_about cX9_about 3 (some .int) :: ([.fieldLink RX9 9 "StairCourtModel" "row" "[I"] ++ wsX90)
def wsX9_lets : List Cond := .code yX9_lets cX9_lets 4 none :: ([.fieldLink RX9 9 "StairCourtModel" "row" "[I"] ++ wsX90)
def wsX9_doesNod : List Cond := .code yX9_doesNod cX9_doesNod 7 (some .boolean) :: ([.fieldLink RX9 9 "StairCourtModel" "row" "[I", .methodLink RX9 58 yX9_of, .instanceMethod yX9_of, .selects RX9 yX9_of yX9_of, .initialized RX9, .code yX9_of cX9_of 3 (some .int)] ++ wsX90)
def wsX9_twoOf : List Cond := .code yX9_twoOf cX9_twoOf 3 (some .int) :: ([])
def wsX9_works : List Cond := .code yX9_works cX9_works 5 (some .int) :: ([.fieldLink RX9 9 "StairCourtModel" "row" "[I", .fieldLink RX9 40 "StairCourtModel" "pile" "[I", .fieldLink RX9 37 "StairCourtModel" "facts" "[I", .methodLink RX9 179 yX9_twoOf, .static yX9_twoOf, .initialized RX9, .code yX9_twoOf cX9_twoOf 3 (some .int)] ++ wsX90)
def wsX9_gives : List Cond := .code yX9_gives cX9_gives 7 (some .int) :: ([.fieldLink RX9 37 "StairCourtModel" "facts" "[I", .fieldLink RX9 9 "StairCourtModel" "row" "[I", .methodLink RX9 182 yX9_works, .instanceMethod yX9_works, .selects RX9 yX9_works yX9_works, .initialized RX9, .code yX9_works cX9_works 5 (some .int), .fieldLink RX9 40 "StairCourtModel" "pile" "[I", .methodLink RX9 179 yX9_twoOf, .static yX9_twoOf, .code yX9_twoOf cX9_twoOf 3 (some .int), .methodLink RX9 112 yX9_held, .static yX9_held, .code yX9_held cX9_held 3 (some .int)] ++ wsX90)
def wsX9_isContent_r1 : List Cond := [Cond.methodLink RX9 62 yX9_doesNod, Cond.instanceMethod yX9_doesNod, Cond.selects RX9 yX9_doesNod yX9_doesNod, Cond.initialized RX9, Cond.code yX9_doesNod cX9_doesNod 7 (some .boolean), Cond.fieldLink RX9 9 "StairCourtModel" "row" "[I", Cond.methodLink RX9 58 yX9_of, Cond.instanceMethod yX9_of, Cond.selects RX9 yX9_of yX9_of, Cond.code yX9_of cX9_of 3 (some .int), Cond.methodLink RX9 66 yX9_gives, Cond.instanceMethod yX9_gives, Cond.selects RX9 yX9_gives yX9_gives, Cond.code yX9_gives cX9_gives 7 (some .int), Cond.fieldLink RX9 37 "StairCourtModel" "facts" "[I", Cond.methodLink RX9 182 yX9_works, Cond.instanceMethod yX9_works, Cond.selects RX9 yX9_works yX9_works, Cond.code yX9_works cX9_works 5 (some .int), Cond.fieldLink RX9 40 "StairCourtModel" "pile" "[I", Cond.methodLink RX9 179 yX9_twoOf, Cond.static yX9_twoOf, Cond.code yX9_twoOf cX9_twoOf 3 (some .int), Cond.methodLink RX9 112 yX9_held]
def wsX9_isContent_r2 : List Cond := [Cond.static yX9_held, Cond.code yX9_held cX9_held 3 (some .int)]
def wsX9_isContent : List Cond := .code yX9_isContent cX9_isContent 3 (some .boolean) :: ((wsX9_isContent_r1 ++ wsX9_isContent_r2) ++ wsX90)
def wsX9_wantsOf : List Cond := .code yX9_wantsOf cX9_wantsOf 4 (some .int) :: ([.methodLink RX9 58 yX9_of, .instanceMethod yX9_of, .selects RX9 yX9_of yX9_of, .initialized RX9, .code yX9_of cX9_of 3 (some .int), .fieldLink RX9 9 "StairCourtModel" "row" "[I"] ++ wsX90)
def wsX9_bribeOf_r1 : List Cond := [Cond.methodLink RX9 70 yX9_wantsOf, Cond.instanceMethod yX9_wantsOf, Cond.selects RX9 yX9_wantsOf yX9_wantsOf, Cond.initialized RX9, Cond.code yX9_wantsOf cX9_wantsOf 4 (some .int), Cond.methodLink RX9 58 yX9_of, Cond.instanceMethod yX9_of, Cond.selects RX9 yX9_of yX9_of, Cond.code yX9_of cX9_of 3 (some .int), Cond.fieldLink RX9 9 "StairCourtModel" "row" "[I", Cond.methodLink RX9 66 yX9_gives, Cond.instanceMethod yX9_gives, Cond.selects RX9 yX9_gives yX9_gives, Cond.code yX9_gives cX9_gives 7 (some .int), Cond.fieldLink RX9 37 "StairCourtModel" "facts" "[I", Cond.methodLink RX9 182 yX9_works, Cond.instanceMethod yX9_works, Cond.selects RX9 yX9_works yX9_works, Cond.code yX9_works cX9_works 5 (some .int), Cond.fieldLink RX9 40 "StairCourtModel" "pile" "[I", Cond.methodLink RX9 179 yX9_twoOf, Cond.static yX9_twoOf, Cond.code yX9_twoOf cX9_twoOf 3 (some .int), Cond.methodLink RX9 112 yX9_held]
def wsX9_bribeOf_r2 : List Cond := [Cond.static yX9_held, Cond.code yX9_held cX9_held 3 (some .int)]
def wsX9_bribeOf : List Cond := .code yX9_bribeOf cX9_bribeOf 2 (some .int) :: ((wsX9_bribeOf_r1 ++ wsX9_bribeOf_r2) ++ wsX90)
def wsX9_isKm : List Cond := .code yX9_isKm cX9_isKm 1 (some .boolean) :: ([.methodLink RX9 54 yX9_in, .static yX9_in, .initialized RX9, .code yX9_in cX9_in 3 (some .boolean)])
def wsX9_step : List Cond := .code yX9_step cX9_step 3 (some .int) :: ([.constant RX9 78 (-1000000001), .fieldLink RX9 9 "StairCourtModel" "row" "[I", .constant RX9 82 (-1000000004), .methodLink RX9 74 yX9_isKm, .static yX9_isKm, .initialized RX9, .code yX9_isKm cX9_isKm 1 (some .boolean), .methodLink RX9 54 yX9_in, .static yX9_in, .code yX9_in cX9_in 3 (some .boolean), .methodLink RX9 79 yX9_error, .instanceMethod yX9_error, .selects RX9 yX9_error yX9_error, .code yX9_error cX9_error 2 (some .int), .fieldLink RX9 19 "StairCourtModel" "errors" "[I", .constant RX9 49 (-1000000000)] ++ wsX90)
def wsX9_stepIs_r1 : List Cond := [Cond.constant RX9 78 (-1000000001), Cond.methodLink RX9 83 yX9_isStep, Cond.instanceMethod yX9_isStep, Cond.selects RX9 yX9_isStep yX9_isStep, Cond.initialized RX9, Cond.code yX9_isStep cX9_isStep 2 (some .boolean), Cond.fieldLink RX9 9 "StairCourtModel" "row" "[I", Cond.methodLink RX9 54 yX9_in, Cond.static yX9_in, Cond.code yX9_in cX9_in 3 (some .boolean), Cond.methodLink RX9 79 yX9_error, Cond.instanceMethod yX9_error, Cond.selects RX9 yX9_error yX9_error, Cond.code yX9_error cX9_error 2 (some .int), Cond.fieldLink RX9 19 "StairCourtModel" "errors" "[I", Cond.constant RX9 49 (-1000000000), Cond.methodLink RX9 58 yX9_of, Cond.instanceMethod yX9_of, Cond.selects RX9 yX9_of yX9_of, Cond.code yX9_of cX9_of 3 (some .int), Cond.methodLink RX9 86 yX9_bribeOf, Cond.instanceMethod yX9_bribeOf, Cond.selects RX9 yX9_bribeOf yX9_bribeOf, Cond.code yX9_bribeOf cX9_bribeOf 2 (some .int)]
def wsX9_stepIs_r2 : List Cond := [Cond.methodLink RX9 70 yX9_wantsOf, Cond.instanceMethod yX9_wantsOf, Cond.selects RX9 yX9_wantsOf yX9_wantsOf, Cond.code yX9_wantsOf cX9_wantsOf 4 (some .int), Cond.methodLink RX9 66 yX9_gives, Cond.instanceMethod yX9_gives, Cond.selects RX9 yX9_gives yX9_gives, Cond.code yX9_gives cX9_gives 7 (some .int), Cond.fieldLink RX9 37 "StairCourtModel" "facts" "[I", Cond.methodLink RX9 182 yX9_works, Cond.instanceMethod yX9_works, Cond.selects RX9 yX9_works yX9_works, Cond.code yX9_works cX9_works 5 (some .int), Cond.fieldLink RX9 40 "StairCourtModel" "pile" "[I", Cond.methodLink RX9 179 yX9_twoOf, Cond.static yX9_twoOf, Cond.code yX9_twoOf cX9_twoOf 3 (some .int), Cond.methodLink RX9 112 yX9_held, Cond.static yX9_held, Cond.code yX9_held cX9_held 3 (some .int)]
def wsX9_stepIs : List Cond := .code yX9_stepIs cX9_stepIs 3 (some .int) :: ((wsX9_stepIs_r1 ++ wsX9_stepIs_r2) ++ wsX90)
def wsX9_become : List Cond := .code yX9_become cX9_become 3 (some .int) :: ([.constant RX9 78 (-1000000001), .fieldLink RX9 9 "StairCourtModel" "row" "[I", .methodLink RX9 83 yX9_isStep, .instanceMethod yX9_isStep, .selects RX9 yX9_isStep yX9_isStep, .initialized RX9, .code yX9_isStep cX9_isStep 2 (some .boolean), .methodLink RX9 54 yX9_in, .static yX9_in, .code yX9_in cX9_in 3 (some .boolean), .methodLink RX9 74 yX9_isKm, .static yX9_isKm, .code yX9_isKm cX9_isKm 1 (some .boolean), .methodLink RX9 79 yX9_error, .instanceMethod yX9_error, .selects RX9 yX9_error yX9_error, .code yX9_error cX9_error 2 (some .int), .fieldLink RX9 19 "StairCourtModel" "errors" "[I", .constant RX9 49 (-1000000000), .methodLink RX9 89 yX9_becomes, .instanceMethod yX9_becomes, .selects RX9 yX9_becomes yX9_becomes, .code yX9_becomes cX9_becomes 4 (some .int)] ++ wsX90)
def wsX9_as : List Cond := .code yX9_as cX9_as 5 (some .int) :: ([.constant RX9 78 (-1000000001), .constant RX9 92 (-1000000005), .methodLink RX9 83 yX9_isStep, .instanceMethod yX9_isStep, .selects RX9 yX9_isStep yX9_isStep, .initialized RX9, .code yX9_isStep cX9_isStep 2 (some .boolean), .fieldLink RX9 9 "StairCourtModel" "row" "[I", .methodLink RX9 54 yX9_in, .static yX9_in, .code yX9_in cX9_in 3 (some .boolean), .methodLink RX9 79 yX9_error, .instanceMethod yX9_error, .selects RX9 yX9_error yX9_error, .code yX9_error cX9_error 2 (some .int), .fieldLink RX9 19 "StairCourtModel" "errors" "[I", .constant RX9 49 (-1000000000), .methodLink RX9 58 yX9_of, .instanceMethod yX9_of, .selects RX9 yX9_of yX9_of, .code yX9_of cX9_of 3 (some .int)] ++ wsX90)
def wsX9_person : List Cond := .code yX9_person cX9_person 3 (some .int) :: ([.constant RX9 78 (-1000000001), .fieldLink RX9 9 "StairCourtModel" "row" "[I", .constant RX9 82 (-1000000004), .methodLink RX9 54 yX9_in, .static yX9_in, .initialized RX9, .code yX9_in cX9_in 3 (some .boolean), .methodLink RX9 79 yX9_error, .instanceMethod yX9_error, .selects RX9 yX9_error yX9_error, .code yX9_error cX9_error 2 (some .int), .fieldLink RX9 19 "StairCourtModel" "errors" "[I", .constant RX9 49 (-1000000000), .methodLink RX9 93 yX9_lets, .instanceMethod yX9_lets, .selects RX9 yX9_lets yX9_lets, .code yX9_lets cX9_lets 4 none] ++ wsX90)
def wsX9_isUp : List Cond := .code yX9_isUp cX9_isUp 2 (some .boolean) :: ([.fieldLink RX9 9 "StairCourtModel" "row" "[I", .methodLink RX9 97 yX9_about, .instanceMethod yX9_about, .selects RX9 yX9_about yX9_about, .initialized RX9, .code yX9_about cX9_about 3 (some .int)] ++ wsX90)
def wsX9_personIs : List Cond := .code yX9_personIs cX9_personIs 3 (some .int) :: ([.constant RX9 78 (-1000000001), .methodLink RX9 100 yX9_isPerson, .instanceMethod yX9_isPerson, .selects RX9 yX9_isPerson yX9_isPerson, .initialized RX9, .code yX9_isPerson cX9_isPerson 2 (some .boolean), .fieldLink RX9 9 "StairCourtModel" "row" "[I", .methodLink RX9 54 yX9_in, .static yX9_in, .code yX9_in cX9_in 3 (some .boolean), .methodLink RX9 79 yX9_error, .instanceMethod yX9_error, .selects RX9 yX9_error yX9_error, .code yX9_error cX9_error 2 (some .int), .fieldLink RX9 19 "StairCourtModel" "errors" "[I", .constant RX9 49 (-1000000000), .methodLink RX9 97 yX9_about, .instanceMethod yX9_about, .selects RX9 yX9_about yX9_about, .code yX9_about cX9_about 3 (some .int), .methodLink RX9 103 yX9_isUp, .instanceMethod yX9_isUp, .selects RX9 yX9_isUp yX9_isUp, .code yX9_isUp cX9_isUp 2 (some .boolean)] ++ wsX90)
def wsX9_rests : List Cond := .code yX9_rests cX9_rests 3 (some .int) :: ([.constant RX9 78 (-1000000001), .methodLink RX9 100 yX9_isPerson, .instanceMethod yX9_isPerson, .selects RX9 yX9_isPerson yX9_isPerson, .initialized RX9, .code yX9_isPerson cX9_isPerson 2 (some .boolean), .fieldLink RX9 9 "StairCourtModel" "row" "[I", .methodLink RX9 54 yX9_in, .static yX9_in, .code yX9_in cX9_in 3 (some .boolean), .methodLink RX9 89 yX9_becomes, .instanceMethod yX9_becomes, .selects RX9 yX9_becomes yX9_becomes, .code yX9_becomes cX9_becomes 4 (some .int), .methodLink RX9 79 yX9_error, .instanceMethod yX9_error, .selects RX9 yX9_error yX9_error, .code yX9_error cX9_error 2 (some .int), .fieldLink RX9 19 "StairCourtModel" "errors" "[I", .constant RX9 49 (-1000000000)] ++ wsX90)
def wsX9_carry : List Cond := .code yX9_carry cX9_carry 3 (some .int) :: ([.fieldLink RX9 9 "StairCourtModel" "row" "[I", .constant RX9 78 (-1000000001), .methodLink RX9 100 yX9_isPerson, .instanceMethod yX9_isPerson, .selects RX9 yX9_isPerson yX9_isPerson, .initialized RX9, .code yX9_isPerson cX9_isPerson 2 (some .boolean), .methodLink RX9 54 yX9_in, .static yX9_in, .code yX9_in cX9_in 3 (some .boolean), .methodLink RX9 89 yX9_becomes, .instanceMethod yX9_becomes, .selects RX9 yX9_becomes yX9_becomes, .code yX9_becomes cX9_becomes 4 (some .int), .methodLink RX9 79 yX9_error, .instanceMethod yX9_error, .selects RX9 yX9_error yX9_error, .code yX9_error cX9_error 2 (some .int), .fieldLink RX9 19 "StairCourtModel" "errors" "[I", .constant RX9 49 (-1000000000)] ++ wsX90)
def wsX9_content_r1 : List Cond := [Cond.constant RX9 78 (-1000000001), Cond.methodLink RX9 83 yX9_isStep, Cond.instanceMethod yX9_isStep, Cond.selects RX9 yX9_isStep yX9_isStep, Cond.initialized RX9, Cond.code yX9_isStep cX9_isStep 2 (some .boolean), Cond.fieldLink RX9 9 "StairCourtModel" "row" "[I", Cond.methodLink RX9 54 yX9_in, Cond.static yX9_in, Cond.code yX9_in cX9_in 3 (some .boolean), Cond.methodLink RX9 106 yX9_isWord, Cond.static yX9_isWord, Cond.code yX9_isWord cX9_isWord 1 (some .boolean), Cond.methodLink RX9 79 yX9_error, Cond.instanceMethod yX9_error, Cond.selects RX9 yX9_error yX9_error, Cond.code yX9_error cX9_error 2 (some .int), Cond.fieldLink RX9 19 "StairCourtModel" "errors" "[I", Cond.constant RX9 49 (-1000000000), Cond.methodLink RX9 109 yX9_isContent, Cond.instanceMethod yX9_isContent, Cond.selects RX9 yX9_isContent yX9_isContent, Cond.code yX9_isContent cX9_isContent 3 (some .boolean), Cond.methodLink RX9 62 yX9_doesNod]
def wsX9_content_r2 : List Cond := [Cond.instanceMethod yX9_doesNod, Cond.selects RX9 yX9_doesNod yX9_doesNod, Cond.code yX9_doesNod cX9_doesNod 7 (some .boolean), Cond.methodLink RX9 58 yX9_of, Cond.instanceMethod yX9_of, Cond.selects RX9 yX9_of yX9_of, Cond.code yX9_of cX9_of 3 (some .int), Cond.methodLink RX9 66 yX9_gives, Cond.instanceMethod yX9_gives, Cond.selects RX9 yX9_gives yX9_gives, Cond.code yX9_gives cX9_gives 7 (some .int), Cond.fieldLink RX9 37 "StairCourtModel" "facts" "[I", Cond.methodLink RX9 182 yX9_works, Cond.instanceMethod yX9_works, Cond.selects RX9 yX9_works yX9_works, Cond.code yX9_works cX9_works 5 (some .int), Cond.fieldLink RX9 40 "StairCourtModel" "pile" "[I", Cond.methodLink RX9 179 yX9_twoOf, Cond.static yX9_twoOf, Cond.code yX9_twoOf cX9_twoOf 3 (some .int), Cond.methodLink RX9 112 yX9_held, Cond.static yX9_held, Cond.code yX9_held cX9_held 3 (some .int)]
def wsX9_content : List Cond := .code yX9_content cX9_content 3 (some .int) :: ((wsX9_content_r1 ++ wsX9_content_r2) ++ wsX90)
def wsX9_canGo : List Cond := .code yX9_canGo cX9_canGo 2 (some .boolean) :: ([.methodLink RX9 103 yX9_isUp, .instanceMethod yX9_isUp, .selects RX9 yX9_isUp yX9_isUp, .initialized RX9, .code yX9_isUp cX9_isUp 2 (some .boolean), .fieldLink RX9 9 "StairCourtModel" "row" "[I", .methodLink RX9 97 yX9_about, .instanceMethod yX9_about, .selects RX9 yX9_about yX9_about, .code yX9_about cX9_about 3 (some .int)] ++ wsX90)
def wsX9_says_r1 : List Cond := [Cond.fieldLink RX9 9 "StairCourtModel" "row" "[I", Cond.methodLink RX9 97 yX9_about, Cond.instanceMethod yX9_about, Cond.selects RX9 yX9_about yX9_about, Cond.initialized RX9, Cond.code yX9_about cX9_about 3 (some .int), Cond.methodLink RX9 109 yX9_isContent, Cond.instanceMethod yX9_isContent, Cond.selects RX9 yX9_isContent yX9_isContent, Cond.code yX9_isContent cX9_isContent 3 (some .boolean), Cond.methodLink RX9 62 yX9_doesNod, Cond.instanceMethod yX9_doesNod, Cond.selects RX9 yX9_doesNod yX9_doesNod, Cond.code yX9_doesNod cX9_doesNod 7 (some .boolean), Cond.methodLink RX9 58 yX9_of, Cond.instanceMethod yX9_of, Cond.selects RX9 yX9_of yX9_of, Cond.code yX9_of cX9_of 3 (some .int), Cond.methodLink RX9 66 yX9_gives, Cond.instanceMethod yX9_gives, Cond.selects RX9 yX9_gives yX9_gives, Cond.code yX9_gives cX9_gives 7 (some .int), Cond.fieldLink RX9 37 "StairCourtModel" "facts" "[I", Cond.methodLink RX9 182 yX9_works]
def wsX9_says_r2 : List Cond := [Cond.instanceMethod yX9_works, Cond.selects RX9 yX9_works yX9_works, Cond.code yX9_works cX9_works 5 (some .int), Cond.fieldLink RX9 40 "StairCourtModel" "pile" "[I", Cond.methodLink RX9 179 yX9_twoOf, Cond.static yX9_twoOf, Cond.code yX9_twoOf cX9_twoOf 3 (some .int), Cond.methodLink RX9 112 yX9_held, Cond.static yX9_held, Cond.code yX9_held cX9_held 3 (some .int), Cond.methodLink RX9 93 yX9_lets, Cond.instanceMethod yX9_lets, Cond.selects RX9 yX9_lets yX9_lets, Cond.code yX9_lets cX9_lets 4 none]
def wsX9_says : List Cond := .code yX9_says cX9_says 5 (some .boolean) :: ((wsX9_says_r1 ++ wsX9_says_r2) ++ wsX90)
def wsX9_say_r1 : List Cond := [Cond.constant RX9 78 (-1000000001), Cond.constant RX9 119 (-1000000003), Cond.methodLink RX9 100 yX9_isPerson, Cond.instanceMethod yX9_isPerson, Cond.selects RX9 yX9_isPerson yX9_isPerson, Cond.initialized RX9, Cond.code yX9_isPerson cX9_isPerson 2 (some .boolean), Cond.fieldLink RX9 9 "StairCourtModel" "row" "[I", Cond.methodLink RX9 54 yX9_in, Cond.static yX9_in, Cond.code yX9_in cX9_in 3 (some .boolean), Cond.methodLink RX9 106 yX9_isWord, Cond.static yX9_isWord, Cond.code yX9_isWord cX9_isWord 1 (some .boolean), Cond.methodLink RX9 79 yX9_error, Cond.instanceMethod yX9_error, Cond.selects RX9 yX9_error yX9_error, Cond.code yX9_error cX9_error 2 (some .int), Cond.fieldLink RX9 19 "StairCourtModel" "errors" "[I", Cond.constant RX9 49 (-1000000000), Cond.methodLink RX9 116 yX9_canGo, Cond.instanceMethod yX9_canGo, Cond.selects RX9 yX9_canGo yX9_canGo, Cond.code yX9_canGo cX9_canGo 2 (some .boolean)]
def wsX9_say_r2 : List Cond := [Cond.methodLink RX9 103 yX9_isUp, Cond.instanceMethod yX9_isUp, Cond.selects RX9 yX9_isUp yX9_isUp, Cond.code yX9_isUp cX9_isUp 2 (some .boolean), Cond.methodLink RX9 97 yX9_about, Cond.instanceMethod yX9_about, Cond.selects RX9 yX9_about yX9_about, Cond.code yX9_about cX9_about 3 (some .int), Cond.methodLink RX9 120 yX9_says, Cond.instanceMethod yX9_says, Cond.selects RX9 yX9_says yX9_says, Cond.code yX9_says cX9_says 5 (some .boolean), Cond.methodLink RX9 109 yX9_isContent, Cond.instanceMethod yX9_isContent, Cond.selects RX9 yX9_isContent yX9_isContent, Cond.code yX9_isContent cX9_isContent 3 (some .boolean), Cond.methodLink RX9 62 yX9_doesNod, Cond.instanceMethod yX9_doesNod, Cond.selects RX9 yX9_doesNod yX9_doesNod, Cond.code yX9_doesNod cX9_doesNod 7 (some .boolean), Cond.methodLink RX9 58 yX9_of, Cond.instanceMethod yX9_of, Cond.selects RX9 yX9_of yX9_of, Cond.code yX9_of cX9_of 3 (some .int)]
def wsX9_say_r3 : List Cond := [Cond.methodLink RX9 66 yX9_gives, Cond.instanceMethod yX9_gives, Cond.selects RX9 yX9_gives yX9_gives, Cond.code yX9_gives cX9_gives 7 (some .int), Cond.fieldLink RX9 37 "StairCourtModel" "facts" "[I", Cond.methodLink RX9 182 yX9_works, Cond.instanceMethod yX9_works, Cond.selects RX9 yX9_works yX9_works, Cond.code yX9_works cX9_works 5 (some .int), Cond.fieldLink RX9 40 "StairCourtModel" "pile" "[I", Cond.methodLink RX9 179 yX9_twoOf, Cond.static yX9_twoOf, Cond.code yX9_twoOf cX9_twoOf 3 (some .int), Cond.methodLink RX9 112 yX9_held, Cond.static yX9_held, Cond.code yX9_held cX9_held 3 (some .int), Cond.methodLink RX9 93 yX9_lets, Cond.instanceMethod yX9_lets, Cond.selects RX9 yX9_lets yX9_lets, Cond.code yX9_lets cX9_lets 4 none]
def wsX9_say : List Cond := .code yX9_say cX9_say 4 (some .int) :: ((wsX9_say_r1 ++ (wsX9_say_r2 ++ wsX9_say_r3)) ++ wsX90)
def wsX9_bribe_r1 : List Cond := [Cond.constant RX9 78 (-1000000001), Cond.constant RX9 119 (-1000000003), Cond.constant RX9 123 (99999), Cond.methodLink RX9 100 yX9_isPerson, Cond.instanceMethod yX9_isPerson, Cond.selects RX9 yX9_isPerson yX9_isPerson, Cond.initialized RX9, Cond.code yX9_isPerson cX9_isPerson 2 (some .boolean), Cond.fieldLink RX9 9 "StairCourtModel" "row" "[I", Cond.methodLink RX9 54 yX9_in, Cond.static yX9_in, Cond.code yX9_in cX9_in 3 (some .boolean), Cond.methodLink RX9 79 yX9_error, Cond.instanceMethod yX9_error, Cond.selects RX9 yX9_error yX9_error, Cond.code yX9_error cX9_error 2 (some .int), Cond.fieldLink RX9 19 "StairCourtModel" "errors" "[I", Cond.constant RX9 49 (-1000000000), Cond.methodLink RX9 116 yX9_canGo, Cond.instanceMethod yX9_canGo, Cond.selects RX9 yX9_canGo yX9_canGo, Cond.code yX9_canGo cX9_canGo 2 (some .boolean), Cond.methodLink RX9 103 yX9_isUp, Cond.instanceMethod yX9_isUp]
def wsX9_bribe_r2 : List Cond := [Cond.selects RX9 yX9_isUp yX9_isUp, Cond.code yX9_isUp cX9_isUp 2 (some .boolean), Cond.methodLink RX9 97 yX9_about, Cond.instanceMethod yX9_about, Cond.selects RX9 yX9_about yX9_about, Cond.code yX9_about cX9_about 3 (some .int), Cond.methodLink RX9 86 yX9_bribeOf, Cond.instanceMethod yX9_bribeOf, Cond.selects RX9 yX9_bribeOf yX9_bribeOf, Cond.code yX9_bribeOf cX9_bribeOf 2 (some .int), Cond.methodLink RX9 70 yX9_wantsOf, Cond.instanceMethod yX9_wantsOf, Cond.selects RX9 yX9_wantsOf yX9_wantsOf, Cond.code yX9_wantsOf cX9_wantsOf 4 (some .int), Cond.methodLink RX9 58 yX9_of, Cond.instanceMethod yX9_of, Cond.selects RX9 yX9_of yX9_of, Cond.code yX9_of cX9_of 3 (some .int), Cond.methodLink RX9 66 yX9_gives, Cond.instanceMethod yX9_gives, Cond.selects RX9 yX9_gives yX9_gives, Cond.code yX9_gives cX9_gives 7 (some .int), Cond.fieldLink RX9 37 "StairCourtModel" "facts" "[I", Cond.methodLink RX9 182 yX9_works]
def wsX9_bribe_r3 : List Cond := [Cond.instanceMethod yX9_works, Cond.selects RX9 yX9_works yX9_works, Cond.code yX9_works cX9_works 5 (some .int), Cond.fieldLink RX9 40 "StairCourtModel" "pile" "[I", Cond.methodLink RX9 179 yX9_twoOf, Cond.static yX9_twoOf, Cond.code yX9_twoOf cX9_twoOf 3 (some .int), Cond.methodLink RX9 112 yX9_held, Cond.static yX9_held, Cond.code yX9_held cX9_held 3 (some .int), Cond.methodLink RX9 93 yX9_lets, Cond.instanceMethod yX9_lets, Cond.selects RX9 yX9_lets yX9_lets, Cond.code yX9_lets cX9_lets 4 none]
def wsX9_bribe : List Cond := .code yX9_bribe cX9_bribe 4 (some .int) :: ((wsX9_bribe_r1 ++ (wsX9_bribe_r2 ++ wsX9_bribe_r3)) ++ wsX90)
def wsX9_feed : List Cond := .code yX9_feed cX9_feed 5 (some .int) :: ([.constant RX9 78 (-1000000001), .fieldLink RX9 9 "StairCourtModel" "row" "[I", .constant RX9 82 (-1000000004), .constantLong RX9 124 (255), .methodLink RX9 54 yX9_in, .static yX9_in, .initialized RX9, .code yX9_in cX9_in 3 (some .boolean), .methodLink RX9 79 yX9_error, .instanceMethod yX9_error, .selects RX9 yX9_error yX9_error, .code yX9_error cX9_error 2 (some .int), .fieldLink RX9 19 "StairCourtModel" "errors" "[I", .constant RX9 49 (-1000000000)] ++ wsX90)
def wsX9_look : List Cond := .code yX9_look cX9_look 1 (some .int) :: ([.fieldLink RX9 126 "StairCourtModel" "here" "I", .fieldLink RX9 9 "StairCourtModel" "row" "[I"] ++ wsX90)
def wsX9_lays : List Cond := .code yX9_lays cX9_lays 3 none :: ([.fieldLink RX9 130 "StairCourtModel" "laid" "I", .fieldLink RX9 31 "StairCourtModel" "act" "[I", .fieldLink RX9 34 "StairCourtModel" "with" "[I"] ++ wsX90)
def wsX9_nameOf : List Cond := .code yX9_nameOf cX9_nameOf 2 (some .int) :: ([.fieldLink RX9 133 "StairCourtModel" "using" "I"] ++ wsX90)
def wsX9_number : List Cond := .code yX9_number cX9_number 3 none :: ([.fieldLink RX9 126 "StairCourtModel" "here" "I", .fieldLink RX9 140 "StairCourtModel" "bad" "Z", .methodLink RX9 136 yX9_look, .instanceMethod yX9_look, .selects RX9 yX9_look yX9_look, .initialized RX9, .code yX9_look cX9_look 1 (some .int), .fieldLink RX9 9 "StairCourtModel" "row" "[I", .methodLink RX9 54 yX9_in, .static yX9_in, .code yX9_in cX9_in 3 (some .boolean), .methodLink RX9 144 yX9_lays, .instanceMethod yX9_lays, .selects RX9 yX9_lays yX9_lays, .code yX9_lays cX9_lays 3 none, .fieldLink RX9 130 "StairCourtModel" "laid" "I", .fieldLink RX9 31 "StairCourtModel" "act" "[I", .fieldLink RX9 34 "StairCourtModel" "with" "[I"] ++ wsX90)
def wsX9_all_r1 : List Cond := [Cond.fieldLink RX9 140 "StairCourtModel" "bad" "Z", Cond.fieldLink RX9 126 "StairCourtModel" "here" "I", Cond.methodLink RX9 173 yX9_compares, Cond.instanceMethod yX9_compares, Cond.selects RX9 yX9_compares yX9_compares, Cond.initialized RX9, Cond.methodLink RX9 136 yX9_look, Cond.instanceMethod yX9_look, Cond.selects RX9 yX9_look yX9_look, Cond.code yX9_look cX9_look 1 (some .int), Cond.fieldLink RX9 9 "StairCourtModel" "row" "[I", Cond.methodLink RX9 144 yX9_lays, Cond.instanceMethod yX9_lays, Cond.selects RX9 yX9_lays yX9_lays, Cond.code yX9_lays cX9_lays 3 none, Cond.fieldLink RX9 130 "StairCourtModel" "laid" "I", Cond.fieldLink RX9 31 "StairCourtModel" "act" "[I", Cond.fieldLink RX9 34 "StairCourtModel" "with" "[I", Cond.code yX9_any cX9_any 1 none, Cond.methodLink RX9 176 yX9_all, Cond.instanceMethod yX9_all, Cond.selects RX9 yX9_all yX9_all, Cond.code yX9_compares cX9_compares 2 none, Cond.methodLink RX9 170 yX9_sum]
def wsX9_all_r2 : List Cond := [Cond.instanceMethod yX9_sum, Cond.selects RX9 yX9_sum yX9_sum, Cond.code yX9_one cX9_one 3 none, Cond.methodLink RX9 157 yX9_nameOf, Cond.instanceMethod yX9_nameOf, Cond.selects RX9 yX9_nameOf yX9_nameOf, Cond.code yX9_nameOf cX9_nameOf 2 (some .int), Cond.fieldLink RX9 133 "StairCourtModel" "using" "I", Cond.methodLink RX9 160 yX9_opens, Cond.instanceMethod yX9_opens, Cond.selects RX9 yX9_opens yX9_opens, Cond.methodLink RX9 164 yX9_number, Cond.instanceMethod yX9_number, Cond.selects RX9 yX9_number yX9_number, Cond.code yX9_number cX9_number 3 none, Cond.methodLink RX9 54 yX9_in, Cond.static yX9_in, Cond.code yX9_in cX9_in 3 (some .boolean), Cond.code yX9_opens cX9_opens 2 none, Cond.fieldLink RX9 148 "StairCourtModel" "opened" "I", Cond.methodLink RX9 151 yX9_one, Cond.instanceMethod yX9_one, Cond.selects RX9 yX9_one yX9_one, Cond.methodLink RX9 154 yX9_any]
def wsX9_all_r3 : List Cond := [Cond.instanceMethod yX9_any, Cond.selects RX9 yX9_any yX9_any, Cond.code yX9_sum cX9_sum 2 none, Cond.methodLink RX9 167 yX9_times, Cond.instanceMethod yX9_times, Cond.selects RX9 yX9_times yX9_times, Cond.code yX9_times cX9_times 2 none]
def wsX9_all : List Cond := .code yX9_all cX9_all 1 none :: ((wsX9_all_r1 ++ (wsX9_all_r2 ++ wsX9_all_r3)) ++ wsX90)
def wsX9_any_r1 : List Cond := [Cond.fieldLink RX9 140 "StairCourtModel" "bad" "Z", Cond.fieldLink RX9 126 "StairCourtModel" "here" "I", Cond.methodLink RX9 176 yX9_all, Cond.instanceMethod yX9_all, Cond.selects RX9 yX9_all yX9_all, Cond.initialized RX9, Cond.methodLink RX9 136 yX9_look, Cond.instanceMethod yX9_look, Cond.selects RX9 yX9_look yX9_look, Cond.code yX9_look cX9_look 1 (some .int), Cond.fieldLink RX9 9 "StairCourtModel" "row" "[I", Cond.methodLink RX9 144 yX9_lays, Cond.instanceMethod yX9_lays, Cond.selects RX9 yX9_lays yX9_lays, Cond.code yX9_lays cX9_lays 3 none, Cond.fieldLink RX9 130 "StairCourtModel" "laid" "I", Cond.fieldLink RX9 31 "StairCourtModel" "act" "[I", Cond.fieldLink RX9 34 "StairCourtModel" "with" "[I", Cond.code yX9_all cX9_all 1 none, Cond.methodLink RX9 173 yX9_compares, Cond.instanceMethod yX9_compares, Cond.selects RX9 yX9_compares yX9_compares, Cond.code yX9_compares cX9_compares 2 none, Cond.methodLink RX9 170 yX9_sum]
def wsX9_any_r2 : List Cond := [Cond.instanceMethod yX9_sum, Cond.selects RX9 yX9_sum yX9_sum, Cond.code yX9_one cX9_one 3 none, Cond.methodLink RX9 157 yX9_nameOf, Cond.instanceMethod yX9_nameOf, Cond.selects RX9 yX9_nameOf yX9_nameOf, Cond.code yX9_nameOf cX9_nameOf 2 (some .int), Cond.fieldLink RX9 133 "StairCourtModel" "using" "I", Cond.methodLink RX9 160 yX9_opens, Cond.instanceMethod yX9_opens, Cond.selects RX9 yX9_opens yX9_opens, Cond.methodLink RX9 164 yX9_number, Cond.instanceMethod yX9_number, Cond.selects RX9 yX9_number yX9_number, Cond.code yX9_number cX9_number 3 none, Cond.methodLink RX9 54 yX9_in, Cond.static yX9_in, Cond.code yX9_in cX9_in 3 (some .boolean), Cond.code yX9_opens cX9_opens 2 none, Cond.fieldLink RX9 148 "StairCourtModel" "opened" "I", Cond.methodLink RX9 151 yX9_one, Cond.instanceMethod yX9_one, Cond.selects RX9 yX9_one yX9_one, Cond.methodLink RX9 154 yX9_any]
def wsX9_any_r3 : List Cond := [Cond.instanceMethod yX9_any, Cond.selects RX9 yX9_any yX9_any, Cond.code yX9_sum cX9_sum 2 none, Cond.methodLink RX9 167 yX9_times, Cond.instanceMethod yX9_times, Cond.selects RX9 yX9_times yX9_times, Cond.code yX9_times cX9_times 2 none]
def wsX9_any : List Cond := .code yX9_any cX9_any 1 none :: ((wsX9_any_r1 ++ (wsX9_any_r2 ++ wsX9_any_r3)) ++ wsX90)
def wsX9_compares_r1 : List Cond := [Cond.fieldLink RX9 140 "StairCourtModel" "bad" "Z", Cond.fieldLink RX9 126 "StairCourtModel" "here" "I", Cond.methodLink RX9 170 yX9_sum, Cond.instanceMethod yX9_sum, Cond.selects RX9 yX9_sum yX9_sum, Cond.initialized RX9, Cond.methodLink RX9 136 yX9_look, Cond.instanceMethod yX9_look, Cond.selects RX9 yX9_look yX9_look, Cond.code yX9_look cX9_look 1 (some .int), Cond.fieldLink RX9 9 "StairCourtModel" "row" "[I", Cond.methodLink RX9 144 yX9_lays, Cond.instanceMethod yX9_lays, Cond.selects RX9 yX9_lays yX9_lays, Cond.code yX9_lays cX9_lays 3 none, Cond.fieldLink RX9 130 "StairCourtModel" "laid" "I", Cond.fieldLink RX9 31 "StairCourtModel" "act" "[I", Cond.fieldLink RX9 34 "StairCourtModel" "with" "[I", Cond.code yX9_all cX9_all 1 none, Cond.methodLink RX9 173 yX9_compares, Cond.instanceMethod yX9_compares, Cond.selects RX9 yX9_compares yX9_compares, Cond.code yX9_any cX9_any 1 none, Cond.methodLink RX9 176 yX9_all]
def wsX9_compares_r2 : List Cond := [Cond.instanceMethod yX9_all, Cond.selects RX9 yX9_all yX9_all, Cond.code yX9_one cX9_one 3 none, Cond.methodLink RX9 157 yX9_nameOf, Cond.instanceMethod yX9_nameOf, Cond.selects RX9 yX9_nameOf yX9_nameOf, Cond.code yX9_nameOf cX9_nameOf 2 (some .int), Cond.fieldLink RX9 133 "StairCourtModel" "using" "I", Cond.methodLink RX9 160 yX9_opens, Cond.instanceMethod yX9_opens, Cond.selects RX9 yX9_opens yX9_opens, Cond.methodLink RX9 164 yX9_number, Cond.instanceMethod yX9_number, Cond.selects RX9 yX9_number yX9_number, Cond.code yX9_number cX9_number 3 none, Cond.methodLink RX9 54 yX9_in, Cond.static yX9_in, Cond.code yX9_in cX9_in 3 (some .boolean), Cond.code yX9_opens cX9_opens 2 none, Cond.fieldLink RX9 148 "StairCourtModel" "opened" "I", Cond.methodLink RX9 151 yX9_one, Cond.instanceMethod yX9_one, Cond.selects RX9 yX9_one yX9_one, Cond.methodLink RX9 154 yX9_any]
def wsX9_compares_r3 : List Cond := [Cond.instanceMethod yX9_any, Cond.selects RX9 yX9_any yX9_any, Cond.code yX9_sum cX9_sum 2 none, Cond.methodLink RX9 167 yX9_times, Cond.instanceMethod yX9_times, Cond.selects RX9 yX9_times yX9_times, Cond.code yX9_times cX9_times 2 none]
def wsX9_compares : List Cond := .code yX9_compares cX9_compares 2 none :: ((wsX9_compares_r1 ++ (wsX9_compares_r2 ++ wsX9_compares_r3)) ++ wsX90)
def wsX9_one_r1 : List Cond := [Cond.fieldLink RX9 126 "StairCourtModel" "here" "I", Cond.methodLink RX9 136 yX9_look, Cond.instanceMethod yX9_look, Cond.selects RX9 yX9_look yX9_look, Cond.initialized RX9, Cond.code yX9_look cX9_look 1 (some .int), Cond.fieldLink RX9 9 "StairCourtModel" "row" "[I", Cond.methodLink RX9 157 yX9_nameOf, Cond.instanceMethod yX9_nameOf, Cond.selects RX9 yX9_nameOf yX9_nameOf, Cond.code yX9_nameOf cX9_nameOf 2 (some .int), Cond.fieldLink RX9 133 "StairCourtModel" "using" "I", Cond.methodLink RX9 144 yX9_lays, Cond.instanceMethod yX9_lays, Cond.selects RX9 yX9_lays yX9_lays, Cond.code yX9_lays cX9_lays 3 none, Cond.fieldLink RX9 130 "StairCourtModel" "laid" "I", Cond.fieldLink RX9 31 "StairCourtModel" "act" "[I", Cond.fieldLink RX9 34 "StairCourtModel" "with" "[I", Cond.methodLink RX9 160 yX9_opens, Cond.instanceMethod yX9_opens, Cond.selects RX9 yX9_opens yX9_opens, Cond.methodLink RX9 164 yX9_number, Cond.instanceMethod yX9_number]
def wsX9_one_r2 : List Cond := [Cond.selects RX9 yX9_number yX9_number, Cond.code yX9_number cX9_number 3 none, Cond.fieldLink RX9 140 "StairCourtModel" "bad" "Z", Cond.methodLink RX9 54 yX9_in, Cond.static yX9_in, Cond.code yX9_in cX9_in 3 (some .boolean), Cond.code yX9_all cX9_all 1 none, Cond.methodLink RX9 173 yX9_compares, Cond.instanceMethod yX9_compares, Cond.selects RX9 yX9_compares yX9_compares, Cond.code yX9_any cX9_any 1 none, Cond.methodLink RX9 176 yX9_all, Cond.instanceMethod yX9_all, Cond.selects RX9 yX9_all yX9_all, Cond.code yX9_compares cX9_compares 2 none, Cond.methodLink RX9 170 yX9_sum, Cond.instanceMethod yX9_sum, Cond.selects RX9 yX9_sum yX9_sum, Cond.code yX9_opens cX9_opens 2 none, Cond.fieldLink RX9 148 "StairCourtModel" "opened" "I", Cond.methodLink RX9 151 yX9_one, Cond.instanceMethod yX9_one, Cond.selects RX9 yX9_one yX9_one, Cond.methodLink RX9 154 yX9_any]
def wsX9_one_r3 : List Cond := [Cond.instanceMethod yX9_any, Cond.selects RX9 yX9_any yX9_any, Cond.code yX9_sum cX9_sum 2 none, Cond.methodLink RX9 167 yX9_times, Cond.instanceMethod yX9_times, Cond.selects RX9 yX9_times yX9_times, Cond.code yX9_times cX9_times 2 none]
def wsX9_one : List Cond := .code yX9_one cX9_one 3 none :: ((wsX9_one_r1 ++ (wsX9_one_r2 ++ wsX9_one_r3)) ++ wsX90)
def wsX9_opens_r1 : List Cond := [Cond.fieldLink RX9 148 "StairCourtModel" "opened" "I", Cond.fieldLink RX9 140 "StairCourtModel" "bad" "Z", Cond.fieldLink RX9 126 "StairCourtModel" "here" "I", Cond.methodLink RX9 151 yX9_one, Cond.instanceMethod yX9_one, Cond.selects RX9 yX9_one yX9_one, Cond.initialized RX9, Cond.methodLink RX9 144 yX9_lays, Cond.instanceMethod yX9_lays, Cond.selects RX9 yX9_lays yX9_lays, Cond.code yX9_lays cX9_lays 3 none, Cond.fieldLink RX9 130 "StairCourtModel" "laid" "I", Cond.fieldLink RX9 31 "StairCourtModel" "act" "[I", Cond.fieldLink RX9 34 "StairCourtModel" "with" "[I", Cond.methodLink RX9 154 yX9_any, Cond.instanceMethod yX9_any, Cond.selects RX9 yX9_any yX9_any, Cond.methodLink RX9 136 yX9_look, Cond.instanceMethod yX9_look, Cond.selects RX9 yX9_look yX9_look, Cond.code yX9_look cX9_look 1 (some .int), Cond.fieldLink RX9 9 "StairCourtModel" "row" "[I", Cond.code yX9_all cX9_all 1 none, Cond.methodLink RX9 173 yX9_compares]
def wsX9_opens_r2 : List Cond := [Cond.instanceMethod yX9_compares, Cond.selects RX9 yX9_compares yX9_compares, Cond.code yX9_any cX9_any 1 none, Cond.methodLink RX9 176 yX9_all, Cond.instanceMethod yX9_all, Cond.selects RX9 yX9_all yX9_all, Cond.code yX9_compares cX9_compares 2 none, Cond.methodLink RX9 170 yX9_sum, Cond.instanceMethod yX9_sum, Cond.selects RX9 yX9_sum yX9_sum, Cond.code yX9_one cX9_one 3 none, Cond.methodLink RX9 157 yX9_nameOf, Cond.instanceMethod yX9_nameOf, Cond.selects RX9 yX9_nameOf yX9_nameOf, Cond.code yX9_nameOf cX9_nameOf 2 (some .int), Cond.fieldLink RX9 133 "StairCourtModel" "using" "I", Cond.methodLink RX9 160 yX9_opens, Cond.instanceMethod yX9_opens, Cond.selects RX9 yX9_opens yX9_opens, Cond.methodLink RX9 164 yX9_number, Cond.instanceMethod yX9_number, Cond.selects RX9 yX9_number yX9_number, Cond.code yX9_number cX9_number 3 none, Cond.methodLink RX9 54 yX9_in]
def wsX9_opens_r3 : List Cond := [Cond.static yX9_in, Cond.code yX9_in cX9_in 3 (some .boolean), Cond.code yX9_sum cX9_sum 2 none, Cond.methodLink RX9 167 yX9_times, Cond.instanceMethod yX9_times, Cond.selects RX9 yX9_times yX9_times, Cond.code yX9_times cX9_times 2 none]
def wsX9_opens : List Cond := .code yX9_opens cX9_opens 2 none :: ((wsX9_opens_r1 ++ (wsX9_opens_r2 ++ wsX9_opens_r3)) ++ wsX90)
def wsX9_sum_r1 : List Cond := [Cond.fieldLink RX9 140 "StairCourtModel" "bad" "Z", Cond.fieldLink RX9 126 "StairCourtModel" "here" "I", Cond.methodLink RX9 167 yX9_times, Cond.instanceMethod yX9_times, Cond.selects RX9 yX9_times yX9_times, Cond.initialized RX9, Cond.methodLink RX9 136 yX9_look, Cond.instanceMethod yX9_look, Cond.selects RX9 yX9_look yX9_look, Cond.code yX9_look cX9_look 1 (some .int), Cond.fieldLink RX9 9 "StairCourtModel" "row" "[I", Cond.methodLink RX9 144 yX9_lays, Cond.instanceMethod yX9_lays, Cond.selects RX9 yX9_lays yX9_lays, Cond.code yX9_lays cX9_lays 3 none, Cond.fieldLink RX9 130 "StairCourtModel" "laid" "I", Cond.fieldLink RX9 31 "StairCourtModel" "act" "[I", Cond.fieldLink RX9 34 "StairCourtModel" "with" "[I", Cond.code yX9_all cX9_all 1 none, Cond.methodLink RX9 173 yX9_compares, Cond.instanceMethod yX9_compares, Cond.selects RX9 yX9_compares yX9_compares, Cond.code yX9_any cX9_any 1 none, Cond.methodLink RX9 176 yX9_all]
def wsX9_sum_r2 : List Cond := [Cond.instanceMethod yX9_all, Cond.selects RX9 yX9_all yX9_all, Cond.code yX9_compares cX9_compares 2 none, Cond.methodLink RX9 170 yX9_sum, Cond.instanceMethod yX9_sum, Cond.selects RX9 yX9_sum yX9_sum, Cond.code yX9_one cX9_one 3 none, Cond.methodLink RX9 157 yX9_nameOf, Cond.instanceMethod yX9_nameOf, Cond.selects RX9 yX9_nameOf yX9_nameOf, Cond.code yX9_nameOf cX9_nameOf 2 (some .int), Cond.fieldLink RX9 133 "StairCourtModel" "using" "I", Cond.methodLink RX9 160 yX9_opens, Cond.instanceMethod yX9_opens, Cond.selects RX9 yX9_opens yX9_opens, Cond.methodLink RX9 164 yX9_number, Cond.instanceMethod yX9_number, Cond.selects RX9 yX9_number yX9_number, Cond.code yX9_number cX9_number 3 none, Cond.methodLink RX9 54 yX9_in, Cond.static yX9_in, Cond.code yX9_in cX9_in 3 (some .boolean), Cond.code yX9_opens cX9_opens 2 none, Cond.fieldLink RX9 148 "StairCourtModel" "opened" "I"]
def wsX9_sum_r3 : List Cond := [Cond.methodLink RX9 151 yX9_one, Cond.instanceMethod yX9_one, Cond.selects RX9 yX9_one yX9_one, Cond.methodLink RX9 154 yX9_any, Cond.instanceMethod yX9_any, Cond.selects RX9 yX9_any yX9_any, Cond.code yX9_times cX9_times 2 none]
def wsX9_sum : List Cond := .code yX9_sum cX9_sum 2 none :: ((wsX9_sum_r1 ++ (wsX9_sum_r2 ++ wsX9_sum_r3)) ++ wsX90)
def wsX9_times_r1 : List Cond := [Cond.fieldLink RX9 140 "StairCourtModel" "bad" "Z", Cond.fieldLink RX9 126 "StairCourtModel" "here" "I", Cond.methodLink RX9 151 yX9_one, Cond.instanceMethod yX9_one, Cond.selects RX9 yX9_one yX9_one, Cond.initialized RX9, Cond.methodLink RX9 136 yX9_look, Cond.instanceMethod yX9_look, Cond.selects RX9 yX9_look yX9_look, Cond.code yX9_look cX9_look 1 (some .int), Cond.fieldLink RX9 9 "StairCourtModel" "row" "[I", Cond.methodLink RX9 144 yX9_lays, Cond.instanceMethod yX9_lays, Cond.selects RX9 yX9_lays yX9_lays, Cond.code yX9_lays cX9_lays 3 none, Cond.fieldLink RX9 130 "StairCourtModel" "laid" "I", Cond.fieldLink RX9 31 "StairCourtModel" "act" "[I", Cond.fieldLink RX9 34 "StairCourtModel" "with" "[I", Cond.code yX9_all cX9_all 1 none, Cond.methodLink RX9 173 yX9_compares, Cond.instanceMethod yX9_compares, Cond.selects RX9 yX9_compares yX9_compares, Cond.code yX9_any cX9_any 1 none, Cond.methodLink RX9 176 yX9_all]
def wsX9_times_r2 : List Cond := [Cond.instanceMethod yX9_all, Cond.selects RX9 yX9_all yX9_all, Cond.code yX9_compares cX9_compares 2 none, Cond.methodLink RX9 170 yX9_sum, Cond.instanceMethod yX9_sum, Cond.selects RX9 yX9_sum yX9_sum, Cond.code yX9_one cX9_one 3 none, Cond.methodLink RX9 157 yX9_nameOf, Cond.instanceMethod yX9_nameOf, Cond.selects RX9 yX9_nameOf yX9_nameOf, Cond.code yX9_nameOf cX9_nameOf 2 (some .int), Cond.fieldLink RX9 133 "StairCourtModel" "using" "I", Cond.methodLink RX9 160 yX9_opens, Cond.instanceMethod yX9_opens, Cond.selects RX9 yX9_opens yX9_opens, Cond.methodLink RX9 164 yX9_number, Cond.instanceMethod yX9_number, Cond.selects RX9 yX9_number yX9_number, Cond.code yX9_number cX9_number 3 none, Cond.methodLink RX9 54 yX9_in, Cond.static yX9_in, Cond.code yX9_in cX9_in 3 (some .boolean), Cond.code yX9_opens cX9_opens 2 none, Cond.fieldLink RX9 148 "StairCourtModel" "opened" "I"]
def wsX9_times_r3 : List Cond := [Cond.methodLink RX9 154 yX9_any, Cond.instanceMethod yX9_any, Cond.selects RX9 yX9_any yX9_any, Cond.code yX9_sum cX9_sum 2 none, Cond.methodLink RX9 167 yX9_times, Cond.instanceMethod yX9_times, Cond.selects RX9 yX9_times yX9_times]
def wsX9_times : List Cond := .code yX9_times cX9_times 2 none :: ((wsX9_times_r1 ++ (wsX9_times_r2 ++ wsX9_times_r3)) ++ wsX90)
def wsX9_text_r1 : List Cond := [Cond.constant RX9 78 (-1000000001), Cond.fieldLink RX9 133 "StairCourtModel" "using" "I", Cond.fieldLink RX9 130 "StairCourtModel" "laid" "I", Cond.fieldLink RX9 126 "StairCourtModel" "here" "I", Cond.fieldLink RX9 148 "StairCourtModel" "opened" "I", Cond.fieldLink RX9 140 "StairCourtModel" "bad" "Z", Cond.fieldLink RX9 9 "StairCourtModel" "row" "[I", Cond.fieldLink RX9 31 "StairCourtModel" "act" "[I", Cond.fieldLink RX9 34 "StairCourtModel" "with" "[I", Cond.methodLink RX9 54 yX9_in, Cond.static yX9_in, Cond.initialized RX9, Cond.code yX9_in cX9_in 3 (some .boolean), Cond.methodLink RX9 79 yX9_error, Cond.instanceMethod yX9_error, Cond.selects RX9 yX9_error yX9_error, Cond.code yX9_error cX9_error 2 (some .int), Cond.fieldLink RX9 19 "StairCourtModel" "errors" "[I", Cond.constant RX9 49 (-1000000000), Cond.methodLink RX9 154 yX9_any, Cond.instanceMethod yX9_any, Cond.selects RX9 yX9_any yX9_any, Cond.code yX9_any cX9_any 1 none, Cond.methodLink RX9 176 yX9_all]
def wsX9_text_r2 : List Cond := [Cond.instanceMethod yX9_all, Cond.selects RX9 yX9_all yX9_all, Cond.methodLink RX9 136 yX9_look, Cond.instanceMethod yX9_look, Cond.selects RX9 yX9_look yX9_look, Cond.code yX9_look cX9_look 1 (some .int), Cond.methodLink RX9 144 yX9_lays, Cond.instanceMethod yX9_lays, Cond.selects RX9 yX9_lays yX9_lays, Cond.code yX9_lays cX9_lays 3 none, Cond.code yX9_all cX9_all 1 none, Cond.methodLink RX9 173 yX9_compares, Cond.instanceMethod yX9_compares, Cond.selects RX9 yX9_compares yX9_compares, Cond.code yX9_compares cX9_compares 2 none, Cond.methodLink RX9 170 yX9_sum, Cond.instanceMethod yX9_sum, Cond.selects RX9 yX9_sum yX9_sum, Cond.code yX9_one cX9_one 3 none, Cond.methodLink RX9 157 yX9_nameOf, Cond.instanceMethod yX9_nameOf, Cond.selects RX9 yX9_nameOf yX9_nameOf, Cond.code yX9_nameOf cX9_nameOf 2 (some .int), Cond.methodLink RX9 160 yX9_opens]
def wsX9_text_r3 : List Cond := [Cond.instanceMethod yX9_opens, Cond.selects RX9 yX9_opens yX9_opens, Cond.methodLink RX9 164 yX9_number, Cond.instanceMethod yX9_number, Cond.selects RX9 yX9_number yX9_number, Cond.code yX9_number cX9_number 3 none, Cond.code yX9_opens cX9_opens 2 none, Cond.methodLink RX9 151 yX9_one, Cond.instanceMethod yX9_one, Cond.selects RX9 yX9_one yX9_one, Cond.code yX9_sum cX9_sum 2 none, Cond.methodLink RX9 167 yX9_times, Cond.instanceMethod yX9_times, Cond.selects RX9 yX9_times yX9_times, Cond.code yX9_times cX9_times 2 none]
def wsX9_text : List Cond := .code yX9_text cX9_text 4 (some .int) :: ((wsX9_text_r1 ++ (wsX9_text_r2 ++ wsX9_text_r3)) ++ wsX90)
def wsX9_untell : List Cond := .code yX9_untell cX9_untell 2 (some .int) :: ([.constant RX9 78 (-1000000001), .methodLink RX9 54 yX9_in, .static yX9_in, .initialized RX9, .code yX9_in cX9_in 3 (some .boolean), .methodLink RX9 79 yX9_error, .instanceMethod yX9_error, .selects RX9 yX9_error yX9_error, .code yX9_error cX9_error 2 (some .int), .fieldLink RX9 19 "StairCourtModel" "errors" "[I", .constant RX9 49 (-1000000000), .methodLink RX9 89 yX9_becomes, .instanceMethod yX9_becomes, .selects RX9 yX9_becomes yX9_becomes, .code yX9_becomes cX9_becomes 4 (some .int), .fieldLink RX9 9 "StairCourtModel" "row" "[I"] ++ wsX90)
def wsX9_law_r1 : List Cond := [Cond.constant RX9 78 (-1000000001), Cond.methodLink RX9 54 yX9_in, Cond.static yX9_in, Cond.initialized RX9, Cond.code yX9_in cX9_in 3 (some .boolean), Cond.methodLink RX9 66 yX9_gives, Cond.instanceMethod yX9_gives, Cond.selects RX9 yX9_gives yX9_gives, Cond.code yX9_gives cX9_gives 7 (some .int), Cond.fieldLink RX9 37 "StairCourtModel" "facts" "[I", Cond.fieldLink RX9 9 "StairCourtModel" "row" "[I", Cond.methodLink RX9 182 yX9_works, Cond.instanceMethod yX9_works, Cond.selects RX9 yX9_works yX9_works, Cond.code yX9_works cX9_works 5 (some .int), Cond.fieldLink RX9 40 "StairCourtModel" "pile" "[I", Cond.methodLink RX9 179 yX9_twoOf, Cond.static yX9_twoOf, Cond.code yX9_twoOf cX9_twoOf 3 (some .int), Cond.methodLink RX9 112 yX9_held, Cond.static yX9_held, Cond.code yX9_held cX9_held 3 (some .int), Cond.methodLink RX9 79 yX9_error, Cond.instanceMethod yX9_error]
def wsX9_law_r2 : List Cond := [Cond.selects RX9 yX9_error yX9_error, Cond.code yX9_error cX9_error 2 (some .int), Cond.fieldLink RX9 19 "StairCourtModel" "errors" "[I", Cond.constant RX9 49 (-1000000000)]
def wsX9_law : List Cond := .code yX9_law cX9_law 5 (some .int) :: ((wsX9_law_r1 ++ wsX9_law_r2) ++ wsX90)
def wsX9_goes : List Cond := .code yX9_goes cX9_goes 3 none :: ([.fieldLink RX9 9 "StairCourtModel" "row" "[I", .methodLink RX9 97 yX9_about, .instanceMethod yX9_about, .selects RX9 yX9_about yX9_about, .initialized RX9, .code yX9_about cX9_about 3 (some .int), .methodLink RX9 112 yX9_held, .static yX9_held, .code yX9_held cX9_held 3 (some .int), .methodLink RX9 93 yX9_lets, .instanceMethod yX9_lets, .selects RX9 yX9_lets yX9_lets, .code yX9_lets cX9_lets 4 none] ++ wsX90)
def wsX9_hours_r1 : List Cond := [Cond.constant RX9 78 (-1000000001), Cond.fieldLink RX9 9 "StairCourtModel" "row" "[I", Cond.constant RX9 119 (-1000000003), Cond.methodLink RX9 54 yX9_in, Cond.static yX9_in, Cond.initialized RX9, Cond.code yX9_in cX9_in 3 (some .boolean), Cond.methodLink RX9 79 yX9_error, Cond.instanceMethod yX9_error, Cond.selects RX9 yX9_error yX9_error, Cond.code yX9_error cX9_error 2 (some .int), Cond.fieldLink RX9 19 "StairCourtModel" "errors" "[I", Cond.constant RX9 49 (-1000000000), Cond.methodLink RX9 185 yX9_goes, Cond.instanceMethod yX9_goes, Cond.selects RX9 yX9_goes yX9_goes, Cond.code yX9_goes cX9_goes 3 none, Cond.methodLink RX9 97 yX9_about, Cond.instanceMethod yX9_about, Cond.selects RX9 yX9_about yX9_about, Cond.code yX9_about cX9_about 3 (some .int), Cond.methodLink RX9 112 yX9_held, Cond.static yX9_held, Cond.code yX9_held cX9_held 3 (some .int)]
def wsX9_hours_r2 : List Cond := [Cond.methodLink RX9 93 yX9_lets, Cond.instanceMethod yX9_lets, Cond.selects RX9 yX9_lets yX9_lets, Cond.code yX9_lets cX9_lets 4 none]
def wsX9_hours : List Cond := .code yX9_hours cX9_hours 3 (some .int) :: ((wsX9_hours_r1 ++ wsX9_hours_r2) ++ wsX90)
def wsX9_draw : List Cond := .code yX9_draw cX9_draw 1 (some .int) :: ([.fieldLink RX9 9 "StairCourtModel" "row" "[I", .constant RX9 188 (1103515245)] ++ wsX90)
def wsX9_drawn_r1 : List Cond := [Cond.fieldLink RX9 9 "StairCourtModel" "row" "[I", Cond.methodLink RX9 116 yX9_canGo, Cond.instanceMethod yX9_canGo, Cond.selects RX9 yX9_canGo yX9_canGo, Cond.initialized RX9, Cond.code yX9_canGo cX9_canGo 2 (some .boolean), Cond.methodLink RX9 103 yX9_isUp, Cond.instanceMethod yX9_isUp, Cond.selects RX9 yX9_isUp yX9_isUp, Cond.code yX9_isUp cX9_isUp 2 (some .boolean), Cond.methodLink RX9 97 yX9_about, Cond.instanceMethod yX9_about, Cond.selects RX9 yX9_about yX9_about, Cond.code yX9_about cX9_about 3 (some .int), Cond.methodLink RX9 189 yX9_draw, Cond.instanceMethod yX9_draw, Cond.selects RX9 yX9_draw yX9_draw, Cond.code yX9_draw cX9_draw 1 (some .int), Cond.constant RX9 188 (1103515245), Cond.methodLink RX9 120 yX9_says, Cond.instanceMethod yX9_says, Cond.selects RX9 yX9_says yX9_says, Cond.code yX9_says cX9_says 5 (some .boolean), Cond.methodLink RX9 109 yX9_isContent]
def wsX9_drawn_r2 : List Cond := [Cond.instanceMethod yX9_isContent, Cond.selects RX9 yX9_isContent yX9_isContent, Cond.code yX9_isContent cX9_isContent 3 (some .boolean), Cond.methodLink RX9 62 yX9_doesNod, Cond.instanceMethod yX9_doesNod, Cond.selects RX9 yX9_doesNod yX9_doesNod, Cond.code yX9_doesNod cX9_doesNod 7 (some .boolean), Cond.methodLink RX9 58 yX9_of, Cond.instanceMethod yX9_of, Cond.selects RX9 yX9_of yX9_of, Cond.code yX9_of cX9_of 3 (some .int), Cond.methodLink RX9 66 yX9_gives, Cond.instanceMethod yX9_gives, Cond.selects RX9 yX9_gives yX9_gives, Cond.code yX9_gives cX9_gives 7 (some .int), Cond.fieldLink RX9 37 "StairCourtModel" "facts" "[I", Cond.methodLink RX9 182 yX9_works, Cond.instanceMethod yX9_works, Cond.selects RX9 yX9_works yX9_works, Cond.code yX9_works cX9_works 5 (some .int), Cond.fieldLink RX9 40 "StairCourtModel" "pile" "[I", Cond.methodLink RX9 179 yX9_twoOf, Cond.static yX9_twoOf, Cond.code yX9_twoOf cX9_twoOf 3 (some .int)]
def wsX9_drawn_r3 : List Cond := [Cond.methodLink RX9 112 yX9_held, Cond.static yX9_held, Cond.code yX9_held cX9_held 3 (some .int), Cond.methodLink RX9 93 yX9_lets, Cond.instanceMethod yX9_lets, Cond.selects RX9 yX9_lets yX9_lets, Cond.code yX9_lets cX9_lets 4 none, Cond.methodLink RX9 185 yX9_goes, Cond.instanceMethod yX9_goes, Cond.selects RX9 yX9_goes yX9_goes, Cond.code yX9_goes cX9_goes 3 none]
def wsX9_drawn : List Cond := .code yX9_drawn cX9_drawn 3 (some .int) :: ((wsX9_drawn_r1 ++ (wsX9_drawn_r2 ++ wsX9_drawn_r3)) ++ wsX90)
def wsX9_loose_r1 : List Cond := [Cond.constant RX9 78 (-1000000001), Cond.fieldLink RX9 9 "StairCourtModel" "row" "[I", Cond.constant RX9 119 (-1000000003), Cond.methodLink RX9 54 yX9_in, Cond.static yX9_in, Cond.initialized RX9, Cond.code yX9_in cX9_in 3 (some .boolean), Cond.methodLink RX9 79 yX9_error, Cond.instanceMethod yX9_error, Cond.selects RX9 yX9_error yX9_error, Cond.code yX9_error cX9_error 2 (some .int), Cond.fieldLink RX9 19 "StairCourtModel" "errors" "[I", Cond.constant RX9 49 (-1000000000), Cond.methodLink RX9 192 yX9_drawn, Cond.instanceMethod yX9_drawn, Cond.selects RX9 yX9_drawn yX9_drawn, Cond.code yX9_drawn cX9_drawn 3 (some .int), Cond.methodLink RX9 116 yX9_canGo, Cond.instanceMethod yX9_canGo, Cond.selects RX9 yX9_canGo yX9_canGo, Cond.code yX9_canGo cX9_canGo 2 (some .boolean), Cond.methodLink RX9 103 yX9_isUp, Cond.instanceMethod yX9_isUp, Cond.selects RX9 yX9_isUp yX9_isUp]
def wsX9_loose_r2 : List Cond := [Cond.code yX9_isUp cX9_isUp 2 (some .boolean), Cond.methodLink RX9 97 yX9_about, Cond.instanceMethod yX9_about, Cond.selects RX9 yX9_about yX9_about, Cond.code yX9_about cX9_about 3 (some .int), Cond.methodLink RX9 189 yX9_draw, Cond.instanceMethod yX9_draw, Cond.selects RX9 yX9_draw yX9_draw, Cond.code yX9_draw cX9_draw 1 (some .int), Cond.constant RX9 188 (1103515245), Cond.methodLink RX9 120 yX9_says, Cond.instanceMethod yX9_says, Cond.selects RX9 yX9_says yX9_says, Cond.code yX9_says cX9_says 5 (some .boolean), Cond.methodLink RX9 109 yX9_isContent, Cond.instanceMethod yX9_isContent, Cond.selects RX9 yX9_isContent yX9_isContent, Cond.code yX9_isContent cX9_isContent 3 (some .boolean), Cond.methodLink RX9 62 yX9_doesNod, Cond.instanceMethod yX9_doesNod, Cond.selects RX9 yX9_doesNod yX9_doesNod, Cond.code yX9_doesNod cX9_doesNod 7 (some .boolean), Cond.methodLink RX9 58 yX9_of, Cond.instanceMethod yX9_of]
def wsX9_loose_r3 : List Cond := [Cond.selects RX9 yX9_of yX9_of, Cond.code yX9_of cX9_of 3 (some .int), Cond.methodLink RX9 66 yX9_gives, Cond.instanceMethod yX9_gives, Cond.selects RX9 yX9_gives yX9_gives, Cond.code yX9_gives cX9_gives 7 (some .int), Cond.fieldLink RX9 37 "StairCourtModel" "facts" "[I", Cond.methodLink RX9 182 yX9_works, Cond.instanceMethod yX9_works, Cond.selects RX9 yX9_works yX9_works, Cond.code yX9_works cX9_works 5 (some .int), Cond.fieldLink RX9 40 "StairCourtModel" "pile" "[I", Cond.methodLink RX9 179 yX9_twoOf, Cond.static yX9_twoOf, Cond.code yX9_twoOf cX9_twoOf 3 (some .int), Cond.methodLink RX9 112 yX9_held, Cond.static yX9_held, Cond.code yX9_held cX9_held 3 (some .int), Cond.methodLink RX9 93 yX9_lets, Cond.instanceMethod yX9_lets, Cond.selects RX9 yX9_lets yX9_lets, Cond.code yX9_lets cX9_lets 4 none, Cond.methodLink RX9 185 yX9_goes, Cond.instanceMethod yX9_goes]
def wsX9_loose_r4 : List Cond := [Cond.selects RX9 yX9_goes yX9_goes, Cond.code yX9_goes cX9_goes 3 none]
def wsX9_loose : List Cond := .code yX9_loose cX9_loose 4 (some .int) :: ((wsX9_loose_r1 ++ (wsX9_loose_r2 ++ (wsX9_loose_r3 ++ wsX9_loose_r4))) ++ wsX90)
def wsX9_seed : List Cond := .code yX9_seed cX9_seed 2 (some .int) :: ([.methodLink RX9 89 yX9_becomes, .instanceMethod yX9_becomes, .selects RX9 yX9_becomes yX9_becomes, .initialized RX9, .code yX9_becomes cX9_becomes 4 (some .int), .fieldLink RX9 9 "StairCourtModel" "row" "[I"] ++ wsX90)
def wsX9_wordsOf_r1 : List Cond := [Cond.methodLink RX9 109 yX9_isContent, Cond.instanceMethod yX9_isContent, Cond.selects RX9 yX9_isContent yX9_isContent, Cond.initialized RX9, Cond.code yX9_isContent cX9_isContent 3 (some .boolean), Cond.methodLink RX9 62 yX9_doesNod, Cond.instanceMethod yX9_doesNod, Cond.selects RX9 yX9_doesNod yX9_doesNod, Cond.code yX9_doesNod cX9_doesNod 7 (some .boolean), Cond.fieldLink RX9 9 "StairCourtModel" "row" "[I", Cond.methodLink RX9 58 yX9_of, Cond.instanceMethod yX9_of, Cond.selects RX9 yX9_of yX9_of, Cond.code yX9_of cX9_of 3 (some .int), Cond.methodLink RX9 66 yX9_gives, Cond.instanceMethod yX9_gives, Cond.selects RX9 yX9_gives yX9_gives, Cond.code yX9_gives cX9_gives 7 (some .int), Cond.fieldLink RX9 37 "StairCourtModel" "facts" "[I", Cond.methodLink RX9 182 yX9_works, Cond.instanceMethod yX9_works, Cond.selects RX9 yX9_works yX9_works, Cond.code yX9_works cX9_works 5 (some .int), Cond.fieldLink RX9 40 "StairCourtModel" "pile" "[I"]
def wsX9_wordsOf_r2 : List Cond := [Cond.methodLink RX9 179 yX9_twoOf, Cond.static yX9_twoOf, Cond.code yX9_twoOf cX9_twoOf 3 (some .int), Cond.methodLink RX9 112 yX9_held, Cond.static yX9_held, Cond.code yX9_held cX9_held 3 (some .int)]
def wsX9_wordsOf : List Cond := .code yX9_wordsOf cX9_wordsOf 4 (some .int) :: ((wsX9_wordsOf_r1 ++ wsX9_wordsOf_r2) ++ wsX90)
def wsX9_words_r1 : List Cond := [Cond.constant RX9 78 (-1000000001), Cond.constant RX9 198 (-1000000002), Cond.methodLink RX9 83 yX9_isStep, Cond.instanceMethod yX9_isStep, Cond.selects RX9 yX9_isStep yX9_isStep, Cond.initialized RX9, Cond.code yX9_isStep cX9_isStep 2 (some .boolean), Cond.fieldLink RX9 9 "StairCourtModel" "row" "[I", Cond.methodLink RX9 54 yX9_in, Cond.static yX9_in, Cond.code yX9_in cX9_in 3 (some .boolean), Cond.methodLink RX9 79 yX9_error, Cond.instanceMethod yX9_error, Cond.selects RX9 yX9_error yX9_error, Cond.code yX9_error cX9_error 2 (some .int), Cond.fieldLink RX9 19 "StairCourtModel" "errors" "[I", Cond.constant RX9 49 (-1000000000), Cond.methodLink RX9 195 yX9_wordsOf, Cond.instanceMethod yX9_wordsOf, Cond.selects RX9 yX9_wordsOf yX9_wordsOf, Cond.code yX9_wordsOf cX9_wordsOf 4 (some .int), Cond.methodLink RX9 109 yX9_isContent, Cond.instanceMethod yX9_isContent, Cond.selects RX9 yX9_isContent yX9_isContent]
def wsX9_words_r2 : List Cond := [Cond.code yX9_isContent cX9_isContent 3 (some .boolean), Cond.methodLink RX9 62 yX9_doesNod, Cond.instanceMethod yX9_doesNod, Cond.selects RX9 yX9_doesNod yX9_doesNod, Cond.code yX9_doesNod cX9_doesNod 7 (some .boolean), Cond.methodLink RX9 58 yX9_of, Cond.instanceMethod yX9_of, Cond.selects RX9 yX9_of yX9_of, Cond.code yX9_of cX9_of 3 (some .int), Cond.methodLink RX9 66 yX9_gives, Cond.instanceMethod yX9_gives, Cond.selects RX9 yX9_gives yX9_gives, Cond.code yX9_gives cX9_gives 7 (some .int), Cond.fieldLink RX9 37 "StairCourtModel" "facts" "[I", Cond.methodLink RX9 182 yX9_works, Cond.instanceMethod yX9_works, Cond.selects RX9 yX9_works yX9_works, Cond.code yX9_works cX9_works 5 (some .int), Cond.fieldLink RX9 40 "StairCourtModel" "pile" "[I", Cond.methodLink RX9 179 yX9_twoOf, Cond.static yX9_twoOf, Cond.code yX9_twoOf cX9_twoOf 3 (some .int), Cond.methodLink RX9 112 yX9_held, Cond.static yX9_held]
def wsX9_words_r3 : List Cond := [Cond.code yX9_held cX9_held 3 (some .int)]
def wsX9_words : List Cond := .code yX9_words cX9_words 4 (some .int) :: ((wsX9_words_r1 ++ (wsX9_words_r2 ++ wsX9_words_r3)) ++ wsX90)
def wsX9_areWords : List Cond := .code yX9_areWords cX9_areWords 4 (some .boolean) :: ([.fieldLink RX9 25 "StairCourtModel" "sizeOf" "[I", .fieldLink RX9 28 "StairCourtModel" "cells" "[I", .methodLink RX9 106 yX9_isWord, .static yX9_isWord, .initialized RX9, .code yX9_isWord cX9_isWord 1 (some .boolean), .methodLink RX9 54 yX9_in, .static yX9_in, .code yX9_in cX9_in 3 (some .boolean)] ++ wsX90)
def wsX9_isSheet : List Cond := .code yX9_isSheet cX9_isSheet 1 (some .boolean) :: ([.methodLink RX9 54 yX9_in, .static yX9_in, .initialized RX9, .code yX9_in cX9_in 3 (some .boolean)])
def wsX9_climb_r1 : List Cond := [Cond.constant RX9 78 (-1000000001), Cond.fieldLink RX9 22 "StairCourtModel" "bitsOf" "[I", Cond.constant RX9 198 (-1000000002), Cond.constant RX9 119 (-1000000003), Cond.fieldLink RX9 25 "StairCourtModel" "sizeOf" "[I", Cond.fieldLink RX9 28 "StairCourtModel" "cells" "[I", Cond.methodLink RX9 100 yX9_isPerson, Cond.instanceMethod yX9_isPerson, Cond.selects RX9 yX9_isPerson yX9_isPerson, Cond.initialized RX9, Cond.code yX9_isPerson cX9_isPerson 2 (some .boolean), Cond.fieldLink RX9 9 "StairCourtModel" "row" "[I", Cond.methodLink RX9 54 yX9_in, Cond.static yX9_in, Cond.code yX9_in cX9_in 3 (some .boolean), Cond.methodLink RX9 199 yX9_isSheet, Cond.static yX9_isSheet, Cond.code yX9_isSheet cX9_isSheet 1 (some .boolean), Cond.methodLink RX9 79 yX9_error, Cond.instanceMethod yX9_error, Cond.selects RX9 yX9_error yX9_error, Cond.code yX9_error cX9_error 2 (some .int), Cond.fieldLink RX9 19 "StairCourtModel" "errors" "[I", Cond.constant RX9 49 (-1000000000)]
def wsX9_climb_r2 : List Cond := [Cond.methodLink RX9 202 yX9_areWords, Cond.instanceMethod yX9_areWords, Cond.selects RX9 yX9_areWords yX9_areWords, Cond.code yX9_areWords cX9_areWords 4 (some .boolean), Cond.methodLink RX9 106 yX9_isWord, Cond.static yX9_isWord, Cond.code yX9_isWord cX9_isWord 1 (some .boolean), Cond.methodLink RX9 205 yX9_thinks, Cond.instanceMethod yX9_thinks, Cond.selects RX9 yX9_thinks yX9_thinks, Cond.code yX9_thinks cX9_thinks 1 none, Cond.fieldLink RX9 16 "StairCourtModel" "before" "[I", Cond.methodLink RX9 50 yX9_copyAll, Cond.static yX9_copyAll, Cond.code yX9_copyAll cX9_copyAll 3 none, Cond.methodLink RX9 116 yX9_canGo, Cond.instanceMethod yX9_canGo, Cond.selects RX9 yX9_canGo yX9_canGo, Cond.code yX9_canGo cX9_canGo 2 (some .boolean), Cond.methodLink RX9 103 yX9_isUp, Cond.instanceMethod yX9_isUp, Cond.selects RX9 yX9_isUp yX9_isUp, Cond.code yX9_isUp cX9_isUp 2 (some .boolean), Cond.methodLink RX9 97 yX9_about]
def wsX9_climb_r3 : List Cond := [Cond.instanceMethod yX9_about, Cond.selects RX9 yX9_about yX9_about, Cond.code yX9_about cX9_about 3 (some .int), Cond.methodLink RX9 120 yX9_says, Cond.instanceMethod yX9_says, Cond.selects RX9 yX9_says yX9_says, Cond.code yX9_says cX9_says 5 (some .boolean), Cond.methodLink RX9 109 yX9_isContent, Cond.instanceMethod yX9_isContent, Cond.selects RX9 yX9_isContent yX9_isContent, Cond.code yX9_isContent cX9_isContent 3 (some .boolean), Cond.methodLink RX9 62 yX9_doesNod, Cond.instanceMethod yX9_doesNod, Cond.selects RX9 yX9_doesNod yX9_doesNod, Cond.code yX9_doesNod cX9_doesNod 7 (some .boolean), Cond.methodLink RX9 58 yX9_of, Cond.instanceMethod yX9_of, Cond.selects RX9 yX9_of yX9_of, Cond.code yX9_of cX9_of 3 (some .int), Cond.methodLink RX9 66 yX9_gives, Cond.instanceMethod yX9_gives, Cond.selects RX9 yX9_gives yX9_gives, Cond.code yX9_gives cX9_gives 7 (some .int), Cond.fieldLink RX9 37 "StairCourtModel" "facts" "[I"]
def wsX9_climb_r4 : List Cond := [Cond.methodLink RX9 182 yX9_works, Cond.instanceMethod yX9_works, Cond.selects RX9 yX9_works yX9_works, Cond.code yX9_works cX9_works 5 (some .int), Cond.fieldLink RX9 40 "StairCourtModel" "pile" "[I", Cond.methodLink RX9 179 yX9_twoOf, Cond.static yX9_twoOf, Cond.code yX9_twoOf cX9_twoOf 3 (some .int), Cond.methodLink RX9 112 yX9_held, Cond.static yX9_held, Cond.code yX9_held cX9_held 3 (some .int), Cond.methodLink RX9 93 yX9_lets, Cond.instanceMethod yX9_lets, Cond.selects RX9 yX9_lets yX9_lets, Cond.code yX9_lets cX9_lets 4 none, Cond.methodLink RX9 208 yX9_putsBack, Cond.instanceMethod yX9_putsBack, Cond.selects RX9 yX9_putsBack yX9_putsBack, Cond.code yX9_putsBack cX9_putsBack 1 none]
def wsX9_climb : List Cond := .code yX9_climb cX9_climb 7 (some .int) :: ((wsX9_climb_r1 ++ (wsX9_climb_r2 ++ (wsX9_climb_r3 ++ wsX9_climb_r4))) ++ wsX90)
def wsX9_findWhom_r1 : List Cond := [Cond.fieldLink RX9 43 "StairCourtModel" "whom" "[I", Cond.fieldLink RX9 9 "StairCourtModel" "row" "[I", Cond.methodLink RX9 109 yX9_isContent, Cond.instanceMethod yX9_isContent, Cond.selects RX9 yX9_isContent yX9_isContent, Cond.initialized RX9, Cond.code yX9_isContent cX9_isContent 3 (some .boolean), Cond.methodLink RX9 62 yX9_doesNod, Cond.instanceMethod yX9_doesNod, Cond.selects RX9 yX9_doesNod yX9_doesNod, Cond.code yX9_doesNod cX9_doesNod 7 (some .boolean), Cond.methodLink RX9 58 yX9_of, Cond.instanceMethod yX9_of, Cond.selects RX9 yX9_of yX9_of, Cond.code yX9_of cX9_of 3 (some .int), Cond.methodLink RX9 66 yX9_gives, Cond.instanceMethod yX9_gives, Cond.selects RX9 yX9_gives yX9_gives, Cond.code yX9_gives cX9_gives 7 (some .int), Cond.fieldLink RX9 37 "StairCourtModel" "facts" "[I", Cond.methodLink RX9 182 yX9_works, Cond.instanceMethod yX9_works, Cond.selects RX9 yX9_works yX9_works, Cond.code yX9_works cX9_works 5 (some .int)]
def wsX9_findWhom_r2 : List Cond := [Cond.fieldLink RX9 40 "StairCourtModel" "pile" "[I", Cond.methodLink RX9 179 yX9_twoOf, Cond.static yX9_twoOf, Cond.code yX9_twoOf cX9_twoOf 3 (some .int), Cond.methodLink RX9 112 yX9_held, Cond.static yX9_held, Cond.code yX9_held cX9_held 3 (some .int)]
def wsX9_findWhom : List Cond := .code yX9_findWhom cX9_findWhom 4 none :: ((wsX9_findWhom_r1 ++ wsX9_findWhom_r2) ++ wsX90)
def wsX9_wordAt : List Cond := .code yX9_wordAt cX9_wordAt 6 (some .int) :: ([])
def wsX9_fewest_r1 : List Cond := [Cond.constant RX9 78 (-1000000001), Cond.fieldLink RX9 9 "StairCourtModel" "row" "[I", Cond.fieldLink RX9 43 "StairCourtModel" "whom" "[I", Cond.constant RX9 198 (-1000000002), Cond.methodLink RX9 100 yX9_isPerson, Cond.instanceMethod yX9_isPerson, Cond.selects RX9 yX9_isPerson yX9_isPerson, Cond.initialized RX9, Cond.code yX9_isPerson cX9_isPerson 2 (some .boolean), Cond.methodLink RX9 54 yX9_in, Cond.static yX9_in, Cond.code yX9_in cX9_in 3 (some .boolean), Cond.methodLink RX9 79 yX9_error, Cond.instanceMethod yX9_error, Cond.selects RX9 yX9_error yX9_error, Cond.code yX9_error cX9_error 2 (some .int), Cond.fieldLink RX9 19 "StairCourtModel" "errors" "[I", Cond.constant RX9 49 (-1000000000), Cond.methodLink RX9 97 yX9_about, Cond.instanceMethod yX9_about, Cond.selects RX9 yX9_about yX9_about, Cond.code yX9_about cX9_about 3 (some .int), Cond.methodLink RX9 211 yX9_findWhom, Cond.instanceMethod yX9_findWhom]
def wsX9_fewest_r2 : List Cond := [Cond.selects RX9 yX9_findWhom yX9_findWhom, Cond.code yX9_findWhom cX9_findWhom 4 none, Cond.methodLink RX9 109 yX9_isContent, Cond.instanceMethod yX9_isContent, Cond.selects RX9 yX9_isContent yX9_isContent, Cond.code yX9_isContent cX9_isContent 3 (some .boolean), Cond.methodLink RX9 62 yX9_doesNod, Cond.instanceMethod yX9_doesNod, Cond.selects RX9 yX9_doesNod yX9_doesNod, Cond.code yX9_doesNod cX9_doesNod 7 (some .boolean), Cond.methodLink RX9 58 yX9_of, Cond.instanceMethod yX9_of, Cond.selects RX9 yX9_of yX9_of, Cond.code yX9_of cX9_of 3 (some .int), Cond.methodLink RX9 66 yX9_gives, Cond.instanceMethod yX9_gives, Cond.selects RX9 yX9_gives yX9_gives, Cond.code yX9_gives cX9_gives 7 (some .int), Cond.fieldLink RX9 37 "StairCourtModel" "facts" "[I", Cond.methodLink RX9 182 yX9_works, Cond.instanceMethod yX9_works, Cond.selects RX9 yX9_works yX9_works, Cond.code yX9_works cX9_works 5 (some .int), Cond.fieldLink RX9 40 "StairCourtModel" "pile" "[I"]
def wsX9_fewest_r3 : List Cond := [Cond.methodLink RX9 179 yX9_twoOf, Cond.static yX9_twoOf, Cond.code yX9_twoOf cX9_twoOf 3 (some .int), Cond.methodLink RX9 112 yX9_held, Cond.static yX9_held, Cond.code yX9_held cX9_held 3 (some .int), Cond.methodLink RX9 214 yX9_wordAt, Cond.instanceMethod yX9_wordAt, Cond.selects RX9 yX9_wordAt yX9_wordAt, Cond.code yX9_wordAt cX9_wordAt 6 (some .int)]
def wsX9_fewest : List Cond := .code yX9_fewest cX9_fewest 8 (some .int) :: ((wsX9_fewest_r1 ++ (wsX9_fewest_r2 ++ wsX9_fewest_r3)) ++ wsX90)
def wsX9_isContentBy_r1 : List Cond := [Cond.fieldLink RX9 25 "StairCourtModel" "sizeOf" "[I", Cond.fieldLink RX9 28 "StairCourtModel" "cells" "[I", Cond.methodLink RX9 106 yX9_isWord, Cond.static yX9_isWord, Cond.initialized RX9, Cond.code yX9_isWord cX9_isWord 1 (some .boolean), Cond.methodLink RX9 54 yX9_in, Cond.static yX9_in, Cond.code yX9_in cX9_in 3 (some .boolean), Cond.methodLink RX9 109 yX9_isContent, Cond.instanceMethod yX9_isContent, Cond.selects RX9 yX9_isContent yX9_isContent, Cond.code yX9_isContent cX9_isContent 3 (some .boolean), Cond.methodLink RX9 62 yX9_doesNod, Cond.instanceMethod yX9_doesNod, Cond.selects RX9 yX9_doesNod yX9_doesNod, Cond.code yX9_doesNod cX9_doesNod 7 (some .boolean), Cond.fieldLink RX9 9 "StairCourtModel" "row" "[I", Cond.methodLink RX9 58 yX9_of, Cond.instanceMethod yX9_of, Cond.selects RX9 yX9_of yX9_of, Cond.code yX9_of cX9_of 3 (some .int), Cond.methodLink RX9 66 yX9_gives, Cond.instanceMethod yX9_gives]
def wsX9_isContentBy_r2 : List Cond := [Cond.selects RX9 yX9_gives yX9_gives, Cond.code yX9_gives cX9_gives 7 (some .int), Cond.fieldLink RX9 37 "StairCourtModel" "facts" "[I", Cond.methodLink RX9 182 yX9_works, Cond.instanceMethod yX9_works, Cond.selects RX9 yX9_works yX9_works, Cond.code yX9_works cX9_works 5 (some .int), Cond.fieldLink RX9 40 "StairCourtModel" "pile" "[I", Cond.methodLink RX9 179 yX9_twoOf, Cond.static yX9_twoOf, Cond.code yX9_twoOf cX9_twoOf 3 (some .int), Cond.methodLink RX9 112 yX9_held, Cond.static yX9_held, Cond.code yX9_held cX9_held 3 (some .int)]
def wsX9_isContentBy : List Cond := .code yX9_isContentBy cX9_isContentBy 5 (some .boolean) :: ((wsX9_isContentBy_r1 ++ wsX9_isContentBy_r2) ++ wsX90)
def wsX9_cheapest_r1 : List Cond := [Cond.constant RX9 78 (-1000000001), Cond.fieldLink RX9 22 "StairCourtModel" "bitsOf" "[I", Cond.constant RX9 198 (-1000000002), Cond.fieldLink RX9 9 "StairCourtModel" "row" "[I", Cond.methodLink RX9 100 yX9_isPerson, Cond.instanceMethod yX9_isPerson, Cond.selects RX9 yX9_isPerson yX9_isPerson, Cond.initialized RX9, Cond.code yX9_isPerson cX9_isPerson 2 (some .boolean), Cond.methodLink RX9 54 yX9_in, Cond.static yX9_in, Cond.code yX9_in cX9_in 3 (some .boolean), Cond.methodLink RX9 199 yX9_isSheet, Cond.static yX9_isSheet, Cond.code yX9_isSheet cX9_isSheet 1 (some .boolean), Cond.methodLink RX9 79 yX9_error, Cond.instanceMethod yX9_error, Cond.selects RX9 yX9_error yX9_error, Cond.code yX9_error cX9_error 2 (some .int), Cond.fieldLink RX9 19 "StairCourtModel" "errors" "[I", Cond.constant RX9 49 (-1000000000), Cond.methodLink RX9 97 yX9_about, Cond.instanceMethod yX9_about, Cond.selects RX9 yX9_about yX9_about]
def wsX9_cheapest_r2 : List Cond := [Cond.code yX9_about cX9_about 3 (some .int), Cond.methodLink RX9 218 yX9_isContentBy, Cond.instanceMethod yX9_isContentBy, Cond.selects RX9 yX9_isContentBy yX9_isContentBy, Cond.code yX9_isContentBy cX9_isContentBy 5 (some .boolean), Cond.fieldLink RX9 25 "StairCourtModel" "sizeOf" "[I", Cond.fieldLink RX9 28 "StairCourtModel" "cells" "[I", Cond.methodLink RX9 106 yX9_isWord, Cond.static yX9_isWord, Cond.code yX9_isWord cX9_isWord 1 (some .boolean), Cond.methodLink RX9 109 yX9_isContent, Cond.instanceMethod yX9_isContent, Cond.selects RX9 yX9_isContent yX9_isContent, Cond.code yX9_isContent cX9_isContent 3 (some .boolean), Cond.methodLink RX9 62 yX9_doesNod, Cond.instanceMethod yX9_doesNod, Cond.selects RX9 yX9_doesNod yX9_doesNod, Cond.code yX9_doesNod cX9_doesNod 7 (some .boolean), Cond.methodLink RX9 58 yX9_of, Cond.instanceMethod yX9_of, Cond.selects RX9 yX9_of yX9_of, Cond.code yX9_of cX9_of 3 (some .int), Cond.methodLink RX9 66 yX9_gives, Cond.instanceMethod yX9_gives]
def wsX9_cheapest_r3 : List Cond := [Cond.selects RX9 yX9_gives yX9_gives, Cond.code yX9_gives cX9_gives 7 (some .int), Cond.fieldLink RX9 37 "StairCourtModel" "facts" "[I", Cond.methodLink RX9 182 yX9_works, Cond.instanceMethod yX9_works, Cond.selects RX9 yX9_works yX9_works, Cond.code yX9_works cX9_works 5 (some .int), Cond.fieldLink RX9 40 "StairCourtModel" "pile" "[I", Cond.methodLink RX9 179 yX9_twoOf, Cond.static yX9_twoOf, Cond.code yX9_twoOf cX9_twoOf 3 (some .int), Cond.methodLink RX9 112 yX9_held, Cond.static yX9_held, Cond.code yX9_held cX9_held 3 (some .int), Cond.methodLink RX9 86 yX9_bribeOf, Cond.instanceMethod yX9_bribeOf, Cond.selects RX9 yX9_bribeOf yX9_bribeOf, Cond.code yX9_bribeOf cX9_bribeOf 2 (some .int), Cond.methodLink RX9 70 yX9_wantsOf, Cond.instanceMethod yX9_wantsOf, Cond.selects RX9 yX9_wantsOf yX9_wantsOf, Cond.code yX9_wantsOf cX9_wantsOf 4 (some .int)]
def wsX9_cheapest : List Cond := .code yX9_cheapest cX9_cheapest 7 (some .int) :: ((wsX9_cheapest_r1 ++ (wsX9_cheapest_r2 ++ wsX9_cheapest_r3)) ++ wsX90)
def wsX9_odds_r1 : List Cond := [Cond.constant RX9 78 (-1000000001), Cond.fieldLink RX9 9 "StairCourtModel" "row" "[I", Cond.constantLong RX9 221 (100), Cond.methodLink RX9 100 yX9_isPerson, Cond.instanceMethod yX9_isPerson, Cond.selects RX9 yX9_isPerson yX9_isPerson, Cond.initialized RX9, Cond.code yX9_isPerson cX9_isPerson 2 (some .boolean), Cond.methodLink RX9 54 yX9_in, Cond.static yX9_in, Cond.code yX9_in cX9_in 3 (some .boolean), Cond.methodLink RX9 79 yX9_error, Cond.instanceMethod yX9_error, Cond.selects RX9 yX9_error yX9_error, Cond.code yX9_error cX9_error 2 (some .int), Cond.fieldLink RX9 19 "StairCourtModel" "errors" "[I", Cond.constant RX9 49 (-1000000000), Cond.methodLink RX9 97 yX9_about, Cond.instanceMethod yX9_about, Cond.selects RX9 yX9_about yX9_about, Cond.code yX9_about cX9_about 3 (some .int), Cond.methodLink RX9 195 yX9_wordsOf, Cond.instanceMethod yX9_wordsOf, Cond.selects RX9 yX9_wordsOf yX9_wordsOf]
def wsX9_odds_r2 : List Cond := [Cond.code yX9_wordsOf cX9_wordsOf 4 (some .int), Cond.methodLink RX9 109 yX9_isContent, Cond.instanceMethod yX9_isContent, Cond.selects RX9 yX9_isContent yX9_isContent, Cond.code yX9_isContent cX9_isContent 3 (some .boolean), Cond.methodLink RX9 62 yX9_doesNod, Cond.instanceMethod yX9_doesNod, Cond.selects RX9 yX9_doesNod yX9_doesNod, Cond.code yX9_doesNod cX9_doesNod 7 (some .boolean), Cond.methodLink RX9 58 yX9_of, Cond.instanceMethod yX9_of, Cond.selects RX9 yX9_of yX9_of, Cond.code yX9_of cX9_of 3 (some .int), Cond.methodLink RX9 66 yX9_gives, Cond.instanceMethod yX9_gives, Cond.selects RX9 yX9_gives yX9_gives, Cond.code yX9_gives cX9_gives 7 (some .int), Cond.fieldLink RX9 37 "StairCourtModel" "facts" "[I", Cond.methodLink RX9 182 yX9_works, Cond.instanceMethod yX9_works, Cond.selects RX9 yX9_works yX9_works, Cond.code yX9_works cX9_works 5 (some .int), Cond.fieldLink RX9 40 "StairCourtModel" "pile" "[I", Cond.methodLink RX9 179 yX9_twoOf]
def wsX9_odds_r3 : List Cond := [Cond.static yX9_twoOf, Cond.code yX9_twoOf cX9_twoOf 3 (some .int), Cond.methodLink RX9 112 yX9_held, Cond.static yX9_held, Cond.code yX9_held cX9_held 3 (some .int)]
def wsX9_odds : List Cond := .code yX9_odds cX9_odds 15 (some .long) :: ((wsX9_odds_r1 ++ (wsX9_odds_r2 ++ wsX9_odds_r3)) ++ wsX90)
def wsX9_isSo_r1 : List Cond := [Cond.fieldLink RX9 25 "StairCourtModel" "sizeOf" "[I", Cond.fieldLink RX9 9 "StairCourtModel" "row" "[I", Cond.fieldLink RX9 28 "StairCourtModel" "cells" "[I", Cond.methodLink RX9 109 yX9_isContent, Cond.instanceMethod yX9_isContent, Cond.selects RX9 yX9_isContent yX9_isContent, Cond.initialized RX9, Cond.code yX9_isContent cX9_isContent 3 (some .boolean), Cond.methodLink RX9 62 yX9_doesNod, Cond.instanceMethod yX9_doesNod, Cond.selects RX9 yX9_doesNod yX9_doesNod, Cond.code yX9_doesNod cX9_doesNod 7 (some .boolean), Cond.methodLink RX9 58 yX9_of, Cond.instanceMethod yX9_of, Cond.selects RX9 yX9_of yX9_of, Cond.code yX9_of cX9_of 3 (some .int), Cond.methodLink RX9 66 yX9_gives, Cond.instanceMethod yX9_gives, Cond.selects RX9 yX9_gives yX9_gives, Cond.code yX9_gives cX9_gives 7 (some .int), Cond.fieldLink RX9 37 "StairCourtModel" "facts" "[I", Cond.methodLink RX9 182 yX9_works, Cond.instanceMethod yX9_works, Cond.selects RX9 yX9_works yX9_works]
def wsX9_isSo_r2 : List Cond := [Cond.code yX9_works cX9_works 5 (some .int), Cond.fieldLink RX9 40 "StairCourtModel" "pile" "[I", Cond.methodLink RX9 179 yX9_twoOf, Cond.static yX9_twoOf, Cond.code yX9_twoOf cX9_twoOf 3 (some .int), Cond.methodLink RX9 112 yX9_held, Cond.static yX9_held, Cond.code yX9_held cX9_held 3 (some .int)]
def wsX9_isSo : List Cond := .code yX9_isSo cX9_isSo 5 (some .boolean) :: ((wsX9_isSo_r1 ++ wsX9_isSo_r2) ++ wsX90)
def wsX9_fits_r1 : List Cond := [Cond.constant RX9 78 (-1000000001), Cond.fieldLink RX9 22 "StairCourtModel" "bitsOf" "[I", Cond.constant RX9 198 (-1000000002), Cond.methodLink RX9 199 yX9_isSheet, Cond.static yX9_isSheet, Cond.initialized RX9, Cond.code yX9_isSheet cX9_isSheet 1 (some .boolean), Cond.methodLink RX9 54 yX9_in, Cond.static yX9_in, Cond.code yX9_in cX9_in 3 (some .boolean), Cond.methodLink RX9 79 yX9_error, Cond.instanceMethod yX9_error, Cond.selects RX9 yX9_error yX9_error, Cond.code yX9_error cX9_error 2 (some .int), Cond.fieldLink RX9 19 "StairCourtModel" "errors" "[I", Cond.constant RX9 49 (-1000000000), Cond.methodLink RX9 223 yX9_isSo, Cond.instanceMethod yX9_isSo, Cond.selects RX9 yX9_isSo yX9_isSo, Cond.code yX9_isSo cX9_isSo 5 (some .boolean), Cond.fieldLink RX9 25 "StairCourtModel" "sizeOf" "[I", Cond.fieldLink RX9 9 "StairCourtModel" "row" "[I", Cond.fieldLink RX9 28 "StairCourtModel" "cells" "[I", Cond.methodLink RX9 109 yX9_isContent]
def wsX9_fits_r2 : List Cond := [Cond.instanceMethod yX9_isContent, Cond.selects RX9 yX9_isContent yX9_isContent, Cond.code yX9_isContent cX9_isContent 3 (some .boolean), Cond.methodLink RX9 62 yX9_doesNod, Cond.instanceMethod yX9_doesNod, Cond.selects RX9 yX9_doesNod yX9_doesNod, Cond.code yX9_doesNod cX9_doesNod 7 (some .boolean), Cond.methodLink RX9 58 yX9_of, Cond.instanceMethod yX9_of, Cond.selects RX9 yX9_of yX9_of, Cond.code yX9_of cX9_of 3 (some .int), Cond.methodLink RX9 66 yX9_gives, Cond.instanceMethod yX9_gives, Cond.selects RX9 yX9_gives yX9_gives, Cond.code yX9_gives cX9_gives 7 (some .int), Cond.fieldLink RX9 37 "StairCourtModel" "facts" "[I", Cond.methodLink RX9 182 yX9_works, Cond.instanceMethod yX9_works, Cond.selects RX9 yX9_works yX9_works, Cond.code yX9_works cX9_works 5 (some .int), Cond.fieldLink RX9 40 "StairCourtModel" "pile" "[I", Cond.methodLink RX9 179 yX9_twoOf, Cond.static yX9_twoOf, Cond.code yX9_twoOf cX9_twoOf 3 (some .int)]
def wsX9_fits_r3 : List Cond := [Cond.methodLink RX9 112 yX9_held, Cond.static yX9_held, Cond.code yX9_held cX9_held 3 (some .int)]
def wsX9_fits : List Cond := .code yX9_fits cX9_fits 7 (some .int) :: ((wsX9_fits_r1 ++ (wsX9_fits_r2 ++ wsX9_fits_r3)) ++ wsX90)
def wsX9_begins : List Cond := .code yX9_begins cX9_begins 2 none :: ([.fieldLink RX9 226 "StairCourtModel" "traced" "I", .fieldLink RX9 46 "StairCourtModel" "trace" "[I"] ++ wsX90)
def wsX9_plainAsks : List Cond := .code yX9_plainAsks cX9_plainAsks 3 (some .int) :: ([.methodLink RX9 229 yX9_begins, .instanceMethod yX9_begins, .selects RX9 yX9_begins yX9_begins, .initialized RX9, .code yX9_begins cX9_begins 2 none, .fieldLink RX9 226 "StairCourtModel" "traced" "I", .fieldLink RX9 46 "StairCourtModel" "trace" "[I"] ++ wsX90)
def wsX9_strictAsks : List Cond := .code yX9_strictAsks cX9_strictAsks 3 (some .int) :: ([.methodLink RX9 229 yX9_begins, .instanceMethod yX9_begins, .selects RX9 yX9_begins yX9_begins, .initialized RX9, .code yX9_begins cX9_begins 2 none, .fieldLink RX9 226 "StairCourtModel" "traced" "I", .fieldLink RX9 46 "StairCourtModel" "trace" "[I", .methodLink RX9 232 yX9_plainAsks, .instanceMethod yX9_plainAsks, .selects RX9 yX9_plainAsks yX9_plainAsks, .code yX9_plainAsks cX9_plainAsks 3 (some .int)] ++ wsX90)
def wsX9_asks : List Cond := .code yX9_asks cX9_asks 3 (some .int) :: ([.methodLink RX9 58 yX9_of, .instanceMethod yX9_of, .selects RX9 yX9_of yX9_of, .initialized RX9, .code yX9_of cX9_of 3 (some .int), .fieldLink RX9 9 "StairCourtModel" "row" "[I", .methodLink RX9 235 yX9_strictAsks, .instanceMethod yX9_strictAsks, .selects RX9 yX9_strictAsks yX9_strictAsks, .code yX9_strictAsks cX9_strictAsks 3 (some .int), .methodLink RX9 229 yX9_begins, .instanceMethod yX9_begins, .selects RX9 yX9_begins yX9_begins, .code yX9_begins cX9_begins 2 none, .fieldLink RX9 226 "StairCourtModel" "traced" "I", .fieldLink RX9 46 "StairCourtModel" "trace" "[I", .methodLink RX9 232 yX9_plainAsks, .instanceMethod yX9_plainAsks, .selects RX9 yX9_plainAsks yX9_plainAsks, .code yX9_plainAsks cX9_plainAsks 3 (some .int)] ++ wsX90)
def wsX9_plainNods : List Cond := .code yX9_plainNods cX9_plainNods 3 (some .int) :: ([.methodLink RX9 229 yX9_begins, .instanceMethod yX9_begins, .selects RX9 yX9_begins yX9_begins, .initialized RX9, .code yX9_begins cX9_begins 2 none, .fieldLink RX9 226 "StairCourtModel" "traced" "I", .fieldLink RX9 46 "StairCourtModel" "trace" "[I", .methodLink RX9 238 yX9_asks, .instanceMethod yX9_asks, .selects RX9 yX9_asks yX9_asks, .code yX9_asks cX9_asks 3 (some .int), .methodLink RX9 58 yX9_of, .instanceMethod yX9_of, .selects RX9 yX9_of yX9_of, .code yX9_of cX9_of 3 (some .int), .fieldLink RX9 9 "StairCourtModel" "row" "[I", .methodLink RX9 235 yX9_strictAsks, .instanceMethod yX9_strictAsks, .selects RX9 yX9_strictAsks yX9_strictAsks, .code yX9_strictAsks cX9_strictAsks 3 (some .int), .methodLink RX9 232 yX9_plainAsks, .instanceMethod yX9_plainAsks, .selects RX9 yX9_plainAsks yX9_plainAsks, .code yX9_plainAsks cX9_plainAsks 3 (some .int)] ++ wsX90)
def wsX9_mildNods_r1 : List Cond := [Cond.methodLink RX9 229 yX9_begins, Cond.instanceMethod yX9_begins, Cond.selects RX9 yX9_begins yX9_begins, Cond.initialized RX9, Cond.code yX9_begins cX9_begins 2 none, Cond.fieldLink RX9 226 "StairCourtModel" "traced" "I", Cond.fieldLink RX9 46 "StairCourtModel" "trace" "[I", Cond.methodLink RX9 241 yX9_plainNods, Cond.instanceMethod yX9_plainNods, Cond.selects RX9 yX9_plainNods yX9_plainNods, Cond.code yX9_plainNods cX9_plainNods 3 (some .int), Cond.methodLink RX9 238 yX9_asks, Cond.instanceMethod yX9_asks, Cond.selects RX9 yX9_asks yX9_asks, Cond.code yX9_asks cX9_asks 3 (some .int), Cond.methodLink RX9 58 yX9_of, Cond.instanceMethod yX9_of, Cond.selects RX9 yX9_of yX9_of, Cond.code yX9_of cX9_of 3 (some .int), Cond.fieldLink RX9 9 "StairCourtModel" "row" "[I", Cond.methodLink RX9 235 yX9_strictAsks, Cond.instanceMethod yX9_strictAsks, Cond.selects RX9 yX9_strictAsks yX9_strictAsks, Cond.code yX9_strictAsks cX9_strictAsks 3 (some .int)]
def wsX9_mildNods_r2 : List Cond := [Cond.methodLink RX9 232 yX9_plainAsks, Cond.instanceMethod yX9_plainAsks, Cond.selects RX9 yX9_plainAsks yX9_plainAsks, Cond.code yX9_plainAsks cX9_plainAsks 3 (some .int)]
def wsX9_mildNods : List Cond := .code yX9_mildNods cX9_mildNods 3 (some .int) :: ((wsX9_mildNods_r1 ++ wsX9_mildNods_r2) ++ wsX90)
def wsX9_nods_r1 : List Cond := [Cond.methodLink RX9 58 yX9_of, Cond.instanceMethod yX9_of, Cond.selects RX9 yX9_of yX9_of, Cond.initialized RX9, Cond.code yX9_of cX9_of 3 (some .int), Cond.fieldLink RX9 9 "StairCourtModel" "row" "[I", Cond.methodLink RX9 244 yX9_mildNods, Cond.instanceMethod yX9_mildNods, Cond.selects RX9 yX9_mildNods yX9_mildNods, Cond.code yX9_mildNods cX9_mildNods 3 (some .int), Cond.methodLink RX9 229 yX9_begins, Cond.instanceMethod yX9_begins, Cond.selects RX9 yX9_begins yX9_begins, Cond.code yX9_begins cX9_begins 2 none, Cond.fieldLink RX9 226 "StairCourtModel" "traced" "I", Cond.fieldLink RX9 46 "StairCourtModel" "trace" "[I", Cond.methodLink RX9 241 yX9_plainNods, Cond.instanceMethod yX9_plainNods, Cond.selects RX9 yX9_plainNods yX9_plainNods, Cond.code yX9_plainNods cX9_plainNods 3 (some .int), Cond.methodLink RX9 238 yX9_asks, Cond.instanceMethod yX9_asks, Cond.selects RX9 yX9_asks yX9_asks, Cond.code yX9_asks cX9_asks 3 (some .int)]
def wsX9_nods_r2 : List Cond := [Cond.methodLink RX9 235 yX9_strictAsks, Cond.instanceMethod yX9_strictAsks, Cond.selects RX9 yX9_strictAsks yX9_strictAsks, Cond.code yX9_strictAsks cX9_strictAsks 3 (some .int), Cond.methodLink RX9 232 yX9_plainAsks, Cond.instanceMethod yX9_plainAsks, Cond.selects RX9 yX9_plainAsks yX9_plainAsks, Cond.code yX9_plainAsks cX9_plainAsks 3 (some .int)]
def wsX9_nods : List Cond := .code yX9_nods cX9_nods 3 (some .int) :: ((wsX9_nods_r1 ++ wsX9_nods_r2) ++ wsX90)
def wsX9_plainEchoes_r1 : List Cond := [Cond.methodLink RX9 229 yX9_begins, Cond.instanceMethod yX9_begins, Cond.selects RX9 yX9_begins yX9_begins, Cond.initialized RX9, Cond.code yX9_begins cX9_begins 2 none, Cond.fieldLink RX9 226 "StairCourtModel" "traced" "I", Cond.fieldLink RX9 46 "StairCourtModel" "trace" "[I", Cond.methodLink RX9 247 yX9_nods, Cond.instanceMethod yX9_nods, Cond.selects RX9 yX9_nods yX9_nods, Cond.code yX9_nods cX9_nods 3 (some .int), Cond.methodLink RX9 58 yX9_of, Cond.instanceMethod yX9_of, Cond.selects RX9 yX9_of yX9_of, Cond.code yX9_of cX9_of 3 (some .int), Cond.fieldLink RX9 9 "StairCourtModel" "row" "[I", Cond.methodLink RX9 244 yX9_mildNods, Cond.instanceMethod yX9_mildNods, Cond.selects RX9 yX9_mildNods yX9_mildNods, Cond.code yX9_mildNods cX9_mildNods 3 (some .int), Cond.methodLink RX9 241 yX9_plainNods, Cond.instanceMethod yX9_plainNods, Cond.selects RX9 yX9_plainNods yX9_plainNods, Cond.code yX9_plainNods cX9_plainNods 3 (some .int)]
def wsX9_plainEchoes_r2 : List Cond := [Cond.methodLink RX9 238 yX9_asks, Cond.instanceMethod yX9_asks, Cond.selects RX9 yX9_asks yX9_asks, Cond.code yX9_asks cX9_asks 3 (some .int), Cond.methodLink RX9 235 yX9_strictAsks, Cond.instanceMethod yX9_strictAsks, Cond.selects RX9 yX9_strictAsks yX9_strictAsks, Cond.code yX9_strictAsks cX9_strictAsks 3 (some .int), Cond.methodLink RX9 232 yX9_plainAsks, Cond.instanceMethod yX9_plainAsks, Cond.selects RX9 yX9_plainAsks yX9_plainAsks, Cond.code yX9_plainAsks cX9_plainAsks 3 (some .int)]
def wsX9_plainEchoes : List Cond := .code yX9_plainEchoes cX9_plainEchoes 3 (some .int) :: ((wsX9_plainEchoes_r1 ++ wsX9_plainEchoes_r2) ++ wsX90)
def wsX9_echoes_r1 : List Cond := [Cond.methodLink RX9 58 yX9_of, Cond.instanceMethod yX9_of, Cond.selects RX9 yX9_of yX9_of, Cond.initialized RX9, Cond.code yX9_of cX9_of 3 (some .int), Cond.fieldLink RX9 9 "StairCourtModel" "row" "[I", Cond.methodLink RX9 229 yX9_begins, Cond.instanceMethod yX9_begins, Cond.selects RX9 yX9_begins yX9_begins, Cond.code yX9_begins cX9_begins 2 none, Cond.fieldLink RX9 226 "StairCourtModel" "traced" "I", Cond.fieldLink RX9 46 "StairCourtModel" "trace" "[I", Cond.methodLink RX9 250 yX9_plainEchoes, Cond.instanceMethod yX9_plainEchoes, Cond.selects RX9 yX9_plainEchoes yX9_plainEchoes, Cond.code yX9_plainEchoes cX9_plainEchoes 3 (some .int), Cond.methodLink RX9 247 yX9_nods, Cond.instanceMethod yX9_nods, Cond.selects RX9 yX9_nods yX9_nods, Cond.code yX9_nods cX9_nods 3 (some .int), Cond.methodLink RX9 244 yX9_mildNods, Cond.instanceMethod yX9_mildNods, Cond.selects RX9 yX9_mildNods yX9_mildNods, Cond.code yX9_mildNods cX9_mildNods 3 (some .int)]
def wsX9_echoes_r2 : List Cond := [Cond.methodLink RX9 241 yX9_plainNods, Cond.instanceMethod yX9_plainNods, Cond.selects RX9 yX9_plainNods yX9_plainNods, Cond.code yX9_plainNods cX9_plainNods 3 (some .int), Cond.methodLink RX9 238 yX9_asks, Cond.instanceMethod yX9_asks, Cond.selects RX9 yX9_asks yX9_asks, Cond.code yX9_asks cX9_asks 3 (some .int), Cond.methodLink RX9 235 yX9_strictAsks, Cond.instanceMethod yX9_strictAsks, Cond.selects RX9 yX9_strictAsks yX9_strictAsks, Cond.code yX9_strictAsks cX9_strictAsks 3 (some .int), Cond.methodLink RX9 232 yX9_plainAsks, Cond.instanceMethod yX9_plainAsks, Cond.selects RX9 yX9_plainAsks yX9_plainAsks, Cond.code yX9_plainAsks cX9_plainAsks 3 (some .int)]
def wsX9_echoes : List Cond := .code yX9_echoes cX9_echoes 3 (some .int) :: ((wsX9_echoes_r1 ++ wsX9_echoes_r2) ++ wsX90)
def wsX9_plainParts : List Cond := .code yX9_plainParts cX9_plainParts 4 (some .int) :: ([.fieldLink RX9 253 "StairCourtModel" "isParted" "Z", .methodLink RX9 229 yX9_begins, .instanceMethod yX9_begins, .selects RX9 yX9_begins yX9_begins, .initialized RX9, .code yX9_begins cX9_begins 2 none, .fieldLink RX9 226 "StairCourtModel" "traced" "I", .fieldLink RX9 46 "StairCourtModel" "trace" "[I", .methodLink RX9 58 yX9_of, .instanceMethod yX9_of, .selects RX9 yX9_of yX9_of, .code yX9_of cX9_of 3 (some .int), .fieldLink RX9 9 "StairCourtModel" "row" "[I"] ++ wsX90)
def wsX9_partsBy_r1 : List Cond := [Cond.fieldLink RX9 253 "StairCourtModel" "isParted" "Z", Cond.methodLink RX9 58 yX9_of, Cond.instanceMethod yX9_of, Cond.selects RX9 yX9_of yX9_of, Cond.initialized RX9, Cond.code yX9_of cX9_of 3 (some .int), Cond.fieldLink RX9 9 "StairCourtModel" "row" "[I", Cond.methodLink RX9 229 yX9_begins, Cond.instanceMethod yX9_begins, Cond.selects RX9 yX9_begins yX9_begins, Cond.code yX9_begins cX9_begins 2 none, Cond.fieldLink RX9 226 "StairCourtModel" "traced" "I", Cond.fieldLink RX9 46 "StairCourtModel" "trace" "[I", Cond.methodLink RX9 256 yX9_plainParts, Cond.instanceMethod yX9_plainParts, Cond.selects RX9 yX9_plainParts yX9_plainParts, Cond.code yX9_plainParts cX9_plainParts 4 (some .int), Cond.methodLink RX9 247 yX9_nods, Cond.instanceMethod yX9_nods, Cond.selects RX9 yX9_nods yX9_nods, Cond.code yX9_nods cX9_nods 3 (some .int), Cond.methodLink RX9 244 yX9_mildNods, Cond.instanceMethod yX9_mildNods, Cond.selects RX9 yX9_mildNods yX9_mildNods]
def wsX9_partsBy_r2 : List Cond := [Cond.code yX9_mildNods cX9_mildNods 3 (some .int), Cond.methodLink RX9 241 yX9_plainNods, Cond.instanceMethod yX9_plainNods, Cond.selects RX9 yX9_plainNods yX9_plainNods, Cond.code yX9_plainNods cX9_plainNods 3 (some .int), Cond.methodLink RX9 238 yX9_asks, Cond.instanceMethod yX9_asks, Cond.selects RX9 yX9_asks yX9_asks, Cond.code yX9_asks cX9_asks 3 (some .int), Cond.methodLink RX9 235 yX9_strictAsks, Cond.instanceMethod yX9_strictAsks, Cond.selects RX9 yX9_strictAsks yX9_strictAsks, Cond.code yX9_strictAsks cX9_strictAsks 3 (some .int), Cond.methodLink RX9 232 yX9_plainAsks, Cond.instanceMethod yX9_plainAsks, Cond.selects RX9 yX9_plainAsks yX9_plainAsks, Cond.code yX9_plainAsks cX9_plainAsks 3 (some .int)]
def wsX9_partsBy : List Cond := .code yX9_partsBy cX9_partsBy 4 (some .int) :: ((wsX9_partsBy_r1 ++ wsX9_partsBy_r2) ++ wsX90)
def wsX9_voice_r1 : List Cond := [Cond.constant RX9 78 (-1000000001), Cond.fieldLink RX9 226 "StairCourtModel" "traced" "I", Cond.fieldLink RX9 253 "StairCourtModel" "isParted" "Z", Cond.constant RX9 265 (-1000000006), Cond.methodLink RX9 83 yX9_isStep, Cond.instanceMethod yX9_isStep, Cond.selects RX9 yX9_isStep yX9_isStep, Cond.initialized RX9, Cond.code yX9_isStep cX9_isStep 2 (some .boolean), Cond.fieldLink RX9 9 "StairCourtModel" "row" "[I", Cond.methodLink RX9 54 yX9_in, Cond.static yX9_in, Cond.code yX9_in cX9_in 3 (some .boolean), Cond.methodLink RX9 79 yX9_error, Cond.instanceMethod yX9_error, Cond.selects RX9 yX9_error yX9_error, Cond.code yX9_error cX9_error 2 (some .int), Cond.fieldLink RX9 19 "StairCourtModel" "errors" "[I", Cond.constant RX9 49 (-1000000000), Cond.methodLink RX9 238 yX9_asks, Cond.instanceMethod yX9_asks, Cond.selects RX9 yX9_asks yX9_asks, Cond.code yX9_asks cX9_asks 3 (some .int), Cond.methodLink RX9 58 yX9_of]
def wsX9_voice_r2 : List Cond := [Cond.instanceMethod yX9_of, Cond.selects RX9 yX9_of yX9_of, Cond.code yX9_of cX9_of 3 (some .int), Cond.methodLink RX9 235 yX9_strictAsks, Cond.instanceMethod yX9_strictAsks, Cond.selects RX9 yX9_strictAsks yX9_strictAsks, Cond.code yX9_strictAsks cX9_strictAsks 3 (some .int), Cond.methodLink RX9 229 yX9_begins, Cond.instanceMethod yX9_begins, Cond.selects RX9 yX9_begins yX9_begins, Cond.code yX9_begins cX9_begins 2 none, Cond.fieldLink RX9 46 "StairCourtModel" "trace" "[I", Cond.methodLink RX9 232 yX9_plainAsks, Cond.instanceMethod yX9_plainAsks, Cond.selects RX9 yX9_plainAsks yX9_plainAsks, Cond.code yX9_plainAsks cX9_plainAsks 3 (some .int), Cond.methodLink RX9 247 yX9_nods, Cond.instanceMethod yX9_nods, Cond.selects RX9 yX9_nods yX9_nods, Cond.code yX9_nods cX9_nods 3 (some .int), Cond.methodLink RX9 244 yX9_mildNods, Cond.instanceMethod yX9_mildNods, Cond.selects RX9 yX9_mildNods yX9_mildNods, Cond.code yX9_mildNods cX9_mildNods 3 (some .int)]
def wsX9_voice_r3 : List Cond := [Cond.methodLink RX9 241 yX9_plainNods, Cond.instanceMethod yX9_plainNods, Cond.selects RX9 yX9_plainNods yX9_plainNods, Cond.code yX9_plainNods cX9_plainNods 3 (some .int), Cond.methodLink RX9 259 yX9_echoes, Cond.instanceMethod yX9_echoes, Cond.selects RX9 yX9_echoes yX9_echoes, Cond.code yX9_echoes cX9_echoes 3 (some .int), Cond.methodLink RX9 250 yX9_plainEchoes, Cond.instanceMethod yX9_plainEchoes, Cond.selects RX9 yX9_plainEchoes yX9_plainEchoes, Cond.code yX9_plainEchoes cX9_plainEchoes 3 (some .int), Cond.methodLink RX9 262 yX9_partsBy, Cond.instanceMethod yX9_partsBy, Cond.selects RX9 yX9_partsBy yX9_partsBy, Cond.code yX9_partsBy cX9_partsBy 4 (some .int), Cond.methodLink RX9 256 yX9_plainParts, Cond.instanceMethod yX9_plainParts, Cond.selects RX9 yX9_plainParts yX9_plainParts, Cond.code yX9_plainParts cX9_plainParts 4 (some .int)]
def wsX9_voice : List Cond := .code yX9_voice cX9_voice 5 (some .int) :: ((wsX9_voice_r1 ++ (wsX9_voice_r2 ++ wsX9_voice_r3)) ++ wsX90)
def wsX9_body : List Cond := .code yX9_body cX9_body 2 (some .int) :: ([.fieldLink RX9 226 "StairCourtModel" "traced" "I", .fieldLink RX9 46 "StairCourtModel" "trace" "[I", .constant RX9 198 (-1000000002), .methodLink RX9 54 yX9_in, .static yX9_in, .initialized RX9, .code yX9_in cX9_in 3 (some .boolean), .methodLink RX9 79 yX9_error, .instanceMethod yX9_error, .selects RX9 yX9_error yX9_error, .code yX9_error cX9_error 2 (some .int), .fieldLink RX9 19 "StairCourtModel" "errors" "[I", .constant RX9 49 (-1000000000)] ++ wsX90)
def wsX9_sheet : List Cond := .code yX9_sheet cX9_sheet 5 (some .int) :: ([.constant RX9 78 (-1000000001), .constant RX9 119 (-1000000003), .fieldLink RX9 22 "StairCourtModel" "bitsOf" "[I", .fieldLink RX9 25 "StairCourtModel" "sizeOf" "[I", .fieldLink RX9 28 "StairCourtModel" "cells" "[I", .methodLink RX9 199 yX9_isSheet, .static yX9_isSheet, .initialized RX9, .code yX9_isSheet cX9_isSheet 1 (some .boolean), .methodLink RX9 54 yX9_in, .static yX9_in, .code yX9_in cX9_in 3 (some .boolean), .methodLink RX9 79 yX9_error, .instanceMethod yX9_error, .selects RX9 yX9_error yX9_error, .code yX9_error cX9_error 2 (some .int), .fieldLink RX9 19 "StairCourtModel" "errors" "[I", .constant RX9 49 (-1000000000)] ++ wsX90)
def wsX9_notThere : List Cond := .code yX9_notThere cX9_notThere 2 (some .int) :: ([.constant RX9 78 (-1000000001), .fieldLink RX9 22 "StairCourtModel" "bitsOf" "[I", .constant RX9 198 (-1000000002), .methodLink RX9 199 yX9_isSheet, .static yX9_isSheet, .initialized RX9, .code yX9_isSheet cX9_isSheet 1 (some .boolean), .methodLink RX9 54 yX9_in, .static yX9_in, .code yX9_in cX9_in 3 (some .boolean)] ++ wsX90)
def wsX9_put : List Cond := .code yX9_put cX9_put 5 (some .int) :: ([.fieldLink RX9 25 "StairCourtModel" "sizeOf" "[I", .constant RX9 78 (-1000000001), .fieldLink RX9 28 "StairCourtModel" "cells" "[I", .fieldLink RX9 22 "StairCourtModel" "bitsOf" "[I", .methodLink RX9 266 yX9_notThere, .instanceMethod yX9_notThere, .selects RX9 yX9_notThere yX9_notThere, .initialized RX9, .code yX9_notThere cX9_notThere 2 (some .int), .constant RX9 198 (-1000000002), .methodLink RX9 199 yX9_isSheet, .static yX9_isSheet, .code yX9_isSheet cX9_isSheet 1 (some .boolean), .methodLink RX9 54 yX9_in, .static yX9_in, .code yX9_in cX9_in 3 (some .boolean), .methodLink RX9 79 yX9_error, .instanceMethod yX9_error, .selects RX9 yX9_error yX9_error, .code yX9_error cX9_error 2 (some .int), .fieldLink RX9 19 "StairCourtModel" "errors" "[I", .constant RX9 49 (-1000000000)] ++ wsX90)
def wsX9_notMoved : List Cond := .code yX9_notMoved cX9_notMoved 7 (some .int) :: ([.constant RX9 78 (-1000000001), .fieldLink RX9 22 "StairCourtModel" "bitsOf" "[I", .constant RX9 198 (-1000000002), .constant RX9 92 (-1000000005), .fieldLink RX9 25 "StairCourtModel" "sizeOf" "[I", .methodLink RX9 199 yX9_isSheet, .static yX9_isSheet, .initialized RX9, .code yX9_isSheet cX9_isSheet 1 (some .boolean), .methodLink RX9 54 yX9_in, .static yX9_in, .code yX9_in cX9_in 3 (some .boolean)] ++ wsX90)
def wsX9_move : List Cond := .code yX9_move cX9_move 9 (some .int) :: ([.fieldLink RX9 28 "StairCourtModel" "cells" "[I", .methodLink RX9 269 yX9_notMoved, .instanceMethod yX9_notMoved, .selects RX9 yX9_notMoved yX9_notMoved, .initialized RX9, .code yX9_notMoved cX9_notMoved 7 (some .int), .constant RX9 78 (-1000000001), .fieldLink RX9 22 "StairCourtModel" "bitsOf" "[I", .constant RX9 198 (-1000000002), .constant RX9 92 (-1000000005), .fieldLink RX9 25 "StairCourtModel" "sizeOf" "[I", .methodLink RX9 199 yX9_isSheet, .static yX9_isSheet, .code yX9_isSheet cX9_isSheet 1 (some .boolean), .methodLink RX9 54 yX9_in, .static yX9_in, .code yX9_in cX9_in 3 (some .boolean), .methodLink RX9 79 yX9_error, .instanceMethod yX9_error, .selects RX9 yX9_error yX9_error, .code yX9_error cX9_error 2 (some .int), .fieldLink RX9 19 "StairCourtModel" "errors" "[I", .constant RX9 49 (-1000000000)] ++ wsX90)
def wsX9_carries_r1 : List Cond := [Cond.fieldLink RX9 25 "StairCourtModel" "sizeOf" "[I", Cond.fieldLink RX9 9 "StairCourtModel" "row" "[I", Cond.fieldLink RX9 28 "StairCourtModel" "cells" "[I", Cond.methodLink RX9 266 yX9_notThere, Cond.instanceMethod yX9_notThere, Cond.selects RX9 yX9_notThere yX9_notThere, Cond.initialized RX9, Cond.code yX9_notThere cX9_notThere 2 (some .int), Cond.constant RX9 78 (-1000000001), Cond.fieldLink RX9 22 "StairCourtModel" "bitsOf" "[I", Cond.constant RX9 198 (-1000000002), Cond.methodLink RX9 199 yX9_isSheet, Cond.static yX9_isSheet, Cond.code yX9_isSheet cX9_isSheet 1 (some .boolean), Cond.methodLink RX9 54 yX9_in, Cond.static yX9_in, Cond.code yX9_in cX9_in 3 (some .boolean), Cond.methodLink RX9 79 yX9_error, Cond.instanceMethod yX9_error, Cond.selects RX9 yX9_error yX9_error, Cond.code yX9_error cX9_error 2 (some .int), Cond.fieldLink RX9 19 "StairCourtModel" "errors" "[I", Cond.constant RX9 49 (-1000000000), Cond.methodLink RX9 93 yX9_lets]
def wsX9_carries_r2 : List Cond := [Cond.instanceMethod yX9_lets, Cond.selects RX9 yX9_lets yX9_lets, Cond.code yX9_lets cX9_lets 4 none]
def wsX9_carries : List Cond := .code yX9_carries cX9_carries 4 (some .int) :: ((wsX9_carries_r1 ++ wsX9_carries_r2) ++ wsX90)
def wsX9_judge_r1 : List Cond := [Cond.fieldLink RX9 25 "StairCourtModel" "sizeOf" "[I", Cond.fieldLink RX9 9 "StairCourtModel" "row" "[I", Cond.fieldLink RX9 28 "StairCourtModel" "cells" "[I", Cond.methodLink RX9 266 yX9_notThere, Cond.instanceMethod yX9_notThere, Cond.selects RX9 yX9_notThere yX9_notThere, Cond.initialized RX9, Cond.code yX9_notThere cX9_notThere 2 (some .int), Cond.constant RX9 78 (-1000000001), Cond.fieldLink RX9 22 "StairCourtModel" "bitsOf" "[I", Cond.constant RX9 198 (-1000000002), Cond.methodLink RX9 199 yX9_isSheet, Cond.static yX9_isSheet, Cond.code yX9_isSheet cX9_isSheet 1 (some .boolean), Cond.methodLink RX9 54 yX9_in, Cond.static yX9_in, Cond.code yX9_in cX9_in 3 (some .boolean), Cond.methodLink RX9 79 yX9_error, Cond.instanceMethod yX9_error, Cond.selects RX9 yX9_error yX9_error, Cond.code yX9_error cX9_error 2 (some .int), Cond.fieldLink RX9 19 "StairCourtModel" "errors" "[I", Cond.constant RX9 49 (-1000000000), Cond.methodLink RX9 97 yX9_about]
def wsX9_judge_r2 : List Cond := [Cond.instanceMethod yX9_about, Cond.selects RX9 yX9_about yX9_about, Cond.code yX9_about cX9_about 3 (some .int)]
def wsX9_judge : List Cond := .code yX9_judge cX9_judge 4 (some .int) :: ((wsX9_judge_r1 ++ wsX9_judge_r2) ++ wsX90)
def wsX9_image : List Cond := .code yX9_image cX9_image 1 (some .int) :: ([.fieldLink RX9 9 "StairCourtModel" "row" "[I", .fieldLink RX9 13 "StairCourtModel" "kept" "[I", .fieldLink RX9 272 "StairCourtModel" "images" "I", .methodLink RX9 50 yX9_copyAll, .static yX9_copyAll, .initialized RX9, .code yX9_copyAll cX9_copyAll 3 none] ++ wsX90)
def wsX9_restore : List Cond := .code yX9_restore cX9_restore 1 (some .int) :: ([.fieldLink RX9 272 "StairCourtModel" "images" "I", .constant RX9 198 (-1000000002), .fieldLink RX9 13 "StairCourtModel" "kept" "[I", .fieldLink RX9 9 "StairCourtModel" "row" "[I", .methodLink RX9 79 yX9_error, .instanceMethod yX9_error, .selects RX9 yX9_error yX9_error, .initialized RX9, .code yX9_error cX9_error 2 (some .int), .fieldLink RX9 19 "StairCourtModel" "errors" "[I", .constant RX9 49 (-1000000000), .methodLink RX9 50 yX9_copyAll, .static yX9_copyAll, .code yX9_copyAll cX9_copyAll 3 none] ++ wsX90)
def wsX9_tell : List Cond := .code yX9_tell cX9_tell 2 (some .int) :: ([.fieldLink RX9 9 "StairCourtModel" "row" "[I", .constant RX9 82 (-1000000004), .methodLink RX9 79 yX9_error, .instanceMethod yX9_error, .selects RX9 yX9_error yX9_error, .initialized RX9, .code yX9_error cX9_error 2 (some .int), .fieldLink RX9 19 "StairCourtModel" "errors" "[I", .constant RX9 49 (-1000000000)] ++ wsX90)
def wsX9_check : List Cond := .code yX9_check cX9_check 3 (some .int) :: ([.fieldLink RX9 9 "StairCourtModel" "row" "[I", .methodLink RX9 100 yX9_isPerson, .instanceMethod yX9_isPerson, .selects RX9 yX9_isPerson yX9_isPerson, .initialized RX9, .code yX9_isPerson cX9_isPerson 2 (some .boolean), .methodLink RX9 54 yX9_in, .static yX9_in, .code yX9_in cX9_in 3 (some .boolean), .methodLink RX9 97 yX9_about, .instanceMethod yX9_about, .selects RX9 yX9_about yX9_about, .code yX9_about cX9_about 3 (some .int)] ++ wsX90)
def wsX9_count : List Cond := .code yX9_count cX9_count 2 (some .int) :: ([.fieldLink RX9 9 "StairCourtModel" "row" "[I", .fieldLink RX9 226 "StairCourtModel" "traced" "I", .constant RX9 78 (-1000000001), .methodLink RX9 79 yX9_error, .instanceMethod yX9_error, .selects RX9 yX9_error yX9_error, .initialized RX9, .code yX9_error cX9_error 2 (some .int), .fieldLink RX9 19 "StairCourtModel" "errors" "[I", .constant RX9 49 (-1000000000)] ++ wsX90)
def wsX9_told : List Cond := .code yX9_told cX9_told 2 (some .int) :: ([.fieldLink RX9 19 "StairCourtModel" "errors" "[I", .constant RX9 78 (-1000000001), .methodLink RX9 54 yX9_in, .static yX9_in, .initialized RX9, .code yX9_in cX9_in 3 (some .boolean), .methodLink RX9 79 yX9_error, .instanceMethod yX9_error, .selects RX9 yX9_error yX9_error, .code yX9_error cX9_error 2 (some .int), .constant RX9 49 (-1000000000)] ++ wsX90)
def wsJ9_max_7cf53 : List Cond := .code yJ9_max_7cf53 cJ9_max_7cf53 2 (some .int) :: ([])
def wsJ9_min_7cf53 : List Cond := .code yJ9_min_7cf53 cJ9_min_7cf53 2 (some .int) :: ([])
abbrev vwCl : List vw_C := [(RX0, TX0, 12), (RX1, TX1, 4), (RX2, TX2, 4), (RX3, TX3, 4), (RX4, TX4, 5), (RX5, TX5, 3), (RX6, TX6, 3), (RX7, TX7, 6), (RX8, TX8, 9), (RX9, TX9, 21)]
end
section
set_option maxRecDepth 20000 in
theorem ggX0_init_X6_init : GoodIn wsX0_init wsX6_init := goodIn_r _ [27, 28, 2, 3, 15, 29, 30, 31, 59, 60, 61] (by decide +kernel) (by decide +kernel)
set_option maxRecDepth 20000 in
theorem gX0_init_X6_init_n32 : GoodIn wsX0_init (wsX6_init) := ggX0_init_X6_init
set_option maxRecDepth 20000 in
theorem ggX0_init_X2_init : GoodIn wsX0_init wsX2_init := goodIn_r _ [34, 35, 2, 3, 36, 37, 38, 39, 62, 63, 64, 65] (by decide +kernel) (by decide +kernel)
set_option maxRecDepth 20000 in
theorem gX0_init_X2_init : GoodIn wsX0_init (wsX2_init) := ggX0_init_X2_init
set_option maxRecDepth 20000 in
theorem ggX0_init_X3_init : GoodIn wsX0_init wsX3_init := goodIn_r _ [41, 42, 2, 3, 43, 44, 45, 46, 66, 67, 68, 69] (by decide +kernel) (by decide +kernel)
set_option maxRecDepth 20000 in
theorem gX0_init_X3_init_n62 : GoodIn wsX0_init (wsX3_init) := ggX0_init_X3_init
theorem dX0_init_0 : decode cX0_init 0 = .ok (.aload_n 0, 1) := by decide +kernel
theorem dX0_init_1 : decode cX0_init 1 = .ok (.invokespecial 3, 3) := by decide +kernel
theorem dX0_init_4 : decode cX0_init 4 = .ok (.aload_n 0, 1) := by decide +kernel
theorem dX0_init_5 : decode cX0_init 5 = .ok (.bipush 20, 2) := by decide +kernel
theorem dX0_init_7 : decode cX0_init 7 = .ok (.anewarray 9, 3) := by decide +kernel
theorem dX0_init_10 : decode cX0_init 10 = .ok (.putfield 11, 3) := by decide +kernel
theorem dX0_init_13 : decode cX0_init 13 = .ok (.aload_n 0, 1) := by decide +kernel
theorem dX0_init_14 : decode cX0_init 14 = .ok (.iconst 0, 1) := by decide +kernel
theorem dX0_init_15 : decode cX0_init 15 = .ok (.putfield 17, 3) := by decide +kernel
theorem dX0_init_18 : decode cX0_init 18 = .ok (.aload_n 0, 1) := by decide +kernel
theorem dX0_init_19 : decode cX0_init 19 = .ok (.iconst 5, 1) := by decide +kernel
theorem dX0_init_20 : decode cX0_init 20 = .ok (.anewarray 21, 3) := by decide +kernel
theorem dX0_init_23 : decode cX0_init 23 = .ok (.putfield 23, 3) := by decide +kernel
theorem dX0_init_26 : decode cX0_init 26 = .ok (.aload_n 0, 1) := by decide +kernel
theorem dX0_init_27 : decode cX0_init 27 = .ok (.iconst 0, 1) := by decide +kernel
theorem dX0_init_28 : decode cX0_init 28 = .ok (.putfield 27, 3) := by decide +kernel
theorem dX0_init_31 : decode cX0_init 31 = .ok (.aload_n 0, 1) := by decide +kernel
theorem dX0_init_32 : decode cX0_init 32 = .ok (.new 30, 3) := by decide +kernel
theorem dX0_init_35 : decode cX0_init 35 = .ok (.dup, 1) := by decide +kernel
theorem dX0_init_36 : decode cX0_init 36 = .ok (.invokespecial 32, 3) := by decide +kernel
theorem dX0_init_39 : decode cX0_init 39 = .ok (.putfield 33, 3) := by decide +kernel
theorem dX0_init_42 : decode cX0_init 42 = .ok (.aload_n 0, 1) := by decide +kernel
theorem dX0_init_43 : decode cX0_init 43 = .ok (.new 30, 3) := by decide +kernel
theorem dX0_init_46 : decode cX0_init 46 = .ok (.dup, 1) := by decide +kernel
theorem dX0_init_47 : decode cX0_init 47 = .ok (.invokespecial 32, 3) := by decide +kernel
theorem dX0_init_50 : decode cX0_init 50 = .ok (.putfield 37, 3) := by decide +kernel
theorem dX0_init_53 : decode cX0_init 53 = .ok (.aload_n 0, 1) := by decide +kernel
theorem dX0_init_54 : decode cX0_init 54 = .ok (.bipush 60, 2) := by decide +kernel
theorem dX0_init_56 : decode cX0_init 56 = .ok (.newarray .int, 2) := by decide +kernel
theorem dX0_init_58 : decode cX0_init 58 = .ok (.putfield 40, 3) := by decide +kernel
theorem dX0_init_61 : decode cX0_init 61 = .ok (.aload_n 0, 1) := by decide +kernel
theorem dX0_init_62 : decode cX0_init 62 = .ok (.iconst 0, 1) := by decide +kernel
theorem dX0_init_63 : decode cX0_init 63 = .ok (.putfield 44, 3) := by decide +kernel
theorem dX0_init_66 : decode cX0_init 66 = .ok (.aload_n 0, 1) := by decide +kernel
theorem dX0_init_67 : decode cX0_init 67 = .ok (.bipush 24, 2) := by decide +kernel
theorem dX0_init_69 : decode cX0_init 69 = .ok (.newarray .int, 2) := by decide +kernel
theorem dX0_init_71 : decode cX0_init 71 = .ok (.putfield 47, 3) := by decide +kernel
theorem dX0_init_74 : decode cX0_init 74 = .ok (.aload_n 0, 1) := by decide +kernel
theorem dX0_init_75 : decode cX0_init 75 = .ok (.iconst 0, 1) := by decide +kernel
theorem dX0_init_76 : decode cX0_init 76 = .ok (.putfield 50, 3) := by decide +kernel
theorem dX0_init_79 : decode cX0_init 79 = .ok (.aload_n 0, 1) := by decide +kernel
theorem dX0_init_80 : decode cX0_init 80 = .ok (.iconst 0, 1) := by decide +kernel
theorem dX0_init_81 : decode cX0_init 81 = .ok (.putfield 53, 3) := by decide +kernel
theorem dX0_init_84 : decode cX0_init 84 = .ok (.aload_n 0, 1) := by decide +kernel
theorem dX0_init_85 : decode cX0_init 85 = .ok (.iconst 1, 1) := by decide +kernel
theorem dX0_init_86 : decode cX0_init 86 = .ok (.putfield 56, 3) := by decide +kernel
theorem dX0_init_89 : decode cX0_init 89 = .ok (.iconst 0, 1) := by decide +kernel
theorem dX0_init_90 : decode cX0_init 90 = .ok (.istore_n 1, 1) := by decide +kernel
theorem dX0_init_91 : decode cX0_init 91 = .ok (.iload_n 1, 1) := by decide +kernel
theorem dX0_init_92 : decode cX0_init 92 = .ok (.aload_n 0, 1) := by decide +kernel
theorem dX0_init_93 : decode cX0_init 93 = .ok (.getfield 11, 3) := by decide +kernel
theorem dX0_init_96 : decode cX0_init 96 = .ok (.arraylength, 1) := by decide +kernel
theorem dX0_init_97 : decode cX0_init 97 = .ok (.if_icmp .ge 23, 3) := by decide +kernel
theorem dX0_init_100 : decode cX0_init 100 = .ok (.aload_n 0, 1) := by decide +kernel
theorem dX0_init_101 : decode cX0_init 101 = .ok (.getfield 11, 3) := by decide +kernel
theorem dX0_init_104 : decode cX0_init 104 = .ok (.iload_n 1, 1) := by decide +kernel
theorem dX0_init_105 : decode cX0_init 105 = .ok (.new 9, 3) := by decide +kernel
theorem dX0_init_108 : decode cX0_init 108 = .ok (.dup, 1) := by decide +kernel
theorem dX0_init_109 : decode cX0_init 109 = .ok (.iload_n 1, 1) := by decide +kernel
theorem dX0_init_110 : decode cX0_init 110 = .ok (.invokespecial 59, 3) := by decide +kernel
theorem dX0_init_113 : decode cX0_init 113 = .ok (.aastore, 1) := by decide +kernel
theorem dX0_init_114 : decode cX0_init 114 = .ok (.iinc 1 1, 3) := by decide +kernel
theorem dX0_init_117 : decode cX0_init 117 = .ok (.goto (-26), 3) := by decide +kernel
theorem dX0_init_120 : decode cX0_init 120 = .ok (.iconst 0, 1) := by decide +kernel
theorem dX0_init_121 : decode cX0_init 121 = .ok (.istore_n 1, 1) := by decide +kernel
theorem dX0_init_122 : decode cX0_init 122 = .ok (.iload_n 1, 1) := by decide +kernel
theorem dX0_init_123 : decode cX0_init 123 = .ok (.aload_n 0, 1) := by decide +kernel
theorem dX0_init_124 : decode cX0_init 124 = .ok (.getfield 23, 3) := by decide +kernel
theorem dX0_init_127 : decode cX0_init 127 = .ok (.arraylength, 1) := by decide +kernel
theorem dX0_init_128 : decode cX0_init 128 = .ok (.if_icmp .ge 22, 3) := by decide +kernel
theorem dX0_init_131 : decode cX0_init 131 = .ok (.aload_n 0, 1) := by decide +kernel
theorem dX0_init_132 : decode cX0_init 132 = .ok (.getfield 23, 3) := by decide +kernel
theorem dX0_init_135 : decode cX0_init 135 = .ok (.iload_n 1, 1) := by decide +kernel
theorem dX0_init_136 : decode cX0_init 136 = .ok (.new 21, 3) := by decide +kernel
theorem dX0_init_139 : decode cX0_init 139 = .ok (.dup, 1) := by decide +kernel
theorem dX0_init_140 : decode cX0_init 140 = .ok (.invokespecial 62, 3) := by decide +kernel
theorem dX0_init_143 : decode cX0_init 143 = .ok (.aastore, 1) := by decide +kernel
theorem dX0_init_144 : decode cX0_init 144 = .ok (.iinc 1 1, 3) := by decide +kernel
theorem dX0_init_147 : decode cX0_init 147 = .ok (.goto (-25), 3) := by decide +kernel
theorem dX0_init_150 : decode cX0_init 150 = .ok (.return_, 1) := by decide +kernel
set_option maxRecDepth 20000 in
theorem ggX0_copyFrom_X2_copyFrom : GoodIn wsX0_copyFrom wsX2_copyFrom := goodIn_r _ [21, 22, 23, 24, 54, 55, 56, 57] (by decide +kernel) (by decide +kernel)
set_option maxRecDepth 20000 in
theorem gX0_copyFrom_X2_copyFrom : GoodIn wsX0_copyFrom (wsV RX0 63 RX2 yX2_copyFrom wsX2_copyFrom) := goodIn_app (goodIn_of _ (by decide +kernel)) ggX0_copyFrom_X2_copyFrom
set_option maxRecDepth 20000 in
theorem ggX0_copyFrom_X3_copyFrom : GoodIn wsX0_copyFrom wsX3_copyFrom := goodIn_r _ [29, 30, 31, 32, 33, 58, 59, 60, 61] (by decide +kernel) (by decide +kernel)
set_option maxRecDepth 20000 in
theorem gX0_copyFrom_X3_copyFrom : GoodIn wsX0_copyFrom (wsV RX0 67 RX3 yX3_copyFrom wsX3_copyFrom) := goodIn_app (goodIn_of _ (by decide +kernel)) ggX0_copyFrom_X3_copyFrom
set_option maxRecDepth 20000 in
theorem ggX0_copyFrom_X6_copyFrom : GoodIn wsX0_copyFrom wsX6_copyFrom := goodIn_r _ [38, 39, 40, 9, 10, 11, 41, 62, 63, 64] (by decide +kernel) (by decide +kernel)
set_option maxRecDepth 20000 in
theorem gX0_copyFrom_X6_copyFrom : GoodIn wsX0_copyFrom (wsV RX0 70 RX6 yX6_copyFrom wsX6_copyFrom) := goodIn_app (goodIn_of _ (by decide +kernel)) ggX0_copyFrom_X6_copyFrom
theorem dX0_copyFrom_0 : decode cX0_copyFrom 0 = .ok (.aload_n 0, 1) := by decide +kernel
theorem dX0_copyFrom_1 : decode cX0_copyFrom 1 = .ok (.aload_n 1, 1) := by decide +kernel
theorem dX0_copyFrom_2 : decode cX0_copyFrom 2 = .ok (.getfield 17, 3) := by decide +kernel
theorem dX0_copyFrom_5 : decode cX0_copyFrom 5 = .ok (.putfield 17, 3) := by decide +kernel
theorem dX0_copyFrom_8 : decode cX0_copyFrom 8 = .ok (.iconst 0, 1) := by decide +kernel
theorem dX0_copyFrom_9 : decode cX0_copyFrom 9 = .ok (.istore_n 2, 1) := by decide +kernel
theorem dX0_copyFrom_10 : decode cX0_copyFrom 10 = .ok (.iload_n 2, 1) := by decide +kernel
theorem dX0_copyFrom_11 : decode cX0_copyFrom 11 = .ok (.aload_n 0, 1) := by decide +kernel
theorem dX0_copyFrom_12 : decode cX0_copyFrom 12 = .ok (.getfield 11, 3) := by decide +kernel
theorem dX0_copyFrom_15 : decode cX0_copyFrom 15 = .ok (.arraylength, 1) := by decide +kernel
theorem dX0_copyFrom_16 : decode cX0_copyFrom 16 = .ok (.if_icmp .ge 33, 3) := by decide +kernel
theorem dX0_copyFrom_19 : decode cX0_copyFrom 19 = .ok (.iload_n 2, 1) := by decide +kernel
theorem dX0_copyFrom_20 : decode cX0_copyFrom 20 = .ok (.aload_n 1, 1) := by decide +kernel
theorem dX0_copyFrom_21 : decode cX0_copyFrom 21 = .ok (.getfield 11, 3) := by decide +kernel
theorem dX0_copyFrom_24 : decode cX0_copyFrom 24 = .ok (.arraylength, 1) := by decide +kernel
theorem dX0_copyFrom_25 : decode cX0_copyFrom 25 = .ok (.if_icmp .ge 24, 3) := by decide +kernel
theorem dX0_copyFrom_28 : decode cX0_copyFrom 28 = .ok (.aload_n 0, 1) := by decide +kernel
theorem dX0_copyFrom_29 : decode cX0_copyFrom 29 = .ok (.getfield 11, 3) := by decide +kernel
theorem dX0_copyFrom_32 : decode cX0_copyFrom 32 = .ok (.iload_n 2, 1) := by decide +kernel
theorem dX0_copyFrom_33 : decode cX0_copyFrom 33 = .ok (.aaload, 1) := by decide +kernel
theorem dX0_copyFrom_34 : decode cX0_copyFrom 34 = .ok (.aload_n 1, 1) := by decide +kernel
theorem dX0_copyFrom_35 : decode cX0_copyFrom 35 = .ok (.getfield 11, 3) := by decide +kernel
theorem dX0_copyFrom_38 : decode cX0_copyFrom 38 = .ok (.iload_n 2, 1) := by decide +kernel
theorem dX0_copyFrom_39 : decode cX0_copyFrom 39 = .ok (.aaload, 1) := by decide +kernel
theorem dX0_copyFrom_40 : decode cX0_copyFrom 40 = .ok (.invokevirtual 63, 3) := by decide +kernel
theorem dX0_copyFrom_43 : decode cX0_copyFrom 43 = .ok (.iinc 2 1, 3) := by decide +kernel
theorem dX0_copyFrom_46 : decode cX0_copyFrom 46 = .ok (.goto (-36), 3) := by decide +kernel
theorem dX0_copyFrom_49 : decode cX0_copyFrom 49 = .ok (.aload_n 0, 1) := by decide +kernel
theorem dX0_copyFrom_50 : decode cX0_copyFrom 50 = .ok (.aload_n 1, 1) := by decide +kernel
theorem dX0_copyFrom_51 : decode cX0_copyFrom 51 = .ok (.getfield 27, 3) := by decide +kernel
theorem dX0_copyFrom_54 : decode cX0_copyFrom 54 = .ok (.putfield 27, 3) := by decide +kernel
theorem dX0_copyFrom_57 : decode cX0_copyFrom 57 = .ok (.iconst 0, 1) := by decide +kernel
theorem dX0_copyFrom_58 : decode cX0_copyFrom 58 = .ok (.istore_n 2, 1) := by decide +kernel
theorem dX0_copyFrom_59 : decode cX0_copyFrom 59 = .ok (.iload_n 2, 1) := by decide +kernel
theorem dX0_copyFrom_60 : decode cX0_copyFrom 60 = .ok (.aload_n 0, 1) := by decide +kernel
theorem dX0_copyFrom_61 : decode cX0_copyFrom 61 = .ok (.getfield 23, 3) := by decide +kernel
theorem dX0_copyFrom_64 : decode cX0_copyFrom 64 = .ok (.arraylength, 1) := by decide +kernel
theorem dX0_copyFrom_65 : decode cX0_copyFrom 65 = .ok (.if_icmp .ge 33, 3) := by decide +kernel
theorem dX0_copyFrom_68 : decode cX0_copyFrom 68 = .ok (.iload_n 2, 1) := by decide +kernel
theorem dX0_copyFrom_69 : decode cX0_copyFrom 69 = .ok (.aload_n 1, 1) := by decide +kernel
theorem dX0_copyFrom_70 : decode cX0_copyFrom 70 = .ok (.getfield 23, 3) := by decide +kernel
theorem dX0_copyFrom_73 : decode cX0_copyFrom 73 = .ok (.arraylength, 1) := by decide +kernel
theorem dX0_copyFrom_74 : decode cX0_copyFrom 74 = .ok (.if_icmp .ge 24, 3) := by decide +kernel
theorem dX0_copyFrom_77 : decode cX0_copyFrom 77 = .ok (.aload_n 0, 1) := by decide +kernel
theorem dX0_copyFrom_78 : decode cX0_copyFrom 78 = .ok (.getfield 23, 3) := by decide +kernel
theorem dX0_copyFrom_81 : decode cX0_copyFrom 81 = .ok (.iload_n 2, 1) := by decide +kernel
theorem dX0_copyFrom_82 : decode cX0_copyFrom 82 = .ok (.aaload, 1) := by decide +kernel
theorem dX0_copyFrom_83 : decode cX0_copyFrom 83 = .ok (.aload_n 1, 1) := by decide +kernel
theorem dX0_copyFrom_84 : decode cX0_copyFrom 84 = .ok (.getfield 23, 3) := by decide +kernel
theorem dX0_copyFrom_87 : decode cX0_copyFrom 87 = .ok (.iload_n 2, 1) := by decide +kernel
theorem dX0_copyFrom_88 : decode cX0_copyFrom 88 = .ok (.aaload, 1) := by decide +kernel
theorem dX0_copyFrom_89 : decode cX0_copyFrom 89 = .ok (.invokevirtual 67, 3) := by decide +kernel
theorem dX0_copyFrom_92 : decode cX0_copyFrom 92 = .ok (.iinc 2 1, 3) := by decide +kernel
theorem dX0_copyFrom_95 : decode cX0_copyFrom 95 = .ok (.goto (-36), 3) := by decide +kernel
theorem dX0_copyFrom_98 : decode cX0_copyFrom 98 = .ok (.aload_n 0, 1) := by decide +kernel
theorem dX0_copyFrom_99 : decode cX0_copyFrom 99 = .ok (.getfield 33, 3) := by decide +kernel
theorem dX0_copyFrom_102 : decode cX0_copyFrom 102 = .ok (.aload_n 1, 1) := by decide +kernel
theorem dX0_copyFrom_103 : decode cX0_copyFrom 103 = .ok (.getfield 33, 3) := by decide +kernel
theorem dX0_copyFrom_106 : decode cX0_copyFrom 106 = .ok (.invokevirtual 70, 3) := by decide +kernel
theorem dX0_copyFrom_109 : decode cX0_copyFrom 109 = .ok (.aload_n 0, 1) := by decide +kernel
theorem dX0_copyFrom_110 : decode cX0_copyFrom 110 = .ok (.getfield 37, 3) := by decide +kernel
theorem dX0_copyFrom_113 : decode cX0_copyFrom 113 = .ok (.aload_n 1, 1) := by decide +kernel
theorem dX0_copyFrom_114 : decode cX0_copyFrom 114 = .ok (.getfield 37, 3) := by decide +kernel
theorem dX0_copyFrom_117 : decode cX0_copyFrom 117 = .ok (.invokevirtual 70, 3) := by decide +kernel
theorem dX0_copyFrom_120 : decode cX0_copyFrom 120 = .ok (.aload_n 1, 1) := by decide +kernel
theorem dX0_copyFrom_121 : decode cX0_copyFrom 121 = .ok (.getfield 40, 3) := by decide +kernel
theorem dX0_copyFrom_124 : decode cX0_copyFrom 124 = .ok (.iconst 0, 1) := by decide +kernel
theorem dX0_copyFrom_125 : decode cX0_copyFrom 125 = .ok (.aload_n 0, 1) := by decide +kernel
theorem dX0_copyFrom_126 : decode cX0_copyFrom 126 = .ok (.getfield 40, 3) := by decide +kernel
theorem dX0_copyFrom_129 : decode cX0_copyFrom 129 = .ok (.iconst 0, 1) := by decide +kernel
theorem dX0_copyFrom_130 : decode cX0_copyFrom 130 = .ok (.bipush 60, 2) := by decide +kernel
theorem dX0_copyFrom_132 : decode cX0_copyFrom 132 = .ok (.invokestatic 73, 3) := by decide +kernel
theorem dX0_copyFrom_135 : decode cX0_copyFrom 135 = .ok (.aload_n 0, 1) := by decide +kernel
theorem dX0_copyFrom_136 : decode cX0_copyFrom 136 = .ok (.aload_n 1, 1) := by decide +kernel
theorem dX0_copyFrom_137 : decode cX0_copyFrom 137 = .ok (.getfield 44, 3) := by decide +kernel
theorem dX0_copyFrom_140 : decode cX0_copyFrom 140 = .ok (.putfield 44, 3) := by decide +kernel
theorem dX0_copyFrom_143 : decode cX0_copyFrom 143 = .ok (.aload_n 1, 1) := by decide +kernel
theorem dX0_copyFrom_144 : decode cX0_copyFrom 144 = .ok (.getfield 47, 3) := by decide +kernel
theorem dX0_copyFrom_147 : decode cX0_copyFrom 147 = .ok (.iconst 0, 1) := by decide +kernel
theorem dX0_copyFrom_148 : decode cX0_copyFrom 148 = .ok (.aload_n 0, 1) := by decide +kernel
theorem dX0_copyFrom_149 : decode cX0_copyFrom 149 = .ok (.getfield 47, 3) := by decide +kernel
theorem dX0_copyFrom_152 : decode cX0_copyFrom 152 = .ok (.iconst 0, 1) := by decide +kernel
theorem dX0_copyFrom_153 : decode cX0_copyFrom 153 = .ok (.bipush 24, 2) := by decide +kernel
theorem dX0_copyFrom_155 : decode cX0_copyFrom 155 = .ok (.invokestatic 73, 3) := by decide +kernel
theorem dX0_copyFrom_158 : decode cX0_copyFrom 158 = .ok (.aload_n 0, 1) := by decide +kernel
theorem dX0_copyFrom_159 : decode cX0_copyFrom 159 = .ok (.aload_n 1, 1) := by decide +kernel
theorem dX0_copyFrom_160 : decode cX0_copyFrom 160 = .ok (.getfield 50, 3) := by decide +kernel
theorem dX0_copyFrom_163 : decode cX0_copyFrom 163 = .ok (.putfield 50, 3) := by decide +kernel
theorem dX0_copyFrom_166 : decode cX0_copyFrom 166 = .ok (.aload_n 0, 1) := by decide +kernel
theorem dX0_copyFrom_167 : decode cX0_copyFrom 167 = .ok (.aload_n 1, 1) := by decide +kernel
theorem dX0_copyFrom_168 : decode cX0_copyFrom 168 = .ok (.getfield 53, 3) := by decide +kernel
theorem dX0_copyFrom_171 : decode cX0_copyFrom 171 = .ok (.putfield 53, 3) := by decide +kernel
theorem dX0_copyFrom_174 : decode cX0_copyFrom 174 = .ok (.aload_n 0, 1) := by decide +kernel
theorem dX0_copyFrom_175 : decode cX0_copyFrom 175 = .ok (.aload_n 1, 1) := by decide +kernel
theorem dX0_copyFrom_176 : decode cX0_copyFrom 176 = .ok (.getfield 56, 3) := by decide +kernel
theorem dX0_copyFrom_179 : decode cX0_copyFrom 179 = .ok (.putfield 56, 3) := by decide +kernel
theorem dX0_copyFrom_182 : decode cX0_copyFrom 182 = .ok (.return_, 1) := by decide +kernel
theorem dX0_judgeOn_0 : decode cX0_judgeOn 0 = .ok (.iload_n 1, 1) := by decide +kernel
theorem dX0_judgeOn_1 : decode cX0_judgeOn 1 = .ok (.ifCond .lt 29, 3) := by decide +kernel
theorem dX0_judgeOn_4 : decode cX0_judgeOn 4 = .ok (.iload_n 1, 1) := by decide +kernel
theorem dX0_judgeOn_5 : decode cX0_judgeOn 5 = .ok (.aload_n 0, 1) := by decide +kernel
theorem dX0_judgeOn_6 : decode cX0_judgeOn 6 = .ok (.getfield 17, 3) := by decide +kernel
theorem dX0_judgeOn_9 : decode cX0_judgeOn 9 = .ok (.if_icmp .ge 21, 3) := by decide +kernel
theorem dX0_judgeOn_12 : decode cX0_judgeOn 12 = .ok (.iload_n 1, 1) := by decide +kernel
theorem dX0_judgeOn_13 : decode cX0_judgeOn 13 = .ok (.aload_n 0, 1) := by decide +kernel
theorem dX0_judgeOn_14 : decode cX0_judgeOn 14 = .ok (.getfield 11, 3) := by decide +kernel
theorem dX0_judgeOn_17 : decode cX0_judgeOn 17 = .ok (.arraylength, 1) := by decide +kernel
theorem dX0_judgeOn_18 : decode cX0_judgeOn 18 = .ok (.if_icmp .ge 12, 3) := by decide +kernel
theorem dX0_judgeOn_21 : decode cX0_judgeOn 21 = .ok (.aload_n 0, 1) := by decide +kernel
theorem dX0_judgeOn_22 : decode cX0_judgeOn 22 = .ok (.getfield 11, 3) := by decide +kernel
theorem dX0_judgeOn_25 : decode cX0_judgeOn 25 = .ok (.iload_n 1, 1) := by decide +kernel
theorem dX0_judgeOn_26 : decode cX0_judgeOn 26 = .ok (.aaload, 1) := by decide +kernel
theorem dX0_judgeOn_27 : decode cX0_judgeOn 27 = .ok (.goto 4, 3) := by decide +kernel
theorem dX0_judgeOn_30 : decode cX0_judgeOn 30 = .ok (.aconst_null, 1) := by decide +kernel
theorem dX0_judgeOn_31 : decode cX0_judgeOn 31 = .ok (.areturn, 1) := by decide +kernel
theorem dX0_personOf_0 : decode cX0_personOf 0 = .ok (.iload_n 1, 1) := by decide +kernel
theorem dX0_personOf_1 : decode cX0_personOf 1 = .ok (.ifCond .lt 29, 3) := by decide +kernel
theorem dX0_personOf_4 : decode cX0_personOf 4 = .ok (.iload_n 1, 1) := by decide +kernel
theorem dX0_personOf_5 : decode cX0_personOf 5 = .ok (.aload_n 0, 1) := by decide +kernel
theorem dX0_personOf_6 : decode cX0_personOf 6 = .ok (.getfield 27, 3) := by decide +kernel
theorem dX0_personOf_9 : decode cX0_personOf 9 = .ok (.if_icmp .ge 21, 3) := by decide +kernel
theorem dX0_personOf_12 : decode cX0_personOf 12 = .ok (.iload_n 1, 1) := by decide +kernel
theorem dX0_personOf_13 : decode cX0_personOf 13 = .ok (.aload_n 0, 1) := by decide +kernel
theorem dX0_personOf_14 : decode cX0_personOf 14 = .ok (.getfield 23, 3) := by decide +kernel
theorem dX0_personOf_17 : decode cX0_personOf 17 = .ok (.arraylength, 1) := by decide +kernel
theorem dX0_personOf_18 : decode cX0_personOf 18 = .ok (.if_icmp .ge 12, 3) := by decide +kernel
theorem dX0_personOf_21 : decode cX0_personOf 21 = .ok (.aload_n 0, 1) := by decide +kernel
theorem dX0_personOf_22 : decode cX0_personOf 22 = .ok (.getfield 23, 3) := by decide +kernel
theorem dX0_personOf_25 : decode cX0_personOf 25 = .ok (.iload_n 1, 1) := by decide +kernel
theorem dX0_personOf_26 : decode cX0_personOf 26 = .ok (.aaload, 1) := by decide +kernel
theorem dX0_personOf_27 : decode cX0_personOf 27 = .ok (.goto 4, 3) := by decide +kernel
theorem dX0_personOf_30 : decode cX0_personOf 30 = .ok (.aconst_null, 1) := by decide +kernel
theorem dX0_personOf_31 : decode cX0_personOf 31 = .ok (.areturn, 1) := by decide +kernel
theorem dX0_textOf_0 : decode cX0_textOf 0 = .ok (.iload_n 1, 1) := by decide +kernel
theorem dX0_textOf_1 : decode cX0_textOf 1 = .ok (.ifCond .ne 8, 3) := by decide +kernel
theorem dX0_textOf_4 : decode cX0_textOf 4 = .ok (.aload_n 0, 1) := by decide +kernel
theorem dX0_textOf_5 : decode cX0_textOf 5 = .ok (.getfield 33, 3) := by decide +kernel
theorem dX0_textOf_8 : decode cX0_textOf 8 = .ok (.areturn, 1) := by decide +kernel
theorem dX0_textOf_9 : decode cX0_textOf 9 = .ok (.iload_n 1, 1) := by decide +kernel
theorem dX0_textOf_10 : decode cX0_textOf 10 = .ok (.iconst 1, 1) := by decide +kernel
theorem dX0_textOf_11 : decode cX0_textOf 11 = .ok (.if_icmp .ne 10, 3) := by decide +kernel
theorem dX0_textOf_14 : decode cX0_textOf 14 = .ok (.aload_n 0, 1) := by decide +kernel
theorem dX0_textOf_15 : decode cX0_textOf 15 = .ok (.getfield 37, 3) := by decide +kernel
theorem dX0_textOf_18 : decode cX0_textOf 18 = .ok (.goto 4, 3) := by decide +kernel
theorem dX0_textOf_21 : decode cX0_textOf 21 = .ok (.aconst_null, 1) := by decide +kernel
theorem dX0_textOf_22 : decode cX0_textOf 22 = .ok (.areturn, 1) := by decide +kernel
theorem dX0_addStep_0 : decode cX0_addStep 0 = .ok (.aload_n 0, 1) := by decide +kernel
theorem dX0_addStep_1 : decode cX0_addStep 1 = .ok (.getfield 17, 3) := by decide +kernel
theorem dX0_addStep_4 : decode cX0_addStep 4 = .ok (.istore_n 3, 1) := by decide +kernel
theorem dX0_addStep_5 : decode cX0_addStep 5 = .ok (.iload_n 3, 1) := by decide +kernel
theorem dX0_addStep_6 : decode cX0_addStep 6 = .ok (.ifCond .lt 48, 3) := by decide +kernel
theorem dX0_addStep_9 : decode cX0_addStep 9 = .ok (.iload_n 3, 1) := by decide +kernel
theorem dX0_addStep_10 : decode cX0_addStep 10 = .ok (.aload_n 0, 1) := by decide +kernel
theorem dX0_addStep_11 : decode cX0_addStep 11 = .ok (.getfield 11, 3) := by decide +kernel
theorem dX0_addStep_14 : decode cX0_addStep 14 = .ok (.arraylength, 1) := by decide +kernel
theorem dX0_addStep_15 : decode cX0_addStep 15 = .ok (.if_icmp .ge 39, 3) := by decide +kernel
theorem dX0_addStep_18 : decode cX0_addStep 18 = .ok (.aload_n 0, 1) := by decide +kernel
theorem dX0_addStep_19 : decode cX0_addStep 19 = .ok (.getfield 11, 3) := by decide +kernel
theorem dX0_addStep_22 : decode cX0_addStep 22 = .ok (.iload_n 3, 1) := by decide +kernel
theorem dX0_addStep_23 : decode cX0_addStep 23 = .ok (.aaload, 1) := by decide +kernel
theorem dX0_addStep_24 : decode cX0_addStep 24 = .ok (.astore 4, 2) := by decide +kernel
theorem dX0_addStep_26 : decode cX0_addStep 26 = .ok (.aload 4, 2) := by decide +kernel
theorem dX0_addStep_28 : decode cX0_addStep 28 = .ok (.iload_n 1, 1) := by decide +kernel
theorem dX0_addStep_29 : decode cX0_addStep 29 = .ok (.putfield 79, 3) := by decide +kernel
theorem dX0_addStep_32 : decode cX0_addStep 32 = .ok (.aload 4, 2) := by decide +kernel
theorem dX0_addStep_34 : decode cX0_addStep 34 = .ok (.iload_n 2, 1) := by decide +kernel
theorem dX0_addStep_35 : decode cX0_addStep 35 = .ok (.putfield 82, 3) := by decide +kernel
theorem dX0_addStep_38 : decode cX0_addStep 38 = .ok (.aload 4, 2) := by decide +kernel
theorem dX0_addStep_40 : decode cX0_addStep 40 = .ok (.iconst 0, 1) := by decide +kernel
theorem dX0_addStep_41 : decode cX0_addStep 41 = .ok (.putfield 85, 3) := by decide +kernel
theorem dX0_addStep_44 : decode cX0_addStep 44 = .ok (.aload_n 0, 1) := by decide +kernel
theorem dX0_addStep_45 : decode cX0_addStep 45 = .ok (.dup, 1) := by decide +kernel
theorem dX0_addStep_46 : decode cX0_addStep 46 = .ok (.getfield 17, 3) := by decide +kernel
theorem dX0_addStep_49 : decode cX0_addStep 49 = .ok (.iconst 1, 1) := by decide +kernel
theorem dX0_addStep_50 : decode cX0_addStep 50 = .ok (.iadd, 1) := by decide +kernel
theorem dX0_addStep_51 : decode cX0_addStep 51 = .ok (.putfield 17, 3) := by decide +kernel
theorem dX0_addStep_54 : decode cX0_addStep 54 = .ok (.iload_n 3, 1) := by decide +kernel
theorem dX0_addStep_55 : decode cX0_addStep 55 = .ok (.ireturn, 1) := by decide +kernel
theorem dX0_addPerson_0 : decode cX0_addPerson 0 = .ok (.aload_n 0, 1) := by decide +kernel
theorem dX0_addPerson_1 : decode cX0_addPerson 1 = .ok (.getfield 27, 3) := by decide +kernel
theorem dX0_addPerson_4 : decode cX0_addPerson 4 = .ok (.istore_n 2, 1) := by decide +kernel
theorem dX0_addPerson_5 : decode cX0_addPerson 5 = .ok (.iload_n 2, 1) := by decide +kernel
theorem dX0_addPerson_6 : decode cX0_addPerson 6 = .ok (.ifCond .lt 49, 3) := by decide +kernel
theorem dX0_addPerson_9 : decode cX0_addPerson 9 = .ok (.iload_n 2, 1) := by decide +kernel
theorem dX0_addPerson_10 : decode cX0_addPerson 10 = .ok (.aload_n 0, 1) := by decide +kernel
theorem dX0_addPerson_11 : decode cX0_addPerson 11 = .ok (.getfield 23, 3) := by decide +kernel
theorem dX0_addPerson_14 : decode cX0_addPerson 14 = .ok (.arraylength, 1) := by decide +kernel
theorem dX0_addPerson_15 : decode cX0_addPerson 15 = .ok (.if_icmp .ge 40, 3) := by decide +kernel
theorem dX0_addPerson_18 : decode cX0_addPerson 18 = .ok (.aload_n 0, 1) := by decide +kernel
theorem dX0_addPerson_19 : decode cX0_addPerson 19 = .ok (.getfield 23, 3) := by decide +kernel
theorem dX0_addPerson_22 : decode cX0_addPerson 22 = .ok (.iload_n 2, 1) := by decide +kernel
theorem dX0_addPerson_23 : decode cX0_addPerson 23 = .ok (.aaload, 1) := by decide +kernel
theorem dX0_addPerson_24 : decode cX0_addPerson 24 = .ok (.astore_n 3, 1) := by decide +kernel
theorem dX0_addPerson_25 : decode cX0_addPerson 25 = .ok (.aload_n 3, 1) := by decide +kernel
theorem dX0_addPerson_26 : decode cX0_addPerson 26 = .ok (.iconst 0, 1) := by decide +kernel
theorem dX0_addPerson_27 : decode cX0_addPerson 27 = .ok (.putfield 88, 3) := by decide +kernel
theorem dX0_addPerson_30 : decode cX0_addPerson 30 = .ok (.aload_n 3, 1) := by decide +kernel
theorem dX0_addPerson_31 : decode cX0_addPerson 31 = .ok (.iload_n 1, 1) := by decide +kernel
theorem dX0_addPerson_32 : decode cX0_addPerson 32 = .ok (.putfield 91, 3) := by decide +kernel
theorem dX0_addPerson_35 : decode cX0_addPerson 35 = .ok (.aload_n 3, 1) := by decide +kernel
theorem dX0_addPerson_36 : decode cX0_addPerson 36 = .ok (.iconst 0, 1) := by decide +kernel
theorem dX0_addPerson_37 : decode cX0_addPerson 37 = .ok (.putfield 94, 3) := by decide +kernel
theorem dX0_addPerson_40 : decode cX0_addPerson 40 = .ok (.aload_n 3, 1) := by decide +kernel
theorem dX0_addPerson_41 : decode cX0_addPerson 41 = .ok (.iconst 0, 1) := by decide +kernel
theorem dX0_addPerson_42 : decode cX0_addPerson 42 = .ok (.putfield 97, 3) := by decide +kernel
theorem dX0_addPerson_45 : decode cX0_addPerson 45 = .ok (.aload_n 0, 1) := by decide +kernel
theorem dX0_addPerson_46 : decode cX0_addPerson 46 = .ok (.dup, 1) := by decide +kernel
theorem dX0_addPerson_47 : decode cX0_addPerson 47 = .ok (.getfield 27, 3) := by decide +kernel
theorem dX0_addPerson_50 : decode cX0_addPerson 50 = .ok (.iconst 1, 1) := by decide +kernel
theorem dX0_addPerson_51 : decode cX0_addPerson 51 = .ok (.iadd, 1) := by decide +kernel
theorem dX0_addPerson_52 : decode cX0_addPerson 52 = .ok (.putfield 27, 3) := by decide +kernel
theorem dX0_addPerson_55 : decode cX0_addPerson 55 = .ok (.iload_n 2, 1) := by decide +kernel
theorem dX0_addPerson_56 : decode cX0_addPerson 56 = .ok (.ireturn, 1) := by decide +kernel
theorem dX0_isUp_0 : decode cX0_isUp 0 = .ok (.aload_n 1, 1) := by decide +kernel
theorem dX0_isUp_1 : decode cX0_isUp 1 = .ok (.getfield 88, 3) := by decide +kernel
theorem dX0_isUp_4 : decode cX0_isUp 4 = .ok (.aload_n 0, 1) := by decide +kernel
theorem dX0_isUp_5 : decode cX0_isUp 5 = .ok (.getfield 17, 3) := by decide +kernel
theorem dX0_isUp_8 : decode cX0_isUp 8 = .ok (.if_icmp .lt 7, 3) := by decide +kernel
theorem dX0_isUp_11 : decode cX0_isUp 11 = .ok (.iconst 1, 1) := by decide +kernel
theorem dX0_isUp_12 : decode cX0_isUp 12 = .ok (.goto 4, 3) := by decide +kernel
theorem dX0_isUp_15 : decode cX0_isUp 15 = .ok (.iconst 0, 1) := by decide +kernel
theorem dX0_isUp_16 : decode cX0_isUp 16 = .ok (.ireturn, 1) := by decide +kernel
set_option maxRecDepth 20000 in
theorem ggX0_canGo_X0_isUp : GoodIn wsX0_canGo wsX0_isUp := goodIn_r _ [6, 7, 8, 9, 10, 11, 12, 13, 14, 15, 16, 17, 18, 19, 20, 21, 22, 23, 24] (by decide +kernel) (by decide +kernel)
set_option maxRecDepth 20000 in
theorem gX0_canGo_X0_isUp : GoodIn wsX0_canGo (wsV RX0 100 RX0 yX0_isUp wsX0_isUp) := goodIn_app (goodIn_of _ (by decide +kernel)) ggX0_canGo_X0_isUp
theorem dX0_canGo_0 : decode cX0_canGo 0 = .ok (.aload_n 0, 1) := by decide +kernel
theorem dX0_canGo_1 : decode cX0_canGo 1 = .ok (.aload_n 1, 1) := by decide +kernel
theorem dX0_canGo_2 : decode cX0_canGo 2 = .ok (.invokevirtual 100, 3) := by decide +kernel
theorem dX0_canGo_5 : decode cX0_canGo 5 = .ok (.ifCond .ne 14, 3) := by decide +kernel
theorem dX0_canGo_8 : decode cX0_canGo 8 = .ok (.aload_n 1, 1) := by decide +kernel
theorem dX0_canGo_9 : decode cX0_canGo 9 = .ok (.getfield 91, 3) := by decide +kernel
theorem dX0_canGo_12 : decode cX0_canGo 12 = .ok (.ifCond .le 7, 3) := by decide +kernel
theorem dX0_canGo_15 : decode cX0_canGo 15 = .ok (.iconst 1, 1) := by decide +kernel
theorem dX0_canGo_16 : decode cX0_canGo 16 = .ok (.goto 4, 3) := by decide +kernel
theorem dX0_canGo_19 : decode cX0_canGo 19 = .ok (.iconst 0, 1) := by decide +kernel
theorem dX0_canGo_20 : decode cX0_canGo 20 = .ok (.ireturn, 1) := by decide +kernel
set_option maxRecDepth 20000 in
theorem ggX0_gives_X6_isThere : GoodIn wsX0_gives wsX6_isThere := goodIn_r _ [7, 8, 44, 45, 46] (by decide +kernel) (by decide +kernel)
set_option maxRecDepth 20000 in
theorem gX0_gives_X6_isThere : GoodIn wsX0_gives (wsV RX0 104 RX6 yX6_isThere wsX6_isThere) := goodIn_app (goodIn_of _ (by decide +kernel)) ggX0_gives_X6_isThere
set_option maxRecDepth 20000 in
theorem ggX0_gives_X6_work : GoodIn wsX0_gives wsX6_work := goodIn_r _ [12, 8, 13, 14, 15, 16, 6, 17, 18, 19, 20, 44, 45, 46] (by decide +kernel) (by decide +kernel)
set_option maxRecDepth 20000 in
theorem gX0_gives_X6_work : GoodIn wsX0_gives (wsV RX0 108 RX6 yX6_work wsX6_work) := goodIn_app (goodIn_of _ (by decide +kernel)) ggX0_gives_X6_work
set_option maxRecDepth 20000 in
theorem ggX0_gives_X0_hold : GoodIn wsX0_gives wsX0_hold := goodIn_r _ [24, 25, 26, 27, 28, 29, 30, 31] (by decide +kernel) (by decide +kernel)
set_option maxRecDepth 20000 in
theorem gX0_gives_X0_hold : GoodIn wsX0_gives (va_wsS RX0 112 yX0_hold wsX0_hold) := goodIn_app (goodIn_of _ (by decide +kernel)) ggX0_gives_X0_hold
theorem dX0_gives_0 : decode cX0_gives 0 = .ok (.iload_n 1, 1) := by decide +kernel
theorem dX0_gives_1 : decode cX0_gives 1 = .ok (.ifCond .ne 33, 3) := by decide +kernel
theorem dX0_gives_4 : decode cX0_gives 4 = .ok (.aload_n 0, 1) := by decide +kernel
theorem dX0_gives_5 : decode cX0_gives 5 = .ok (.getfield 33, 3) := by decide +kernel
theorem dX0_gives_8 : decode cX0_gives 8 = .ok (.invokevirtual 104, 3) := by decide +kernel
theorem dX0_gives_11 : decode cX0_gives 11 = .ok (.ifCond .eq 17, 3) := by decide +kernel
theorem dX0_gives_14 : decode cX0_gives 14 = .ok (.aload_n 0, 1) := by decide +kernel
theorem dX0_gives_15 : decode cX0_gives 15 = .ok (.getfield 33, 3) := by decide +kernel
theorem dX0_gives_18 : decode cX0_gives 18 = .ok (.iload_n 2, 1) := by decide +kernel
theorem dX0_gives_19 : decode cX0_gives 19 = .ok (.iload_n 3, 1) := by decide +kernel
theorem dX0_gives_20 : decode cX0_gives 20 = .ok (.iload 4, 2) := by decide +kernel
theorem dX0_gives_22 : decode cX0_gives 22 = .ok (.invokevirtual 108, 3) := by decide +kernel
theorem dX0_gives_25 : decode cX0_gives 25 = .ok (.goto 4, 3) := by decide +kernel
theorem dX0_gives_28 : decode cX0_gives 28 = .ok (.iconst 1, 1) := by decide +kernel
theorem dX0_gives_29 : decode cX0_gives 29 = .ok (.iconst 1, 1) := by decide +kernel
theorem dX0_gives_30 : decode cX0_gives 30 = .ok (.invokestatic 112, 3) := by decide +kernel
theorem dX0_gives_33 : decode cX0_gives 33 = .ok (.ireturn, 1) := by decide +kernel
theorem dX0_gives_34 : decode cX0_gives 34 = .ok (.aload_n 0, 1) := by decide +kernel
theorem dX0_gives_35 : decode cX0_gives 35 = .ok (.getfield 37, 3) := by decide +kernel
theorem dX0_gives_38 : decode cX0_gives 38 = .ok (.invokevirtual 104, 3) := by decide +kernel
theorem dX0_gives_41 : decode cX0_gives 41 = .ok (.ifCond .eq 17, 3) := by decide +kernel
theorem dX0_gives_44 : decode cX0_gives 44 = .ok (.aload_n 0, 1) := by decide +kernel
theorem dX0_gives_45 : decode cX0_gives 45 = .ok (.getfield 37, 3) := by decide +kernel
theorem dX0_gives_48 : decode cX0_gives 48 = .ok (.iload_n 2, 1) := by decide +kernel
theorem dX0_gives_49 : decode cX0_gives 49 = .ok (.iload_n 3, 1) := by decide +kernel
theorem dX0_gives_50 : decode cX0_gives 50 = .ok (.iload 4, 2) := by decide +kernel
theorem dX0_gives_52 : decode cX0_gives 52 = .ok (.invokevirtual 108, 3) := by decide +kernel
theorem dX0_gives_55 : decode cX0_gives 55 = .ok (.goto 4, 3) := by decide +kernel
theorem dX0_gives_58 : decode cX0_gives 58 = .ok (.iload_n 2, 1) := by decide +kernel
theorem dX0_gives_59 : decode cX0_gives 59 = .ok (.bipush 99, 2) := by decide +kernel
theorem dX0_gives_61 : decode cX0_gives 61 = .ok (.invokestatic 112, 3) := by decide +kernel
theorem dX0_gives_64 : decode cX0_gives 64 = .ok (.ireturn, 1) := by decide +kernel
theorem dX0_hold_0 : decode cX0_hold 0 = .ok (.iconst 0, 1) := by decide +kernel
theorem dX0_hold_1 : decode cX0_hold 1 = .ok (.iload_n 1, 1) := by decide +kernel
theorem dX0_hold_2 : decode cX0_hold 2 = .ok (.iload_n 0, 1) := by decide +kernel
theorem dX0_hold_3 : decode cX0_hold 3 = .ok (.invokestatic 116, 3) := by decide +kernel
theorem dX0_hold_6 : decode cX0_hold 6 = .ok (.invokestatic 121, 3) := by decide +kernel
theorem dX0_hold_9 : decode cX0_hold 9 = .ok (.ireturn, 1) := by decide +kernel
set_option maxRecDepth 20000 in
theorem ggX0_isContent_X2_nods : GoodIn wsX0_isContent wsX2_nods := goodIn_r _ [8, 9, 10, 11, 12, 13, 14, 15, 7, 16, 17, 18, 19, 20, 21, 22, 23, 24, 72, 73, 74, 75] (by decide +kernel) (by decide +kernel)
set_option maxRecDepth 20000 in
theorem gX0_isContent_X2_nods : GoodIn wsX0_isContent (wsV RX0 124 RX2 yX2_nods wsX2_nods) := goodIn_app (goodIn_of _ (by decide +kernel)) ggX0_isContent_X2_nods
set_option maxRecDepth 20000 in
theorem ggX0_isContent_X0_gives : GoodIn wsX0_isContent wsX0_gives := goodIn_r _ [29, 30, 31, 32, 33, 34, 35, 36, 37, 38, 39, 40, 41, 42, 43, 44, 45, 46, 47, 48, 49, 50, 51, 28, 52, 53, 54, 55, 56, 57, 58, 59, 60, 61, 62, 63, 64, 65, 66, 67, 68, 69, 70, 71, 76, 77, 78] (by decide +kernel) (by decide +kernel)
set_option maxRecDepth 20000 in
theorem gX0_isContent_X0_gives : GoodIn wsX0_isContent (wsV RX0 131 RX0 yX0_gives wsX0_gives) := goodIn_app (goodIn_of _ (by decide +kernel)) ggX0_isContent_X0_gives
theorem dX0_isContent_0 : decode cX0_isContent 0 = .ok (.aload_n 1, 1) := by decide +kernel
theorem dX0_isContent_1 : decode cX0_isContent 1 = .ok (.iload_n 2, 1) := by decide +kernel
theorem dX0_isContent_2 : decode cX0_isContent 2 = .ok (.aload_n 0, 1) := by decide +kernel
theorem dX0_isContent_3 : decode cX0_isContent 3 = .ok (.getfield 53, 3) := by decide +kernel
theorem dX0_isContent_6 : decode cX0_isContent 6 = .ok (.invokevirtual 124, 3) := by decide +kernel
theorem dX0_isContent_9 : decode cX0_isContent 9 = .ok (.ifCond .eq 25, 3) := by decide +kernel
theorem dX0_isContent_12 : decode cX0_isContent 12 = .ok (.aload_n 0, 1) := by decide +kernel
theorem dX0_isContent_13 : decode cX0_isContent 13 = .ok (.iconst 0, 1) := by decide +kernel
theorem dX0_isContent_14 : decode cX0_isContent 14 = .ok (.iload_n 2, 1) := by decide +kernel
theorem dX0_isContent_15 : decode cX0_isContent 15 = .ok (.aload_n 1, 1) := by decide +kernel
theorem dX0_isContent_16 : decode cX0_isContent 16 = .ok (.getfield 128, 3) := by decide +kernel
theorem dX0_isContent_19 : decode cX0_isContent 19 = .ok (.aload_n 1, 1) := by decide +kernel
theorem dX0_isContent_20 : decode cX0_isContent 20 = .ok (.getfield 82, 3) := by decide +kernel
theorem dX0_isContent_23 : decode cX0_isContent 23 = .ok (.invokevirtual 131, 3) := by decide +kernel
theorem dX0_isContent_26 : decode cX0_isContent 26 = .ok (.iconst 1, 1) := by decide +kernel
theorem dX0_isContent_27 : decode cX0_isContent 27 = .ok (.if_icmp .ne 7, 3) := by decide +kernel
theorem dX0_isContent_30 : decode cX0_isContent 30 = .ok (.iconst 1, 1) := by decide +kernel
theorem dX0_isContent_31 : decode cX0_isContent 31 = .ok (.goto 4, 3) := by decide +kernel
theorem dX0_isContent_34 : decode cX0_isContent 34 = .ok (.iconst 0, 1) := by decide +kernel
theorem dX0_isContent_35 : decode cX0_isContent 35 = .ok (.ireturn, 1) := by decide +kernel
set_option maxRecDepth 20000 in
theorem ggX0_bribeOf_X2_wants : GoodIn wsX0_bribeOf wsX2_wants := goodIn_r _ [7, 8, 9, 10, 11, 47, 48, 49, 50] (by decide +kernel) (by decide +kernel)
set_option maxRecDepth 20000 in
theorem gX0_bribeOf_X2_wants : GoodIn wsX0_bribeOf (wsV RX0 135 RX2 yX2_wants wsX2_wants) := goodIn_app (goodIn_of _ (by decide +kernel)) ggX0_bribeOf_X2_wants
set_option maxRecDepth 20000 in
theorem ggX0_bribeOf_X0_gives : GoodIn wsX0_bribeOf wsX0_gives := goodIn_r _ [16, 17, 18, 19, 20, 21, 22, 23, 24, 25, 26, 27, 28, 29, 30, 31, 32, 33, 34, 35, 36, 37, 38, 15, 39, 40, 41, 42, 43, 44, 45, 46, 51, 52, 53, 54, 55, 56, 57, 58, 59, 60, 61, 62, 63, 64, 65] (by decide +kernel) (by decide +kernel)
set_option maxRecDepth 20000 in
theorem gX0_bribeOf_X0_gives : GoodIn wsX0_bribeOf (wsV RX0 131 RX0 yX0_gives wsX0_gives) := goodIn_app (goodIn_of _ (by decide +kernel)) ggX0_bribeOf_X0_gives
theorem dX0_bribeOf_0 : decode cX0_bribeOf 0 = .ok (.aload_n 0, 1) := by decide +kernel
theorem dX0_bribeOf_1 : decode cX0_bribeOf 1 = .ok (.iconst 1, 1) := by decide +kernel
theorem dX0_bribeOf_2 : decode cX0_bribeOf 2 = .ok (.aload_n 1, 1) := by decide +kernel
theorem dX0_bribeOf_3 : decode cX0_bribeOf 3 = .ok (.invokevirtual 135, 3) := by decide +kernel
theorem dX0_bribeOf_6 : decode cX0_bribeOf 6 = .ok (.aload_n 1, 1) := by decide +kernel
theorem dX0_bribeOf_7 : decode cX0_bribeOf 7 = .ok (.getfield 128, 3) := by decide +kernel
theorem dX0_bribeOf_10 : decode cX0_bribeOf 10 = .ok (.aload_n 1, 1) := by decide +kernel
theorem dX0_bribeOf_11 : decode cX0_bribeOf 11 = .ok (.getfield 79, 3) := by decide +kernel
theorem dX0_bribeOf_14 : decode cX0_bribeOf 14 = .ok (.invokevirtual 131, 3) := by decide +kernel
theorem dX0_bribeOf_17 : decode cX0_bribeOf 17 = .ok (.ireturn, 1) := by decide +kernel
set_option maxRecDepth 20000 in
theorem ggX0_contentWords_X0_isContent : GoodIn wsX0_contentWords wsX0_isContent := goodIn_r _ [5, 6, 7, 8, 9, 10, 11, 12, 13, 14, 15, 16, 17, 18, 19, 20, 21, 22, 23, 24, 25, 26, 27, 28, 29, 30, 31, 32, 4, 33, 34, 35, 36, 37, 38, 39, 40, 41, 42, 43, 44, 45, 46, 47, 48, 49, 50, 51, 52, 53, 54, 55, 56, 57, 58, 59, 60, 61, 62, 63, 64, 65, 66, 67, 68, 69, 70, 71, 72, 73, 74, 75, 76, 77, 78, 79, 80, 81, 82] (by decide +kernel) (by decide +kernel)
set_option maxRecDepth 20000 in
theorem gX0_contentWords_X0_isContent : GoodIn wsX0_contentWords (wsV RX0 139 RX0 yX0_isContent wsX0_isContent) := goodIn_app (goodIn_of _ (by decide +kernel)) ggX0_contentWords_X0_isContent
theorem dX0_contentWords_0 : decode cX0_contentWords 0 = .ok (.iconst 0, 1) := by decide +kernel
theorem dX0_contentWords_1 : decode cX0_contentWords 1 = .ok (.istore_n 2, 1) := by decide +kernel
theorem dX0_contentWords_2 : decode cX0_contentWords 2 = .ok (.iconst 0, 1) := by decide +kernel
theorem dX0_contentWords_3 : decode cX0_contentWords 3 = .ok (.istore_n 3, 1) := by decide +kernel
theorem dX0_contentWords_4 : decode cX0_contentWords 4 = .ok (.iload_n 3, 1) := by decide +kernel
theorem dX0_contentWords_5 : decode cX0_contentWords 5 = .ok (.bipush 100, 2) := by decide +kernel
theorem dX0_contentWords_7 : decode cX0_contentWords 7 = .ok (.if_icmp .ge 21, 3) := by decide +kernel
theorem dX0_contentWords_10 : decode cX0_contentWords 10 = .ok (.aload_n 0, 1) := by decide +kernel
theorem dX0_contentWords_11 : decode cX0_contentWords 11 = .ok (.aload_n 1, 1) := by decide +kernel
theorem dX0_contentWords_12 : decode cX0_contentWords 12 = .ok (.iload_n 3, 1) := by decide +kernel
theorem dX0_contentWords_13 : decode cX0_contentWords 13 = .ok (.invokevirtual 139, 3) := by decide +kernel
theorem dX0_contentWords_16 : decode cX0_contentWords 16 = .ok (.ifCond .eq 6, 3) := by decide +kernel
theorem dX0_contentWords_19 : decode cX0_contentWords 19 = .ok (.iinc 2 1, 3) := by decide +kernel
theorem dX0_contentWords_22 : decode cX0_contentWords 22 = .ok (.iinc 3 1, 3) := by decide +kernel
theorem dX0_contentWords_25 : decode cX0_contentWords 25 = .ok (.goto (-21), 3) := by decide +kernel
theorem dX0_contentWords_28 : decode cX0_contentWords 28 = .ok (.iload_n 2, 1) := by decide +kernel
theorem dX0_contentWords_29 : decode cX0_contentWords 29 = .ok (.ireturn, 1) := by decide +kernel
set_option maxRecDepth 20000 in
theorem ggX0_leastContent_X0_isContent : GoodIn wsX0_leastContent wsX0_isContent := goodIn_r _ [5, 6, 7, 8, 9, 10, 11, 12, 13, 14, 15, 16, 17, 18, 19, 20, 21, 22, 23, 24, 25, 26, 27, 28, 29, 30, 31, 32, 4, 33, 34, 35, 36, 37, 38, 39, 40, 41, 42, 43, 44, 45, 46, 47, 48, 49, 50, 51, 52, 53, 54, 55, 56, 57, 58, 59, 60, 61, 62, 63, 64, 65, 66, 67, 68, 69, 70, 71, 72, 73, 74, 75, 76, 77, 78, 79, 80, 81, 82] (by decide +kernel) (by decide +kernel)
set_option maxRecDepth 20000 in
theorem gX0_leastContent_X0_isContent : GoodIn wsX0_leastContent (wsV RX0 139 RX0 yX0_isContent wsX0_isContent) := goodIn_app (goodIn_of _ (by decide +kernel)) ggX0_leastContent_X0_isContent
theorem dX0_leastContent_0 : decode cX0_leastContent 0 = .ok (.iconst 0, 1) := by decide +kernel
theorem dX0_leastContent_1 : decode cX0_leastContent 1 = .ok (.istore_n 2, 1) := by decide +kernel
theorem dX0_leastContent_2 : decode cX0_leastContent 2 = .ok (.iload_n 2, 1) := by decide +kernel
theorem dX0_leastContent_3 : decode cX0_leastContent 3 = .ok (.bipush 100, 2) := by decide +kernel
theorem dX0_leastContent_5 : decode cX0_leastContent 5 = .ok (.if_icmp .ge 20, 3) := by decide +kernel
theorem dX0_leastContent_8 : decode cX0_leastContent 8 = .ok (.aload_n 0, 1) := by decide +kernel
theorem dX0_leastContent_9 : decode cX0_leastContent 9 = .ok (.aload_n 1, 1) := by decide +kernel
theorem dX0_leastContent_10 : decode cX0_leastContent 10 = .ok (.iload_n 2, 1) := by decide +kernel
theorem dX0_leastContent_11 : decode cX0_leastContent 11 = .ok (.invokevirtual 139, 3) := by decide +kernel
theorem dX0_leastContent_14 : decode cX0_leastContent 14 = .ok (.ifCond .eq 5, 3) := by decide +kernel
theorem dX0_leastContent_17 : decode cX0_leastContent 17 = .ok (.iload_n 2, 1) := by decide +kernel
theorem dX0_leastContent_18 : decode cX0_leastContent 18 = .ok (.ireturn, 1) := by decide +kernel
theorem dX0_leastContent_19 : decode cX0_leastContent 19 = .ok (.iinc 2 1, 3) := by decide +kernel
theorem dX0_leastContent_22 : decode cX0_leastContent 22 = .ok (.goto (-20), 3) := by decide +kernel
theorem dX0_leastContent_25 : decode cX0_leastContent 25 = .ok (.iconst (-1), 1) := by decide +kernel
theorem dX0_leastContent_26 : decode cX0_leastContent 26 = .ok (.ireturn, 1) := by decide +kernel
set_option maxRecDepth 20000 in
theorem ggX0_hear_X0_judgeOn : GoodIn wsX0_hear wsX0_judgeOn := goodIn_r _ [16, 17, 18, 82, 83, 84, 85, 86, 87, 88, 89, 90, 91, 92, 93] (by decide +kernel) (by decide +kernel)
set_option maxRecDepth 20000 in
theorem gX0_hear_X0_judgeOn : GoodIn wsX0_hear (wsV RX0 143 RX0 yX0_judgeOn wsX0_judgeOn) := goodIn_app (goodIn_of _ (by decide +kernel)) ggX0_hear_X0_judgeOn
set_option maxRecDepth 20000 in
theorem ggX0_hear_X0_isContent : GoodIn wsX0_hear wsX0_isContent := goodIn_r _ [22, 23, 24, 25, 26, 27, 28, 29, 30, 31, 32, 33, 34, 35, 36, 37, 38, 39, 40, 41, 42, 43, 44, 45, 46, 47, 48, 49, 15, 50, 51, 52, 53, 54, 55, 56, 57, 58, 59, 60, 61, 62, 63, 64, 65, 66, 67, 68, 69, 70, 71, 72, 73, 3, 4, 5, 6, 8, 9, 10, 82, 83, 84, 85, 86, 87, 88, 89, 90, 91, 92, 93, 78, 79, 80, 81, 94, 95, 96] (by decide +kernel) (by decide +kernel)
set_option maxRecDepth 20000 in
theorem gX0_hear_X0_isContent : GoodIn wsX0_hear (wsV RX0 139 RX0 yX0_isContent wsX0_isContent) := goodIn_app (goodIn_of _ (by decide +kernel)) ggX0_hear_X0_isContent
theorem dX0_hear_0 : decode cX0_hear 0 = .ok (.aload_n 0, 1) := by decide +kernel
theorem dX0_hear_1 : decode cX0_hear 1 = .ok (.aload_n 1, 1) := by decide +kernel
theorem dX0_hear_2 : decode cX0_hear 2 = .ok (.getfield 88, 3) := by decide +kernel
theorem dX0_hear_5 : decode cX0_hear 5 = .ok (.invokevirtual 143, 3) := by decide +kernel
theorem dX0_hear_8 : decode cX0_hear 8 = .ok (.astore_n 3, 1) := by decide +kernel
theorem dX0_hear_9 : decode cX0_hear 9 = .ok (.aload_n 3, 1) := by decide +kernel
theorem dX0_hear_10 : decode cX0_hear 10 = .ok (.ifnull 16, 3) := by decide +kernel
theorem dX0_hear_13 : decode cX0_hear 13 = .ok (.aload_n 0, 1) := by decide +kernel
theorem dX0_hear_14 : decode cX0_hear 14 = .ok (.aload_n 3, 1) := by decide +kernel
theorem dX0_hear_15 : decode cX0_hear 15 = .ok (.iload_n 2, 1) := by decide +kernel
theorem dX0_hear_16 : decode cX0_hear 16 = .ok (.invokevirtual 139, 3) := by decide +kernel
theorem dX0_hear_19 : decode cX0_hear 19 = .ok (.ifCond .eq 7, 3) := by decide +kernel
theorem dX0_hear_22 : decode cX0_hear 22 = .ok (.iconst 1, 1) := by decide +kernel
theorem dX0_hear_23 : decode cX0_hear 23 = .ok (.goto 4, 3) := by decide +kernel
theorem dX0_hear_26 : decode cX0_hear 26 = .ok (.iconst 0, 1) := by decide +kernel
theorem dX0_hear_27 : decode cX0_hear 27 = .ok (.istore 4, 2) := by decide +kernel
theorem dX0_hear_29 : decode cX0_hear 29 = .ok (.aload_n 3, 1) := by decide +kernel
theorem dX0_hear_30 : decode cX0_hear 30 = .ok (.ifnull 19, 3) := by decide +kernel
theorem dX0_hear_33 : decode cX0_hear 33 = .ok (.aload_n 3, 1) := by decide +kernel
theorem dX0_hear_34 : decode cX0_hear 34 = .ok (.sipush 9999, 3) := by decide +kernel
theorem dX0_hear_37 : decode cX0_hear 37 = .ok (.aload_n 3, 1) := by decide +kernel
theorem dX0_hear_38 : decode cX0_hear 38 = .ok (.getfield 85, 3) := by decide +kernel
theorem dX0_hear_41 : decode cX0_hear 41 = .ok (.iconst 1, 1) := by decide +kernel
theorem dX0_hear_42 : decode cX0_hear 42 = .ok (.iadd, 1) := by decide +kernel
theorem dX0_hear_43 : decode cX0_hear 43 = .ok (.invokestatic 116, 3) := by decide +kernel
theorem dX0_hear_46 : decode cX0_hear 46 = .ok (.putfield 85, 3) := by decide +kernel
theorem dX0_hear_49 : decode cX0_hear 49 = .ok (.aload_n 1, 1) := by decide +kernel
theorem dX0_hear_50 : decode cX0_hear 50 = .ok (.dup, 1) := by decide +kernel
theorem dX0_hear_51 : decode cX0_hear 51 = .ok (.getfield 91, 3) := by decide +kernel
theorem dX0_hear_54 : decode cX0_hear 54 = .ok (.iconst 1, 1) := by decide +kernel
theorem dX0_hear_55 : decode cX0_hear 55 = .ok (.isub, 1) := by decide +kernel
theorem dX0_hear_56 : decode cX0_hear 56 = .ok (.putfield 91, 3) := by decide +kernel
theorem dX0_hear_59 : decode cX0_hear 59 = .ok (.iload 4, 2) := by decide +kernel
theorem dX0_hear_61 : decode cX0_hear 61 = .ok (.ifCond .eq 16, 3) := by decide +kernel
theorem dX0_hear_64 : decode cX0_hear 64 = .ok (.aload_n 1, 1) := by decide +kernel
theorem dX0_hear_65 : decode cX0_hear 65 = .ok (.dup, 1) := by decide +kernel
theorem dX0_hear_66 : decode cX0_hear 66 = .ok (.getfield 88, 3) := by decide +kernel
theorem dX0_hear_69 : decode cX0_hear 69 = .ok (.iconst 1, 1) := by decide +kernel
theorem dX0_hear_70 : decode cX0_hear 70 = .ok (.iadd, 1) := by decide +kernel
theorem dX0_hear_71 : decode cX0_hear 71 = .ok (.putfield 88, 3) := by decide +kernel
theorem dX0_hear_74 : decode cX0_hear 74 = .ok (.goto 33, 3) := by decide +kernel
theorem dX0_hear_77 : decode cX0_hear 77 = .ok (.aload_n 1, 1) := by decide +kernel
theorem dX0_hear_78 : decode cX0_hear 78 = .ok (.iconst 0, 1) := by decide +kernel
theorem dX0_hear_79 : decode cX0_hear 79 = .ok (.aload_n 1, 1) := by decide +kernel
theorem dX0_hear_80 : decode cX0_hear 80 = .ok (.getfield 88, 3) := by decide +kernel
theorem dX0_hear_83 : decode cX0_hear 83 = .ok (.iconst 2, 1) := by decide +kernel
theorem dX0_hear_84 : decode cX0_hear 84 = .ok (.isub, 1) := by decide +kernel
theorem dX0_hear_85 : decode cX0_hear 85 = .ok (.invokestatic 121, 3) := by decide +kernel
theorem dX0_hear_88 : decode cX0_hear 88 = .ok (.putfield 88, 3) := by decide +kernel
theorem dX0_hear_91 : decode cX0_hear 91 = .ok (.aload_n 1, 1) := by decide +kernel
theorem dX0_hear_92 : decode cX0_hear 92 = .ok (.sipush 9999, 3) := by decide +kernel
theorem dX0_hear_95 : decode cX0_hear 95 = .ok (.aload_n 1, 1) := by decide +kernel
theorem dX0_hear_96 : decode cX0_hear 96 = .ok (.getfield 97, 3) := by decide +kernel
theorem dX0_hear_99 : decode cX0_hear 99 = .ok (.iconst 1, 1) := by decide +kernel
theorem dX0_hear_100 : decode cX0_hear 100 = .ok (.iadd, 1) := by decide +kernel
theorem dX0_hear_101 : decode cX0_hear 101 = .ok (.invokestatic 116, 3) := by decide +kernel
theorem dX0_hear_104 : decode cX0_hear 104 = .ok (.putfield 97, 3) := by decide +kernel
theorem dX0_hear_107 : decode cX0_hear 107 = .ok (.iload 4, 2) := by decide +kernel
theorem dX0_hear_109 : decode cX0_hear 109 = .ok (.ireturn, 1) := by decide +kernel
theorem dX0_passHour_0 : decode cX0_passHour 0 = .ok (.iconst 0, 1) := by decide +kernel
theorem dX0_passHour_1 : decode cX0_passHour 1 = .ok (.istore_n 1, 1) := by decide +kernel
theorem dX0_passHour_2 : decode cX0_passHour 2 = .ok (.iload_n 1, 1) := by decide +kernel
theorem dX0_passHour_3 : decode cX0_passHour 3 = .ok (.aload_n 0, 1) := by decide +kernel
theorem dX0_passHour_4 : decode cX0_passHour 4 = .ok (.getfield 27, 3) := by decide +kernel
theorem dX0_passHour_7 : decode cX0_passHour 7 = .ok (.if_icmp .ge 50, 3) := by decide +kernel
theorem dX0_passHour_10 : decode cX0_passHour 10 = .ok (.iload_n 1, 1) := by decide +kernel
theorem dX0_passHour_11 : decode cX0_passHour 11 = .ok (.aload_n 0, 1) := by decide +kernel
theorem dX0_passHour_12 : decode cX0_passHour 12 = .ok (.getfield 23, 3) := by decide +kernel
theorem dX0_passHour_15 : decode cX0_passHour 15 = .ok (.arraylength, 1) := by decide +kernel
theorem dX0_passHour_16 : decode cX0_passHour 16 = .ok (.if_icmp .ge 41, 3) := by decide +kernel
theorem dX0_passHour_19 : decode cX0_passHour 19 = .ok (.aload_n 0, 1) := by decide +kernel
theorem dX0_passHour_20 : decode cX0_passHour 20 = .ok (.getfield 23, 3) := by decide +kernel
theorem dX0_passHour_23 : decode cX0_passHour 23 = .ok (.iload_n 1, 1) := by decide +kernel
theorem dX0_passHour_24 : decode cX0_passHour 24 = .ok (.aaload, 1) := by decide +kernel
theorem dX0_passHour_25 : decode cX0_passHour 25 = .ok (.astore_n 2, 1) := by decide +kernel
theorem dX0_passHour_26 : decode cX0_passHour 26 = .ok (.aload_n 2, 1) := by decide +kernel
theorem dX0_passHour_27 : decode cX0_passHour 27 = .ok (.getfield 88, 3) := by decide +kernel
theorem dX0_passHour_30 : decode cX0_passHour 30 = .ok (.iconst 5, 1) := by decide +kernel
theorem dX0_passHour_31 : decode cX0_passHour 31 = .ok (.irem, 1) := by decide +kernel
theorem dX0_passHour_32 : decode cX0_passHour 32 = .ok (.ifCond .ne 19, 3) := by decide +kernel
theorem dX0_passHour_35 : decode cX0_passHour 35 = .ok (.aload_n 2, 1) := by decide +kernel
theorem dX0_passHour_36 : decode cX0_passHour 36 = .ok (.sipush 999, 3) := by decide +kernel
theorem dX0_passHour_39 : decode cX0_passHour 39 = .ok (.aload_n 2, 1) := by decide +kernel
theorem dX0_passHour_40 : decode cX0_passHour 40 = .ok (.getfield 91, 3) := by decide +kernel
theorem dX0_passHour_43 : decode cX0_passHour 43 = .ok (.iconst 1, 1) := by decide +kernel
theorem dX0_passHour_44 : decode cX0_passHour 44 = .ok (.iadd, 1) := by decide +kernel
theorem dX0_passHour_45 : decode cX0_passHour 45 = .ok (.invokestatic 116, 3) := by decide +kernel
theorem dX0_passHour_48 : decode cX0_passHour 48 = .ok (.putfield 91, 3) := by decide +kernel
theorem dX0_passHour_51 : decode cX0_passHour 51 = .ok (.iinc 1 1, 3) := by decide +kernel
theorem dX0_passHour_54 : decode cX0_passHour 54 = .ok (.goto (-52), 3) := by decide +kernel
theorem dX0_passHour_57 : decode cX0_passHour 57 = .ok (.aload_n 0, 1) := by decide +kernel
theorem dX0_passHour_58 : decode cX0_passHour 58 = .ok (.dup, 1) := by decide +kernel
theorem dX0_passHour_59 : decode cX0_passHour 59 = .ok (.getfield 53, 3) := by decide +kernel
theorem dX0_passHour_62 : decode cX0_passHour 62 = .ok (.iconst 1, 1) := by decide +kernel
theorem dX0_passHour_63 : decode cX0_passHour 63 = .ok (.iadd, 1) := by decide +kernel
theorem dX0_passHour_64 : decode cX0_passHour 64 = .ok (.putfield 53, 3) := by decide +kernel
theorem dX0_passHour_67 : decode cX0_passHour 67 = .ok (.return_, 1) := by decide +kernel
set_option maxRecDepth 20000 in
theorem ggX0_passHourByDraws_X0_canGo : GoodIn wsX0_passHourByDraws wsX0_canGo := goodIn_r _ [7, 8, 9, 10, 11, 6, 12, 13, 14, 110, 111, 112, 113, 98, 99, 100, 101, 102, 103, 104, 105, 106, 107, 108, 109] (by decide +kernel) (by decide +kernel)
set_option maxRecDepth 20000 in
theorem gX0_passHourByDraws_X0_canGo : GoodIn wsX0_passHourByDraws (wsV RX0 147 RX0 yX0_canGo wsX0_canGo) := goodIn_app (goodIn_of _ (by decide +kernel)) ggX0_passHourByDraws_X0_canGo
set_option maxRecDepth 20000 in
theorem ggX0_passHourByDraws_X0_draw : GoodIn wsX0_passHourByDraws wsX0_draw := goodIn_r _ [18, 19, 20, 98, 99, 100, 101, 102, 103, 104, 105, 106, 107, 108, 109] (by decide +kernel) (by decide +kernel)
set_option maxRecDepth 20000 in
theorem gX0_passHourByDraws_X0_draw : GoodIn wsX0_passHourByDraws (wsV RX0 150 RX0 yX0_draw wsX0_draw) := goodIn_app (goodIn_of _ (by decide +kernel)) ggX0_passHourByDraws_X0_draw
set_option maxRecDepth 20000 in
theorem ggX0_passHourByDraws_X0_hear : GoodIn wsX0_passHourByDraws wsX0_hear := goodIn_r _ [24, 13, 25, 26, 27, 28, 29, 8, 30, 31, 32, 33, 34, 35, 36, 6, 37, 14, 38, 39, 40, 41, 42, 43, 44, 45, 46, 47, 48, 49, 50, 51, 52, 53, 54, 55, 56, 57, 58, 59, 60, 61, 62, 63, 64, 65, 66, 67, 68, 69, 70, 71, 72, 73, 74, 75, 76, 77, 78, 79, 80, 81, 82, 83, 84, 85, 86, 87, 88, 89, 90, 91, 92, 93, 110, 111, 112, 113, 114, 115, 116, 117, 98, 99, 100, 101, 102, 103, 104, 105, 106, 107, 108, 109, 118, 119, 120] (by decide +kernel) (by decide +kernel)
set_option maxRecDepth 20000 in
theorem gX0_passHourByDraws_X0_hear : GoodIn wsX0_passHourByDraws (wsV RX0 153 RX0 yX0_hear wsX0_hear) := goodIn_app (goodIn_of _ (by decide +kernel)) ggX0_passHourByDraws_X0_hear
set_option maxRecDepth 20000 in
theorem ggX0_passHourByDraws_X0_passHour : GoodIn wsX0_passHourByDraws wsX0_passHour := goodIn_r _ [97, 1, 2, 13, 8, 26, 27, 28, 29, 43, 98, 99, 100, 101, 102, 103, 104, 105, 106, 107, 108, 109, 110, 111, 112, 113] (by decide +kernel) (by decide +kernel)
set_option maxRecDepth 20000 in
theorem gX0_passHourByDraws_X0_passHour : GoodIn wsX0_passHourByDraws (wsV RX0 157 RX0 yX0_passHour wsX0_passHour) := goodIn_app (goodIn_of _ (by decide +kernel)) ggX0_passHourByDraws_X0_passHour
theorem dX0_passHourByDraws_0 : decode cX0_passHourByDraws 0 = .ok (.iconst 0, 1) := by decide +kernel
theorem dX0_passHourByDraws_1 : decode cX0_passHourByDraws 1 = .ok (.istore_n 1, 1) := by decide +kernel
theorem dX0_passHourByDraws_2 : decode cX0_passHourByDraws 2 = .ok (.iconst 0, 1) := by decide +kernel
theorem dX0_passHourByDraws_3 : decode cX0_passHourByDraws 3 = .ok (.istore_n 2, 1) := by decide +kernel
theorem dX0_passHourByDraws_4 : decode cX0_passHourByDraws 4 = .ok (.iload_n 2, 1) := by decide +kernel
theorem dX0_passHourByDraws_5 : decode cX0_passHourByDraws 5 = .ok (.aload_n 0, 1) := by decide +kernel
theorem dX0_passHourByDraws_6 : decode cX0_passHourByDraws 6 = .ok (.getfield 27, 3) := by decide +kernel
theorem dX0_passHourByDraws_9 : decode cX0_passHourByDraws 9 = .ok (.if_icmp .ge 51, 3) := by decide +kernel
theorem dX0_passHourByDraws_12 : decode cX0_passHourByDraws 12 = .ok (.iload_n 2, 1) := by decide +kernel
theorem dX0_passHourByDraws_13 : decode cX0_passHourByDraws 13 = .ok (.aload_n 0, 1) := by decide +kernel
theorem dX0_passHourByDraws_14 : decode cX0_passHourByDraws 14 = .ok (.getfield 23, 3) := by decide +kernel
theorem dX0_passHourByDraws_17 : decode cX0_passHourByDraws 17 = .ok (.arraylength, 1) := by decide +kernel
theorem dX0_passHourByDraws_18 : decode cX0_passHourByDraws 18 = .ok (.if_icmp .ge 42, 3) := by decide +kernel
theorem dX0_passHourByDraws_21 : decode cX0_passHourByDraws 21 = .ok (.aload_n 0, 1) := by decide +kernel
theorem dX0_passHourByDraws_22 : decode cX0_passHourByDraws 22 = .ok (.getfield 23, 3) := by decide +kernel
theorem dX0_passHourByDraws_25 : decode cX0_passHourByDraws 25 = .ok (.iload_n 2, 1) := by decide +kernel
theorem dX0_passHourByDraws_26 : decode cX0_passHourByDraws 26 = .ok (.aaload, 1) := by decide +kernel
theorem dX0_passHourByDraws_27 : decode cX0_passHourByDraws 27 = .ok (.astore_n 3, 1) := by decide +kernel
theorem dX0_passHourByDraws_28 : decode cX0_passHourByDraws 28 = .ok (.aload_n 0, 1) := by decide +kernel
theorem dX0_passHourByDraws_29 : decode cX0_passHourByDraws 29 = .ok (.aload_n 3, 1) := by decide +kernel
theorem dX0_passHourByDraws_30 : decode cX0_passHourByDraws 30 = .ok (.invokevirtual 147, 3) := by decide +kernel
theorem dX0_passHourByDraws_33 : decode cX0_passHourByDraws 33 = .ok (.ifCond .eq 21, 3) := by decide +kernel
theorem dX0_passHourByDraws_36 : decode cX0_passHourByDraws 36 = .ok (.aload_n 0, 1) := by decide +kernel
theorem dX0_passHourByDraws_37 : decode cX0_passHourByDraws 37 = .ok (.aload_n 3, 1) := by decide +kernel
theorem dX0_passHourByDraws_38 : decode cX0_passHourByDraws 38 = .ok (.aload_n 0, 1) := by decide +kernel
theorem dX0_passHourByDraws_39 : decode cX0_passHourByDraws 39 = .ok (.invokevirtual 150, 3) := by decide +kernel
theorem dX0_passHourByDraws_42 : decode cX0_passHourByDraws 42 = .ok (.bipush 100, 2) := by decide +kernel
theorem dX0_passHourByDraws_44 : decode cX0_passHourByDraws 44 = .ok (.irem, 1) := by decide +kernel
theorem dX0_passHourByDraws_45 : decode cX0_passHourByDraws 45 = .ok (.invokevirtual 153, 3) := by decide +kernel
theorem dX0_passHourByDraws_48 : decode cX0_passHourByDraws 48 = .ok (.ifCond .ne 6, 3) := by decide +kernel
theorem dX0_passHourByDraws_51 : decode cX0_passHourByDraws 51 = .ok (.iinc 1 1, 3) := by decide +kernel
theorem dX0_passHourByDraws_54 : decode cX0_passHourByDraws 54 = .ok (.iinc 2 1, 3) := by decide +kernel
theorem dX0_passHourByDraws_57 : decode cX0_passHourByDraws 57 = .ok (.goto (-53), 3) := by decide +kernel
theorem dX0_passHourByDraws_60 : decode cX0_passHourByDraws 60 = .ok (.aload_n 0, 1) := by decide +kernel
theorem dX0_passHourByDraws_61 : decode cX0_passHourByDraws 61 = .ok (.invokevirtual 157, 3) := by decide +kernel
theorem dX0_passHourByDraws_64 : decode cX0_passHourByDraws 64 = .ok (.iload_n 1, 1) := by decide +kernel
theorem dX0_passHourByDraws_65 : decode cX0_passHourByDraws 65 = .ok (.ireturn, 1) := by decide +kernel
theorem dX0_draw_0 : decode cX0_draw 0 = .ok (.aload_n 0, 1) := by decide +kernel
theorem dX0_draw_1 : decode cX0_draw 1 = .ok (.aload_n 0, 1) := by decide +kernel
theorem dX0_draw_2 : decode cX0_draw 2 = .ok (.getfield 56, 3) := by decide +kernel
theorem dX0_draw_5 : decode cX0_draw 5 = .ok (.ldc 160, 2) := by decide +kernel
theorem dX0_draw_7 : decode cX0_draw 7 = .ok (.imul, 1) := by decide +kernel
theorem dX0_draw_8 : decode cX0_draw 8 = .ok (.sipush 12345, 3) := by decide +kernel
theorem dX0_draw_11 : decode cX0_draw 11 = .ok (.iadd, 1) := by decide +kernel
theorem dX0_draw_12 : decode cX0_draw 12 = .ok (.putfield 56, 3) := by decide +kernel
theorem dX0_draw_15 : decode cX0_draw 15 = .ok (.aload_n 0, 1) := by decide +kernel
theorem dX0_draw_16 : decode cX0_draw 16 = .ok (.getfield 56, 3) := by decide +kernel
theorem dX0_draw_19 : decode cX0_draw 19 = .ok (.bipush 8, 2) := by decide +kernel
theorem dX0_draw_21 : decode cX0_draw 21 = .ok (.iushr, 1) := by decide +kernel
theorem dX0_draw_22 : decode cX0_draw 22 = .ok (.ireturn, 1) := by decide +kernel
theorem dX1_init_0 : decode cX1_init 0 = .ok (.aload_n 0, 1) := by decide +kernel
theorem dX1_init_1 : decode cX1_init 1 = .ok (.invokespecial 3, 3) := by decide +kernel
theorem dX1_init_4 : decode cX1_init 4 = .ok (.aload_n 0, 1) := by decide +kernel
theorem dX1_init_5 : decode cX1_init 5 = .ok (.bipush 100, 2) := by decide +kernel
theorem dX1_init_7 : decode cX1_init 7 = .ok (.newarray .int, 2) := by decide +kernel
theorem dX1_init_9 : decode cX1_init 9 = .ok (.putfield 9, 3) := by decide +kernel
theorem dX1_init_12 : decode cX1_init 12 = .ok (.aload_n 0, 1) := by decide +kernel
theorem dX1_init_13 : decode cX1_init 13 = .ok (.bipush 100, 2) := by decide +kernel
theorem dX1_init_15 : decode cX1_init 15 = .ok (.newarray .int, 2) := by decide +kernel
theorem dX1_init_17 : decode cX1_init 17 = .ok (.putfield 15, 3) := by decide +kernel
theorem dX1_init_20 : decode cX1_init 20 = .ok (.aload_n 0, 1) := by decide +kernel
theorem dX1_init_21 : decode cX1_init 21 = .ok (.iconst 3, 1) := by decide +kernel
theorem dX1_init_22 : decode cX1_init 22 = .ok (.newarray .int, 2) := by decide +kernel
theorem dX1_init_24 : decode cX1_init 24 = .ok (.putfield 18, 3) := by decide +kernel
theorem dX1_init_27 : decode cX1_init 27 = .ok (.aload_n 0, 1) := by decide +kernel
theorem dX1_init_28 : decode cX1_init 28 = .ok (.iconst 0, 1) := by decide +kernel
theorem dX1_init_29 : decode cX1_init 29 = .ok (.putfield 21, 3) := by decide +kernel
theorem dX1_init_32 : decode cX1_init 32 = .ok (.return_, 1) := by decide +kernel
set_option maxRecDepth 20000 in
theorem ggX1_find_J7_fill_53178 : GoodIn wsX1_find wsJ7_fill_53178 := goodIn_r _ [13] (by decide +kernel) (by decide +kernel)
set_option maxRecDepth 20000 in
theorem gX1_find_J7_fill_53178 : GoodIn wsX1_find (va_wsS RX1 25 yJ7_fill_53178 wsJ7_fill_53178) := goodIn_app (goodIn_of _ (by decide +kernel)) ggX1_find_J7_fill_53178
set_option maxRecDepth 20000 in
theorem ggX1_find_X1_contentFrom : GoodIn wsX1_find wsX1_contentFrom := goodIn_r _ [17, 7, 18, 19, 20, 21, 22, 23, 24, 25, 26, 27, 28, 29, 30, 31, 32, 33, 34, 35, 36, 37, 38, 39, 40, 41, 42, 43, 44, 45, 46, 47, 48, 49, 50, 51, 52, 53, 54, 55, 56, 57, 58, 59, 60, 61, 62, 63, 64, 65, 66, 67, 68, 69, 70, 71, 72, 73, 74, 75, 76, 77, 78, 79, 80, 81, 5, 82, 83, 4, 6, 92, 93, 94, 95, 96, 97, 98, 99, 100, 101, 102, 103, 104, 105, 106, 107, 108, 109, 110] (by decide +kernel) (by decide +kernel)
set_option maxRecDepth 20000 in
theorem gX1_find_X1_contentFrom : GoodIn wsX1_find (va_wsS RX1 42 yX1_contentFrom wsX1_contentFrom) := goodIn_app (goodIn_of _ (by decide +kernel)) ggX1_find_X1_contentFrom
set_option maxRecDepth 20000 in
theorem ggX1_find_X1_choose : GoodIn wsX1_find wsX1_choose := goodIn_r _ [87, 1, 2, 9, 8, 84, 85, 86, 16, 88, 89, 90, 91] (by decide +kernel) (by decide +kernel)
set_option maxRecDepth 20000 in
theorem gX1_find_X1_choose : GoodIn wsX1_find (wsV RX1 46 RX1 yX1_choose wsX1_choose) := goodIn_app (goodIn_of _ (by decide +kernel)) ggX1_find_X1_choose
theorem dX1_find_0 : decode cX1_find 0 = .ok (.aload_n 0, 1) := by decide +kernel
theorem dX1_find_1 : decode cX1_find 1 = .ok (.getfield 18, 3) := by decide +kernel
theorem dX1_find_4 : decode cX1_find 4 = .ok (.iconst (-1), 1) := by decide +kernel
theorem dX1_find_5 : decode cX1_find 5 = .ok (.invokestatic 25, 3) := by decide +kernel
theorem dX1_find_8 : decode cX1_find 8 = .ok (.aload_n 0, 1) := by decide +kernel
theorem dX1_find_9 : decode cX1_find 9 = .ok (.iconst 0, 1) := by decide +kernel
theorem dX1_find_10 : decode cX1_find 10 = .ok (.putfield 21, 3) := by decide +kernel
theorem dX1_find_13 : decode cX1_find 13 = .ok (.iconst 0, 1) := by decide +kernel
theorem dX1_find_14 : decode cX1_find 14 = .ok (.iload_n 2, 1) := by decide +kernel
theorem dX1_find_15 : decode cX1_find 15 = .ok (.invokestatic 31, 3) := by decide +kernel
theorem dX1_find_18 : decode cX1_find 18 = .ok (.istore_n 3, 1) := by decide +kernel
theorem dX1_find_19 : decode cX1_find 19 = .ok (.iload_n 3, 1) := by decide +kernel
theorem dX1_find_20 : decode cX1_find 20 = .ok (.aload_n 1, 1) := by decide +kernel
theorem dX1_find_21 : decode cX1_find 21 = .ok (.getfield 37, 3) := by decide +kernel
theorem dX1_find_24 : decode cX1_find 24 = .ok (.if_icmp .ge 21, 3) := by decide +kernel
theorem dX1_find_27 : decode cX1_find 27 = .ok (.aload_n 0, 1) := by decide +kernel
theorem dX1_find_28 : decode cX1_find 28 = .ok (.dup, 1) := by decide +kernel
theorem dX1_find_29 : decode cX1_find 29 = .ok (.getfield 21, 3) := by decide +kernel
theorem dX1_find_32 : decode cX1_find 32 = .ok (.iconst 1, 1) := by decide +kernel
theorem dX1_find_33 : decode cX1_find 33 = .ok (.iload_n 3, 1) := by decide +kernel
theorem dX1_find_34 : decode cX1_find 34 = .ok (.ishl, 1) := by decide +kernel
theorem dX1_find_35 : decode cX1_find 35 = .ok (.ior, 1) := by decide +kernel
theorem dX1_find_36 : decode cX1_find 36 = .ok (.putfield 21, 3) := by decide +kernel
theorem dX1_find_39 : decode cX1_find 39 = .ok (.iinc 3 1, 3) := by decide +kernel
theorem dX1_find_42 : decode cX1_find 42 = .ok (.goto (-23), 3) := by decide +kernel
theorem dX1_find_45 : decode cX1_find 45 = .ok (.iconst 0, 1) := by decide +kernel
theorem dX1_find_46 : decode cX1_find 46 = .ok (.istore_n 3, 1) := by decide +kernel
theorem dX1_find_47 : decode cX1_find 47 = .ok (.bipush 99, 2) := by decide +kernel
theorem dX1_find_49 : decode cX1_find 49 = .ok (.istore 4, 2) := by decide +kernel
theorem dX1_find_51 : decode cX1_find 51 = .ok (.iload 4, 2) := by decide +kernel
theorem dX1_find_53 : decode cX1_find 53 = .ok (.ifCond .lt 41, 3) := by decide +kernel
theorem dX1_find_56 : decode cX1_find 56 = .ok (.aload_n 0, 1) := by decide +kernel
theorem dX1_find_57 : decode cX1_find 57 = .ok (.getfield 9, 3) := by decide +kernel
theorem dX1_find_60 : decode cX1_find 60 = .ok (.iload 4, 2) := by decide +kernel
theorem dX1_find_62 : decode cX1_find 62 = .ok (.aload_n 1, 1) := by decide +kernel
theorem dX1_find_63 : decode cX1_find 63 = .ok (.iload_n 2, 1) := by decide +kernel
theorem dX1_find_64 : decode cX1_find 64 = .ok (.iload 4, 2) := by decide +kernel
theorem dX1_find_66 : decode cX1_find 66 = .ok (.invokestatic 42, 3) := by decide +kernel
theorem dX1_find_69 : decode cX1_find 69 = .ok (.iastore, 1) := by decide +kernel
theorem dX1_find_70 : decode cX1_find 70 = .ok (.iload_n 3, 1) := by decide +kernel
theorem dX1_find_71 : decode cX1_find 71 = .ok (.aload_n 0, 1) := by decide +kernel
theorem dX1_find_72 : decode cX1_find 72 = .ok (.getfield 9, 3) := by decide +kernel
theorem dX1_find_75 : decode cX1_find 75 = .ok (.iload 4, 2) := by decide +kernel
theorem dX1_find_77 : decode cX1_find 77 = .ok (.iaload, 1) := by decide +kernel
theorem dX1_find_78 : decode cX1_find 78 = .ok (.ior, 1) := by decide +kernel
theorem dX1_find_79 : decode cX1_find 79 = .ok (.istore_n 3, 1) := by decide +kernel
theorem dX1_find_80 : decode cX1_find 80 = .ok (.aload_n 0, 1) := by decide +kernel
theorem dX1_find_81 : decode cX1_find 81 = .ok (.getfield 15, 3) := by decide +kernel
theorem dX1_find_84 : decode cX1_find 84 = .ok (.iload 4, 2) := by decide +kernel
theorem dX1_find_86 : decode cX1_find 86 = .ok (.iload_n 3, 1) := by decide +kernel
theorem dX1_find_87 : decode cX1_find 87 = .ok (.iastore, 1) := by decide +kernel
theorem dX1_find_88 : decode cX1_find 88 = .ok (.iinc 4 (-1), 3) := by decide +kernel
theorem dX1_find_91 : decode cX1_find 91 = .ok (.goto (-40), 3) := by decide +kernel
theorem dX1_find_94 : decode cX1_find 94 = .ok (.iconst 0, 1) := by decide +kernel
theorem dX1_find_95 : decode cX1_find 95 = .ok (.istore 4, 2) := by decide +kernel
theorem dX1_find_97 : decode cX1_find 97 = .ok (.iload 4, 2) := by decide +kernel
theorem dX1_find_99 : decode cX1_find 99 = .ok (.iconst 3, 1) := by decide +kernel
theorem dX1_find_100 : decode cX1_find 100 = .ok (.if_icmp .gt 24, 3) := by decide +kernel
theorem dX1_find_103 : decode cX1_find 103 = .ok (.aload_n 0, 1) := by decide +kernel
theorem dX1_find_104 : decode cX1_find 104 = .ok (.iconst 0, 1) := by decide +kernel
theorem dX1_find_105 : decode cX1_find 105 = .ok (.iload 4, 2) := by decide +kernel
theorem dX1_find_107 : decode cX1_find 107 = .ok (.iconst 0, 1) := by decide +kernel
theorem dX1_find_108 : decode cX1_find 108 = .ok (.iconst 0, 1) := by decide +kernel
theorem dX1_find_109 : decode cX1_find 109 = .ok (.invokevirtual 46, 3) := by decide +kernel
theorem dX1_find_112 : decode cX1_find 112 = .ok (.ifCond .eq 6, 3) := by decide +kernel
theorem dX1_find_115 : decode cX1_find 115 = .ok (.iload 4, 2) := by decide +kernel
theorem dX1_find_117 : decode cX1_find 117 = .ok (.ireturn, 1) := by decide +kernel
theorem dX1_find_118 : decode cX1_find 118 = .ok (.iinc 4 1, 3) := by decide +kernel
theorem dX1_find_121 : decode cX1_find 121 = .ok (.goto (-24), 3) := by decide +kernel
theorem dX1_find_124 : decode cX1_find 124 = .ok (.iconst (-1), 1) := by decide +kernel
theorem dX1_find_125 : decode cX1_find 125 = .ok (.ireturn, 1) := by decide +kernel
theorem dX1_wordAt_0 : decode cX1_wordAt 0 = .ok (.iload_n 1, 1) := by decide +kernel
theorem dX1_wordAt_1 : decode cX1_wordAt 1 = .ok (.ifCond .lt 21, 3) := by decide +kernel
theorem dX1_wordAt_4 : decode cX1_wordAt 4 = .ok (.iload_n 1, 1) := by decide +kernel
theorem dX1_wordAt_5 : decode cX1_wordAt 5 = .ok (.aload_n 0, 1) := by decide +kernel
theorem dX1_wordAt_6 : decode cX1_wordAt 6 = .ok (.getfield 18, 3) := by decide +kernel
theorem dX1_wordAt_9 : decode cX1_wordAt 9 = .ok (.arraylength, 1) := by decide +kernel
theorem dX1_wordAt_10 : decode cX1_wordAt 10 = .ok (.if_icmp .ge 12, 3) := by decide +kernel
theorem dX1_wordAt_13 : decode cX1_wordAt 13 = .ok (.aload_n 0, 1) := by decide +kernel
theorem dX1_wordAt_14 : decode cX1_wordAt 14 = .ok (.getfield 18, 3) := by decide +kernel
theorem dX1_wordAt_17 : decode cX1_wordAt 17 = .ok (.iload_n 1, 1) := by decide +kernel
theorem dX1_wordAt_18 : decode cX1_wordAt 18 = .ok (.iaload, 1) := by decide +kernel
theorem dX1_wordAt_19 : decode cX1_wordAt 19 = .ok (.goto 4, 3) := by decide +kernel
theorem dX1_wordAt_22 : decode cX1_wordAt 22 = .ok (.iconst (-1), 1) := by decide +kernel
theorem dX1_wordAt_23 : decode cX1_wordAt 23 = .ok (.ireturn, 1) := by decide +kernel
set_option maxRecDepth 20000 in
theorem ggX1_contentFrom_X0_judgeOn : GoodIn wsX1_contentFrom wsX0_judgeOn := goodIn_r _ [6, 7, 8, 71, 72, 73, 74, 75, 76, 77, 78, 79, 80, 81, 82] (by decide +kernel) (by decide +kernel)
set_option maxRecDepth 20000 in
theorem gX1_contentFrom_X0_judgeOn : GoodIn wsX1_contentFrom (wsV RX1 50 RX0 yX0_judgeOn wsX0_judgeOn) := goodIn_app (goodIn_of _ (by decide +kernel)) ggX1_contentFrom_X0_judgeOn
set_option maxRecDepth 20000 in
theorem ggX1_contentFrom_X0_isContent : GoodIn wsX1_contentFrom wsX0_isContent := goodIn_r _ [12, 13, 14, 15, 16, 17, 18, 19, 20, 21, 22, 23, 24, 25, 26, 27, 28, 29, 30, 31, 32, 33, 34, 35, 36, 37, 38, 39, 5, 40, 41, 42, 43, 44, 45, 46, 47, 48, 49, 50, 51, 52, 53, 54, 55, 56, 57, 58, 59, 60, 61, 62, 63, 64, 65, 66, 67, 68, 69, 70, 71, 72, 73, 74, 75, 76, 77, 78, 79, 80, 81, 82, 83, 84, 85, 86, 87, 88, 89] (by decide +kernel) (by decide +kernel)
set_option maxRecDepth 20000 in
theorem gX1_contentFrom_X0_isContent : GoodIn wsX1_contentFrom (wsV RX1 54 RX0 yX0_isContent wsX0_isContent) := goodIn_app (goodIn_of _ (by decide +kernel)) ggX1_contentFrom_X0_isContent
theorem dX1_contentFrom_0 : decode cX1_contentFrom 0 = .ok (.iconst 0, 1) := by decide +kernel
theorem dX1_contentFrom_1 : decode cX1_contentFrom 1 = .ok (.istore_n 3, 1) := by decide +kernel
theorem dX1_contentFrom_2 : decode cX1_contentFrom 2 = .ok (.iload_n 1, 1) := by decide +kernel
theorem dX1_contentFrom_3 : decode cX1_contentFrom 3 = .ok (.istore 4, 2) := by decide +kernel
theorem dX1_contentFrom_5 : decode cX1_contentFrom 5 = .ok (.iload 4, 2) := by decide +kernel
theorem dX1_contentFrom_7 : decode cX1_contentFrom 7 = .ok (.aload_n 0, 1) := by decide +kernel
theorem dX1_contentFrom_8 : decode cX1_contentFrom 8 = .ok (.getfield 37, 3) := by decide +kernel
theorem dX1_contentFrom_11 : decode cX1_contentFrom 11 = .ok (.if_icmp .ge 39, 3) := by decide +kernel
theorem dX1_contentFrom_14 : decode cX1_contentFrom 14 = .ok (.aload_n 0, 1) := by decide +kernel
theorem dX1_contentFrom_15 : decode cX1_contentFrom 15 = .ok (.iload 4, 2) := by decide +kernel
theorem dX1_contentFrom_17 : decode cX1_contentFrom 17 = .ok (.invokevirtual 50, 3) := by decide +kernel
theorem dX1_contentFrom_20 : decode cX1_contentFrom 20 = .ok (.astore 5, 2) := by decide +kernel
theorem dX1_contentFrom_22 : decode cX1_contentFrom 22 = .ok (.aload 5, 2) := by decide +kernel
theorem dX1_contentFrom_24 : decode cX1_contentFrom 24 = .ok (.ifnull 20, 3) := by decide +kernel
theorem dX1_contentFrom_27 : decode cX1_contentFrom 27 = .ok (.aload_n 0, 1) := by decide +kernel
theorem dX1_contentFrom_28 : decode cX1_contentFrom 28 = .ok (.aload 5, 2) := by decide +kernel
theorem dX1_contentFrom_30 : decode cX1_contentFrom 30 = .ok (.iload_n 2, 1) := by decide +kernel
theorem dX1_contentFrom_31 : decode cX1_contentFrom 31 = .ok (.invokevirtual 54, 3) := by decide +kernel
theorem dX1_contentFrom_34 : decode cX1_contentFrom 34 = .ok (.ifCond .eq 10, 3) := by decide +kernel
theorem dX1_contentFrom_37 : decode cX1_contentFrom 37 = .ok (.iload_n 3, 1) := by decide +kernel
theorem dX1_contentFrom_38 : decode cX1_contentFrom 38 = .ok (.iconst 1, 1) := by decide +kernel
theorem dX1_contentFrom_39 : decode cX1_contentFrom 39 = .ok (.iload 4, 2) := by decide +kernel
theorem dX1_contentFrom_41 : decode cX1_contentFrom 41 = .ok (.ishl, 1) := by decide +kernel
theorem dX1_contentFrom_42 : decode cX1_contentFrom 42 = .ok (.ior, 1) := by decide +kernel
theorem dX1_contentFrom_43 : decode cX1_contentFrom 43 = .ok (.istore_n 3, 1) := by decide +kernel
theorem dX1_contentFrom_44 : decode cX1_contentFrom 44 = .ok (.iinc 4 1, 3) := by decide +kernel
theorem dX1_contentFrom_47 : decode cX1_contentFrom 47 = .ok (.goto (-42), 3) := by decide +kernel
theorem dX1_contentFrom_50 : decode cX1_contentFrom 50 = .ok (.iload_n 3, 1) := by decide +kernel
theorem dX1_contentFrom_51 : decode cX1_contentFrom 51 = .ok (.ireturn, 1) := by decide +kernel
set_option maxRecDepth 20000 in
theorem ggX1_choose_X1_choose : GoodIn wsX1_choose wsX1_choose := goodIn_r _ [0, 1, 2, 3, 4, 5, 6, 7, 8, 9, 10, 11, 12] (by decide +kernel) (by decide +kernel)
set_option maxRecDepth 20000 in
theorem gX1_choose_X1_choose : GoodIn wsX1_choose (wsV RX1 46 RX1 yX1_choose wsX1_choose) := goodIn_app (goodIn_of _ (by decide +kernel)) ggX1_choose_X1_choose
theorem dX1_choose_0 : decode cX1_choose 0 = .ok (.iload_n 1, 1) := by decide +kernel
theorem dX1_choose_1 : decode cX1_choose 1 = .ok (.iload_n 2, 1) := by decide +kernel
theorem dX1_choose_2 : decode cX1_choose 2 = .ok (.if_icmp .ge 12, 3) := by decide +kernel
theorem dX1_choose_5 : decode cX1_choose 5 = .ok (.iload_n 1, 1) := by decide +kernel
theorem dX1_choose_6 : decode cX1_choose 6 = .ok (.aload_n 0, 1) := by decide +kernel
theorem dX1_choose_7 : decode cX1_choose 7 = .ok (.getfield 18, 3) := by decide +kernel
theorem dX1_choose_10 : decode cX1_choose 10 = .ok (.arraylength, 1) := by decide +kernel
theorem dX1_choose_11 : decode cX1_choose 11 = .ok (.if_icmp .lt 18, 3) := by decide +kernel
theorem dX1_choose_14 : decode cX1_choose 14 = .ok (.iload 4, 2) := by decide +kernel
theorem dX1_choose_16 : decode cX1_choose 16 = .ok (.aload_n 0, 1) := by decide +kernel
theorem dX1_choose_17 : decode cX1_choose 17 = .ok (.getfield 21, 3) := by decide +kernel
theorem dX1_choose_20 : decode cX1_choose 20 = .ok (.if_icmp .ne 7, 3) := by decide +kernel
theorem dX1_choose_23 : decode cX1_choose 23 = .ok (.iconst 1, 1) := by decide +kernel
theorem dX1_choose_24 : decode cX1_choose 24 = .ok (.goto 4, 3) := by decide +kernel
theorem dX1_choose_27 : decode cX1_choose 27 = .ok (.iconst 0, 1) := by decide +kernel
theorem dX1_choose_28 : decode cX1_choose 28 = .ok (.ireturn, 1) := by decide +kernel
theorem dX1_choose_29 : decode cX1_choose 29 = .ok (.iload_n 3, 1) := by decide +kernel
theorem dX1_choose_30 : decode cX1_choose 30 = .ok (.istore 5, 2) := by decide +kernel
theorem dX1_choose_32 : decode cX1_choose 32 = .ok (.iload 5, 2) := by decide +kernel
theorem dX1_choose_34 : decode cX1_choose 34 = .ok (.bipush 100, 2) := by decide +kernel
theorem dX1_choose_36 : decode cX1_choose 36 = .ok (.if_icmp .ge 72, 3) := by decide +kernel
theorem dX1_choose_39 : decode cX1_choose 39 = .ok (.iload 4, 2) := by decide +kernel
theorem dX1_choose_41 : decode cX1_choose 41 = .ok (.aload_n 0, 1) := by decide +kernel
theorem dX1_choose_42 : decode cX1_choose 42 = .ok (.getfield 15, 3) := by decide +kernel
theorem dX1_choose_45 : decode cX1_choose 45 = .ok (.iload 5, 2) := by decide +kernel
theorem dX1_choose_47 : decode cX1_choose 47 = .ok (.iaload, 1) := by decide +kernel
theorem dX1_choose_48 : decode cX1_choose 48 = .ok (.ior, 1) := by decide +kernel
theorem dX1_choose_49 : decode cX1_choose 49 = .ok (.aload_n 0, 1) := by decide +kernel
theorem dX1_choose_50 : decode cX1_choose 50 = .ok (.getfield 21, 3) := by decide +kernel
theorem dX1_choose_53 : decode cX1_choose 53 = .ok (.if_icmp .ne 55, 3) := by decide +kernel
theorem dX1_choose_56 : decode cX1_choose 56 = .ok (.iload 4, 2) := by decide +kernel
theorem dX1_choose_58 : decode cX1_choose 58 = .ok (.aload_n 0, 1) := by decide +kernel
theorem dX1_choose_59 : decode cX1_choose 59 = .ok (.getfield 9, 3) := by decide +kernel
theorem dX1_choose_62 : decode cX1_choose 62 = .ok (.iload 5, 2) := by decide +kernel
theorem dX1_choose_64 : decode cX1_choose 64 = .ok (.iaload, 1) := by decide +kernel
theorem dX1_choose_65 : decode cX1_choose 65 = .ok (.ior, 1) := by decide +kernel
theorem dX1_choose_66 : decode cX1_choose 66 = .ok (.istore 6, 2) := by decide +kernel
theorem dX1_choose_68 : decode cX1_choose 68 = .ok (.iload 6, 2) := by decide +kernel
theorem dX1_choose_70 : decode cX1_choose 70 = .ok (.iload 4, 2) := by decide +kernel
theorem dX1_choose_72 : decode cX1_choose 72 = .ok (.if_icmp .eq 30, 3) := by decide +kernel
theorem dX1_choose_75 : decode cX1_choose 75 = .ok (.aload_n 0, 1) := by decide +kernel
theorem dX1_choose_76 : decode cX1_choose 76 = .ok (.getfield 18, 3) := by decide +kernel
theorem dX1_choose_79 : decode cX1_choose 79 = .ok (.iload_n 1, 1) := by decide +kernel
theorem dX1_choose_80 : decode cX1_choose 80 = .ok (.iload 5, 2) := by decide +kernel
theorem dX1_choose_82 : decode cX1_choose 82 = .ok (.iastore, 1) := by decide +kernel
theorem dX1_choose_83 : decode cX1_choose 83 = .ok (.aload_n 0, 1) := by decide +kernel
theorem dX1_choose_84 : decode cX1_choose 84 = .ok (.iload_n 1, 1) := by decide +kernel
theorem dX1_choose_85 : decode cX1_choose 85 = .ok (.iconst 1, 1) := by decide +kernel
theorem dX1_choose_86 : decode cX1_choose 86 = .ok (.iadd, 1) := by decide +kernel
theorem dX1_choose_87 : decode cX1_choose 87 = .ok (.iload_n 2, 1) := by decide +kernel
theorem dX1_choose_88 : decode cX1_choose 88 = .ok (.iload 5, 2) := by decide +kernel
theorem dX1_choose_90 : decode cX1_choose 90 = .ok (.iconst 1, 1) := by decide +kernel
theorem dX1_choose_91 : decode cX1_choose 91 = .ok (.iadd, 1) := by decide +kernel
theorem dX1_choose_92 : decode cX1_choose 92 = .ok (.iload 6, 2) := by decide +kernel
theorem dX1_choose_94 : decode cX1_choose 94 = .ok (.invokevirtual 46, 3) := by decide +kernel
theorem dX1_choose_97 : decode cX1_choose 97 = .ok (.ifCond .eq 5, 3) := by decide +kernel
theorem dX1_choose_100 : decode cX1_choose 100 = .ok (.iconst 1, 1) := by decide +kernel
theorem dX1_choose_101 : decode cX1_choose 101 = .ok (.ireturn, 1) := by decide +kernel
theorem dX1_choose_102 : decode cX1_choose 102 = .ok (.iinc 5 1, 3) := by decide +kernel
theorem dX1_choose_105 : decode cX1_choose 105 = .ok (.goto (-73), 3) := by decide +kernel
theorem dX1_choose_108 : decode cX1_choose 108 = .ok (.iconst 0, 1) := by decide +kernel
theorem dX1_choose_109 : decode cX1_choose 109 = .ok (.ireturn, 1) := by decide +kernel
theorem dX2_init_0 : decode cX2_init 0 = .ok (.aload_n 0, 1) := by decide +kernel
theorem dX2_init_1 : decode cX2_init 1 = .ok (.invokespecial 3, 3) := by decide +kernel
theorem dX2_init_4 : decode cX2_init 4 = .ok (.aload_n 0, 1) := by decide +kernel
theorem dX2_init_5 : decode cX2_init 5 = .ok (.iconst 0, 1) := by decide +kernel
theorem dX2_init_6 : decode cX2_init 6 = .ok (.putfield 9, 3) := by decide +kernel
theorem dX2_init_9 : decode cX2_init 9 = .ok (.aload_n 0, 1) := by decide +kernel
theorem dX2_init_10 : decode cX2_init 10 = .ok (.iconst 0, 1) := by decide +kernel
theorem dX2_init_11 : decode cX2_init 11 = .ok (.putfield 15, 3) := by decide +kernel
theorem dX2_init_14 : decode cX2_init 14 = .ok (.aload_n 0, 1) := by decide +kernel
theorem dX2_init_15 : decode cX2_init 15 = .ok (.iconst 0, 1) := by decide +kernel
theorem dX2_init_16 : decode cX2_init 16 = .ok (.putfield 18, 3) := by decide +kernel
theorem dX2_init_19 : decode cX2_init 19 = .ok (.aload_n 0, 1) := by decide +kernel
theorem dX2_init_20 : decode cX2_init 20 = .ok (.iload_n 1, 1) := by decide +kernel
theorem dX2_init_21 : decode cX2_init 21 = .ok (.putfield 21, 3) := by decide +kernel
theorem dX2_init_24 : decode cX2_init 24 = .ok (.return_, 1) := by decide +kernel
theorem dX2_copyFrom_0 : decode cX2_copyFrom 0 = .ok (.aload_n 0, 1) := by decide +kernel
theorem dX2_copyFrom_1 : decode cX2_copyFrom 1 = .ok (.aload_n 1, 1) := by decide +kernel
theorem dX2_copyFrom_2 : decode cX2_copyFrom 2 = .ok (.getfield 9, 3) := by decide +kernel
theorem dX2_copyFrom_5 : decode cX2_copyFrom 5 = .ok (.putfield 9, 3) := by decide +kernel
theorem dX2_copyFrom_8 : decode cX2_copyFrom 8 = .ok (.aload_n 0, 1) := by decide +kernel
theorem dX2_copyFrom_9 : decode cX2_copyFrom 9 = .ok (.aload_n 1, 1) := by decide +kernel
theorem dX2_copyFrom_10 : decode cX2_copyFrom 10 = .ok (.getfield 15, 3) := by decide +kernel
theorem dX2_copyFrom_13 : decode cX2_copyFrom 13 = .ok (.putfield 15, 3) := by decide +kernel
theorem dX2_copyFrom_16 : decode cX2_copyFrom 16 = .ok (.aload_n 0, 1) := by decide +kernel
theorem dX2_copyFrom_17 : decode cX2_copyFrom 17 = .ok (.aload_n 1, 1) := by decide +kernel
theorem dX2_copyFrom_18 : decode cX2_copyFrom 18 = .ok (.getfield 18, 3) := by decide +kernel
theorem dX2_copyFrom_21 : decode cX2_copyFrom 21 = .ok (.putfield 18, 3) := by decide +kernel
theorem dX2_copyFrom_24 : decode cX2_copyFrom 24 = .ok (.return_, 1) := by decide +kernel
set_option maxRecDepth 20000 in
theorem ggX2_nods_X2_nodsStrictly : GoodIn wsX2_nods wsX2_nodsStrictly := goodIn_r _ [9, 2, 10, 11, 12, 8, 13, 18, 19, 20, 21] (by decide +kernel) (by decide +kernel)
set_option maxRecDepth 20000 in
theorem gX2_nods_X2_nodsStrictly : GoodIn wsX2_nods (wsV RX2 24 RX2 yX2_nodsStrictly wsX2_nodsStrictly) := goodIn_app (goodIn_of _ (by decide +kernel)) ggX2_nods_X2_nodsStrictly
set_option maxRecDepth 20000 in
theorem ggX2_nods_X2_nodsMildly : GoodIn wsX2_nods wsX2_nodsMildly := goodIn_r _ [17, 2, 10, 11, 12, 8, 13, 18, 19, 20, 21] (by decide +kernel) (by decide +kernel)
set_option maxRecDepth 20000 in
theorem gX2_nods_X2_nodsMildly : GoodIn wsX2_nods (wsV RX2 28 RX2 yX2_nodsMildly wsX2_nodsMildly) := goodIn_app (goodIn_of _ (by decide +kernel)) ggX2_nods_X2_nodsMildly
set_option maxRecDepth 20000 in
theorem ggX2_nods_X2_nodsPlainly : GoodIn wsX2_nods wsX2_nodsPlainly := goodIn_r _ [13, 2, 18, 19, 20, 21] (by decide +kernel) (by decide +kernel)
set_option maxRecDepth 20000 in
theorem gX2_nods_X2_nodsPlainly : GoodIn wsX2_nods (wsV RX2 31 RX2 yX2_nodsPlainly wsX2_nodsPlainly) := goodIn_app (goodIn_of _ (by decide +kernel)) ggX2_nods_X2_nodsPlainly
theorem dX2_nods_0 : decode cX2_nods 0 = .ok (.aload_n 0, 1) := by decide +kernel
theorem dX2_nods_1 : decode cX2_nods 1 = .ok (.getfield 9, 3) := by decide +kernel
theorem dX2_nods_4 : decode cX2_nods 4 = .ok (.tableswitch 140 1 6 #[40, 46, 52, 69, 92, 117], 40) := by decide +kernel
theorem dX2_nods_44 : decode cX2_nods 44 = .ok (.aload_n 0, 1) := by decide +kernel
theorem dX2_nods_45 : decode cX2_nods 45 = .ok (.iload_n 1, 1) := by decide +kernel
theorem dX2_nods_46 : decode cX2_nods 46 = .ok (.invokevirtual 24, 3) := by decide +kernel
theorem dX2_nods_49 : decode cX2_nods 49 = .ok (.ireturn, 1) := by decide +kernel
theorem dX2_nods_50 : decode cX2_nods 50 = .ok (.aload_n 0, 1) := by decide +kernel
theorem dX2_nods_51 : decode cX2_nods 51 = .ok (.iload_n 1, 1) := by decide +kernel
theorem dX2_nods_52 : decode cX2_nods 52 = .ok (.invokevirtual 28, 3) := by decide +kernel
theorem dX2_nods_55 : decode cX2_nods 55 = .ok (.ireturn, 1) := by decide +kernel
theorem dX2_nods_56 : decode cX2_nods 56 = .ok (.iload_n 1, 1) := by decide +kernel
theorem dX2_nods_57 : decode cX2_nods 57 = .ok (.bipush 7, 2) := by decide +kernel
theorem dX2_nods_59 : decode cX2_nods 59 = .ok (.aload_n 0, 1) := by decide +kernel
theorem dX2_nods_60 : decode cX2_nods 60 = .ok (.getfield 15, 3) := by decide +kernel
theorem dX2_nods_63 : decode cX2_nods 63 = .ok (.imul, 1) := by decide +kernel
theorem dX2_nods_64 : decode cX2_nods 64 = .ok (.if_icmp .ne 7, 3) := by decide +kernel
theorem dX2_nods_67 : decode cX2_nods 67 = .ok (.iconst 1, 1) := by decide +kernel
theorem dX2_nods_68 : decode cX2_nods 68 = .ok (.goto 4, 3) := by decide +kernel
theorem dX2_nods_71 : decode cX2_nods 71 = .ok (.iconst 0, 1) := by decide +kernel
theorem dX2_nods_72 : decode cX2_nods 72 = .ok (.ireturn, 1) := by decide +kernel
theorem dX2_nods_73 : decode cX2_nods 73 = .ok (.aload_n 0, 1) := by decide +kernel
theorem dX2_nods_74 : decode cX2_nods 74 = .ok (.iload_n 1, 1) := by decide +kernel
theorem dX2_nods_75 : decode cX2_nods 75 = .ok (.invokevirtual 24, 3) := by decide +kernel
theorem dX2_nods_78 : decode cX2_nods 78 = .ok (.ifCond .eq 16, 3) := by decide +kernel
theorem dX2_nods_81 : decode cX2_nods 81 = .ok (.iload_n 2, 1) := by decide +kernel
theorem dX2_nods_82 : decode cX2_nods 82 = .ok (.bipush 24, 2) := by decide +kernel
theorem dX2_nods_84 : decode cX2_nods 84 = .ok (.irem, 1) := by decide +kernel
theorem dX2_nods_85 : decode cX2_nods 85 = .ok (.bipush 12, 2) := by decide +kernel
theorem dX2_nods_87 : decode cX2_nods 87 = .ok (.if_icmp .lt 7, 3) := by decide +kernel
theorem dX2_nods_90 : decode cX2_nods 90 = .ok (.iconst 1, 1) := by decide +kernel
theorem dX2_nods_91 : decode cX2_nods 91 = .ok (.goto 4, 3) := by decide +kernel
theorem dX2_nods_94 : decode cX2_nods 94 = .ok (.iconst 0, 1) := by decide +kernel
theorem dX2_nods_95 : decode cX2_nods 95 = .ok (.ireturn, 1) := by decide +kernel
theorem dX2_nods_96 : decode cX2_nods 96 = .ok (.aload_n 0, 1) := by decide +kernel
theorem dX2_nods_97 : decode cX2_nods 97 = .ok (.iload_n 1, 1) := by decide +kernel
theorem dX2_nods_98 : decode cX2_nods 98 = .ok (.invokevirtual 28, 3) := by decide +kernel
theorem dX2_nods_101 : decode cX2_nods 101 = .ok (.ifCond .eq 18, 3) := by decide +kernel
theorem dX2_nods_104 : decode cX2_nods 104 = .ok (.iload_n 1, 1) := by decide +kernel
theorem dX2_nods_105 : decode cX2_nods 105 = .ok (.bipush 90, 2) := by decide +kernel
theorem dX2_nods_107 : decode cX2_nods 107 = .ok (.aload_n 0, 1) := by decide +kernel
theorem dX2_nods_108 : decode cX2_nods 108 = .ok (.getfield 21, 3) := by decide +kernel
theorem dX2_nods_111 : decode cX2_nods 111 = .ok (.isub, 1) := by decide +kernel
theorem dX2_nods_112 : decode cX2_nods 112 = .ok (.if_icmp .ge 7, 3) := by decide +kernel
theorem dX2_nods_115 : decode cX2_nods 115 = .ok (.iconst 1, 1) := by decide +kernel
theorem dX2_nods_116 : decode cX2_nods 116 = .ok (.goto 4, 3) := by decide +kernel
theorem dX2_nods_119 : decode cX2_nods 119 = .ok (.iconst 0, 1) := by decide +kernel
theorem dX2_nods_120 : decode cX2_nods 120 = .ok (.ireturn, 1) := by decide +kernel
theorem dX2_nods_121 : decode cX2_nods 121 = .ok (.aload_n 0, 1) := by decide +kernel
theorem dX2_nods_122 : decode cX2_nods 122 = .ok (.iload_n 1, 1) := by decide +kernel
theorem dX2_nods_123 : decode cX2_nods 123 = .ok (.invokevirtual 31, 3) := by decide +kernel
theorem dX2_nods_126 : decode cX2_nods 126 = .ok (.ifCond .eq 16, 3) := by decide +kernel
theorem dX2_nods_129 : decode cX2_nods 129 = .ok (.aload_n 0, 1) := by decide +kernel
theorem dX2_nods_130 : decode cX2_nods 130 = .ok (.getfield 18, 3) := by decide +kernel
theorem dX2_nods_133 : decode cX2_nods 133 = .ok (.iconst 2, 1) := by decide +kernel
theorem dX2_nods_134 : decode cX2_nods 134 = .ok (.irem, 1) := by decide +kernel
theorem dX2_nods_135 : decode cX2_nods 135 = .ok (.ifCond .ne 7, 3) := by decide +kernel
theorem dX2_nods_138 : decode cX2_nods 138 = .ok (.iconst 1, 1) := by decide +kernel
theorem dX2_nods_139 : decode cX2_nods 139 = .ok (.goto 4, 3) := by decide +kernel
theorem dX2_nods_142 : decode cX2_nods 142 = .ok (.iconst 0, 1) := by decide +kernel
theorem dX2_nods_143 : decode cX2_nods 143 = .ok (.ireturn, 1) := by decide +kernel
theorem dX2_nods_144 : decode cX2_nods 144 = .ok (.aload_n 0, 1) := by decide +kernel
theorem dX2_nods_145 : decode cX2_nods 145 = .ok (.iload_n 1, 1) := by decide +kernel
theorem dX2_nods_146 : decode cX2_nods 146 = .ok (.invokevirtual 31, 3) := by decide +kernel
theorem dX2_nods_149 : decode cX2_nods 149 = .ok (.ireturn, 1) := by decide +kernel
theorem dX2_nodsPlainly_0 : decode cX2_nodsPlainly 0 = .ok (.iload_n 1, 1) := by decide +kernel
theorem dX2_nodsPlainly_1 : decode cX2_nodsPlainly 1 = .ok (.iconst 5, 1) := by decide +kernel
theorem dX2_nodsPlainly_2 : decode cX2_nodsPlainly 2 = .ok (.aload_n 0, 1) := by decide +kernel
theorem dX2_nodsPlainly_3 : decode cX2_nodsPlainly 3 = .ok (.getfield 15, 3) := by decide +kernel
theorem dX2_nodsPlainly_6 : decode cX2_nodsPlainly 6 = .ok (.imul, 1) := by decide +kernel
theorem dX2_nodsPlainly_7 : decode cX2_nodsPlainly 7 = .ok (.if_icmp .lt 7, 3) := by decide +kernel
theorem dX2_nodsPlainly_10 : decode cX2_nodsPlainly 10 = .ok (.iconst 1, 1) := by decide +kernel
theorem dX2_nodsPlainly_11 : decode cX2_nodsPlainly 11 = .ok (.goto 4, 3) := by decide +kernel
theorem dX2_nodsPlainly_14 : decode cX2_nodsPlainly 14 = .ok (.iconst 0, 1) := by decide +kernel
theorem dX2_nodsPlainly_15 : decode cX2_nodsPlainly 15 = .ok (.ireturn, 1) := by decide +kernel
set_option maxRecDepth 20000 in
theorem ggX2_nodsStrictly_X2_nodsPlainly : GoodIn wsX2_nodsStrictly wsX2_nodsPlainly := goodIn_r _ [6, 1, 7, 8, 9, 10] (by decide +kernel) (by decide +kernel)
set_option maxRecDepth 20000 in
theorem gX2_nodsStrictly_X2_nodsPlainly : GoodIn wsX2_nodsStrictly (wsV RX2 31 RX2 yX2_nodsPlainly wsX2_nodsPlainly) := goodIn_app (goodIn_of _ (by decide +kernel)) ggX2_nodsStrictly_X2_nodsPlainly
theorem dX2_nodsStrictly_0 : decode cX2_nodsStrictly 0 = .ok (.aload_n 0, 1) := by decide +kernel
theorem dX2_nodsStrictly_1 : decode cX2_nodsStrictly 1 = .ok (.iload_n 1, 1) := by decide +kernel
theorem dX2_nodsStrictly_2 : decode cX2_nodsStrictly 2 = .ok (.invokevirtual 31, 3) := by decide +kernel
theorem dX2_nodsStrictly_5 : decode cX2_nodsStrictly 5 = .ok (.ifCond .eq 19, 3) := by decide +kernel
theorem dX2_nodsStrictly_8 : decode cX2_nodsStrictly 8 = .ok (.iload_n 1, 1) := by decide +kernel
theorem dX2_nodsStrictly_9 : decode cX2_nodsStrictly 9 = .ok (.iconst 3, 1) := by decide +kernel
theorem dX2_nodsStrictly_10 : decode cX2_nodsStrictly 10 = .ok (.irem, 1) := by decide +kernel
theorem dX2_nodsStrictly_11 : decode cX2_nodsStrictly 11 = .ok (.aload_n 0, 1) := by decide +kernel
theorem dX2_nodsStrictly_12 : decode cX2_nodsStrictly 12 = .ok (.getfield 15, 3) := by decide +kernel
theorem dX2_nodsStrictly_15 : decode cX2_nodsStrictly 15 = .ok (.iconst 3, 1) := by decide +kernel
theorem dX2_nodsStrictly_16 : decode cX2_nodsStrictly 16 = .ok (.irem, 1) := by decide +kernel
theorem dX2_nodsStrictly_17 : decode cX2_nodsStrictly 17 = .ok (.if_icmp .ne 7, 3) := by decide +kernel
theorem dX2_nodsStrictly_20 : decode cX2_nodsStrictly 20 = .ok (.iconst 1, 1) := by decide +kernel
theorem dX2_nodsStrictly_21 : decode cX2_nodsStrictly 21 = .ok (.goto 4, 3) := by decide +kernel
theorem dX2_nodsStrictly_24 : decode cX2_nodsStrictly 24 = .ok (.iconst 0, 1) := by decide +kernel
theorem dX2_nodsStrictly_25 : decode cX2_nodsStrictly 25 = .ok (.ireturn, 1) := by decide +kernel
set_option maxRecDepth 20000 in
theorem ggX2_nodsMildly_X2_nodsPlainly : GoodIn wsX2_nodsMildly wsX2_nodsPlainly := goodIn_r _ [6, 1, 7, 8, 9, 10] (by decide +kernel) (by decide +kernel)
set_option maxRecDepth 20000 in
theorem gX2_nodsMildly_X2_nodsPlainly : GoodIn wsX2_nodsMildly (wsV RX2 31 RX2 yX2_nodsPlainly wsX2_nodsPlainly) := goodIn_app (goodIn_of _ (by decide +kernel)) ggX2_nodsMildly_X2_nodsPlainly
theorem dX2_nodsMildly_0 : decode cX2_nodsMildly 0 = .ok (.aload_n 0, 1) := by decide +kernel
theorem dX2_nodsMildly_1 : decode cX2_nodsMildly 1 = .ok (.iload_n 1, 1) := by decide +kernel
theorem dX2_nodsMildly_2 : decode cX2_nodsMildly 2 = .ok (.invokevirtual 31, 3) := by decide +kernel
theorem dX2_nodsMildly_5 : decode cX2_nodsMildly 5 = .ok (.ifCond .ne 14, 3) := by decide +kernel
theorem dX2_nodsMildly_8 : decode cX2_nodsMildly 8 = .ok (.iload_n 1, 1) := by decide +kernel
theorem dX2_nodsMildly_9 : decode cX2_nodsMildly 9 = .ok (.bipush 10, 2) := by decide +kernel
theorem dX2_nodsMildly_11 : decode cX2_nodsMildly 11 = .ok (.irem, 1) := by decide +kernel
theorem dX2_nodsMildly_12 : decode cX2_nodsMildly 12 = .ok (.aload_n 0, 1) := by decide +kernel
theorem dX2_nodsMildly_13 : decode cX2_nodsMildly 13 = .ok (.getfield 15, 3) := by decide +kernel
theorem dX2_nodsMildly_16 : decode cX2_nodsMildly 16 = .ok (.if_icmp .ne 7, 3) := by decide +kernel
theorem dX2_nodsMildly_19 : decode cX2_nodsMildly 19 = .ok (.iconst 1, 1) := by decide +kernel
theorem dX2_nodsMildly_20 : decode cX2_nodsMildly 20 = .ok (.goto 4, 3) := by decide +kernel
theorem dX2_nodsMildly_23 : decode cX2_nodsMildly 23 = .ok (.iconst 0, 1) := by decide +kernel
theorem dX2_nodsMildly_24 : decode cX2_nodsMildly 24 = .ok (.ireturn, 1) := by decide +kernel
theorem dX2_wants_0 : decode cX2_wants 0 = .ok (.bipush 10, 2) := by decide +kernel
theorem dX2_wants_2 : decode cX2_wants 2 = .ok (.aload_n 0, 1) := by decide +kernel
theorem dX2_wants_3 : decode cX2_wants 3 = .ok (.getfield 18, 3) := by decide +kernel
theorem dX2_wants_6 : decode cX2_wants 6 = .ok (.bipush 10, 2) := by decide +kernel
theorem dX2_wants_8 : decode cX2_wants 8 = .ok (.irem, 1) := by decide +kernel
theorem dX2_wants_9 : decode cX2_wants 9 = .ok (.iadd, 1) := by decide +kernel
theorem dX2_wants_10 : decode cX2_wants 10 = .ok (.istore_n 1, 1) := by decide +kernel
theorem dX2_wants_11 : decode cX2_wants 11 = .ok (.aload_n 0, 1) := by decide +kernel
theorem dX2_wants_12 : decode cX2_wants 12 = .ok (.getfield 9, 3) := by decide +kernel
theorem dX2_wants_15 : decode cX2_wants 15 = .ok (.tableswitch 72 1 6 #[37, 44, 48, 52, 64, 70], 37) := by decide +kernel
theorem dX2_wants_52 : decode cX2_wants 52 = .ok (.iload_n 1, 1) := by decide +kernel
theorem dX2_wants_53 : decode cX2_wants 53 = .ok (.aload_n 0, 1) := by decide +kernel
theorem dX2_wants_54 : decode cX2_wants 54 = .ok (.getfield 15, 3) := by decide +kernel
theorem dX2_wants_57 : decode cX2_wants 57 = .ok (.iadd, 1) := by decide +kernel
theorem dX2_wants_58 : decode cX2_wants 58 = .ok (.ireturn, 1) := by decide +kernel
theorem dX2_wants_59 : decode cX2_wants 59 = .ok (.iload_n 1, 1) := by decide +kernel
theorem dX2_wants_60 : decode cX2_wants 60 = .ok (.iconst 2, 1) := by decide +kernel
theorem dX2_wants_61 : decode cX2_wants 61 = .ok (.idiv, 1) := by decide +kernel
theorem dX2_wants_62 : decode cX2_wants 62 = .ok (.ireturn, 1) := by decide +kernel
theorem dX2_wants_63 : decode cX2_wants 63 = .ok (.iload_n 1, 1) := by decide +kernel
theorem dX2_wants_64 : decode cX2_wants 64 = .ok (.iconst 2, 1) := by decide +kernel
theorem dX2_wants_65 : decode cX2_wants 65 = .ok (.imul, 1) := by decide +kernel
theorem dX2_wants_66 : decode cX2_wants 66 = .ok (.ireturn, 1) := by decide +kernel
theorem dX2_wants_67 : decode cX2_wants 67 = .ok (.iload_n 1, 1) := by decide +kernel
theorem dX2_wants_68 : decode cX2_wants 68 = .ok (.aload_n 0, 1) := by decide +kernel
theorem dX2_wants_69 : decode cX2_wants 69 = .ok (.getfield 15, 3) := by decide +kernel
theorem dX2_wants_72 : decode cX2_wants 72 = .ok (.iadd, 1) := by decide +kernel
theorem dX2_wants_73 : decode cX2_wants 73 = .ok (.aload_n 0, 1) := by decide +kernel
theorem dX2_wants_74 : decode cX2_wants 74 = .ok (.getfield 21, 3) := by decide +kernel
theorem dX2_wants_77 : decode cX2_wants 77 = .ok (.iadd, 1) := by decide +kernel
theorem dX2_wants_78 : decode cX2_wants 78 = .ok (.ireturn, 1) := by decide +kernel
theorem dX2_wants_79 : decode cX2_wants 79 = .ok (.iload_n 1, 1) := by decide +kernel
theorem dX2_wants_80 : decode cX2_wants 80 = .ok (.iconst 2, 1) := by decide +kernel
theorem dX2_wants_81 : decode cX2_wants 81 = .ok (.idiv, 1) := by decide +kernel
theorem dX2_wants_82 : decode cX2_wants 82 = .ok (.iconst 1, 1) := by decide +kernel
theorem dX2_wants_83 : decode cX2_wants 83 = .ok (.isub, 1) := by decide +kernel
theorem dX2_wants_84 : decode cX2_wants 84 = .ok (.ireturn, 1) := by decide +kernel
theorem dX2_wants_85 : decode cX2_wants 85 = .ok (.iconst 0, 1) := by decide +kernel
theorem dX2_wants_86 : decode cX2_wants 86 = .ok (.ireturn, 1) := by decide +kernel
theorem dX2_wants_87 : decode cX2_wants 87 = .ok (.iload_n 1, 1) := by decide +kernel
theorem dX2_wants_88 : decode cX2_wants 88 = .ok (.ireturn, 1) := by decide +kernel
theorem dX3_init_0 : decode cX3_init 0 = .ok (.aload_n 0, 1) := by decide +kernel
theorem dX3_init_1 : decode cX3_init 1 = .ok (.invokespecial 1, 3) := by decide +kernel
theorem dX3_init_4 : decode cX3_init 4 = .ok (.aload_n 0, 1) := by decide +kernel
theorem dX3_init_5 : decode cX3_init 5 = .ok (.iconst 0, 1) := by decide +kernel
theorem dX3_init_6 : decode cX3_init 6 = .ok (.putfield 7, 3) := by decide +kernel
theorem dX3_init_9 : decode cX3_init 9 = .ok (.aload_n 0, 1) := by decide +kernel
theorem dX3_init_10 : decode cX3_init 10 = .ok (.iconst 0, 1) := by decide +kernel
theorem dX3_init_11 : decode cX3_init 11 = .ok (.putfield 13, 3) := by decide +kernel
theorem dX3_init_14 : decode cX3_init 14 = .ok (.aload_n 0, 1) := by decide +kernel
theorem dX3_init_15 : decode cX3_init 15 = .ok (.iconst 0, 1) := by decide +kernel
theorem dX3_init_16 : decode cX3_init 16 = .ok (.putfield 16, 3) := by decide +kernel
theorem dX3_init_19 : decode cX3_init 19 = .ok (.aload_n 0, 1) := by decide +kernel
theorem dX3_init_20 : decode cX3_init 20 = .ok (.iconst 0, 1) := by decide +kernel
theorem dX3_init_21 : decode cX3_init 21 = .ok (.putfield 19, 3) := by decide +kernel
theorem dX3_init_24 : decode cX3_init 24 = .ok (.return_, 1) := by decide +kernel
theorem dX3_copyFrom_0 : decode cX3_copyFrom 0 = .ok (.aload_n 0, 1) := by decide +kernel
theorem dX3_copyFrom_1 : decode cX3_copyFrom 1 = .ok (.aload_n 1, 1) := by decide +kernel
theorem dX3_copyFrom_2 : decode cX3_copyFrom 2 = .ok (.getfield 7, 3) := by decide +kernel
theorem dX3_copyFrom_5 : decode cX3_copyFrom 5 = .ok (.putfield 7, 3) := by decide +kernel
theorem dX3_copyFrom_8 : decode cX3_copyFrom 8 = .ok (.aload_n 0, 1) := by decide +kernel
theorem dX3_copyFrom_9 : decode cX3_copyFrom 9 = .ok (.aload_n 1, 1) := by decide +kernel
theorem dX3_copyFrom_10 : decode cX3_copyFrom 10 = .ok (.getfield 13, 3) := by decide +kernel
theorem dX3_copyFrom_13 : decode cX3_copyFrom 13 = .ok (.putfield 13, 3) := by decide +kernel
theorem dX3_copyFrom_16 : decode cX3_copyFrom 16 = .ok (.aload_n 0, 1) := by decide +kernel
theorem dX3_copyFrom_17 : decode cX3_copyFrom 17 = .ok (.aload_n 1, 1) := by decide +kernel
theorem dX3_copyFrom_18 : decode cX3_copyFrom 18 = .ok (.getfield 16, 3) := by decide +kernel
theorem dX3_copyFrom_21 : decode cX3_copyFrom 21 = .ok (.putfield 16, 3) := by decide +kernel
theorem dX3_copyFrom_24 : decode cX3_copyFrom 24 = .ok (.aload_n 0, 1) := by decide +kernel
theorem dX3_copyFrom_25 : decode cX3_copyFrom 25 = .ok (.aload_n 1, 1) := by decide +kernel
theorem dX3_copyFrom_26 : decode cX3_copyFrom 26 = .ok (.getfield 19, 3) := by decide +kernel
theorem dX3_copyFrom_29 : decode cX3_copyFrom 29 = .ok (.putfield 19, 3) := by decide +kernel
theorem dX3_copyFrom_32 : decode cX3_copyFrom 32 = .ok (.return_, 1) := by decide +kernel
set_option maxRecDepth 20000 in
theorem ggX4_init_X6_init : GoodIn wsX4_init wsX6_init := goodIn_r _ [13, 14, 2, 3, 15, 16, 17, 18, 19, 20, 21] (by decide +kernel) (by decide +kernel)
set_option maxRecDepth 20000 in
theorem gX4_init_X6_init_n11 : GoodIn wsX4_init (wsX6_init) := ggX4_init_X6_init
theorem dX4_init_0 : decode cX4_init 0 = .ok (.aload_n 0, 1) := by decide +kernel
theorem dX4_init_1 : decode cX4_init 1 = .ok (.invokespecial 3, 3) := by decide +kernel
theorem dX4_init_4 : decode cX4_init 4 = .ok (.aload_n 0, 1) := by decide +kernel
theorem dX4_init_5 : decode cX4_init 5 = .ok (.new 9, 3) := by decide +kernel
theorem dX4_init_8 : decode cX4_init 8 = .ok (.dup, 1) := by decide +kernel
theorem dX4_init_9 : decode cX4_init 9 = .ok (.invokespecial 11, 3) := by decide +kernel
theorem dX4_init_12 : decode cX4_init 12 = .ok (.putfield 12, 3) := by decide +kernel
theorem dX4_init_15 : decode cX4_init 15 = .ok (.aload_n 0, 1) := by decide +kernel
theorem dX4_init_16 : decode cX4_init 16 = .ok (.iconst 0, 1) := by decide +kernel
theorem dX4_init_17 : decode cX4_init 17 = .ok (.putfield 18, 3) := by decide +kernel
theorem dX4_init_20 : decode cX4_init 20 = .ok (.aload_n 0, 1) := by decide +kernel
theorem dX4_init_21 : decode cX4_init 21 = .ok (.iconst 0, 1) := by decide +kernel
theorem dX4_init_22 : decode cX4_init 22 = .ok (.putfield 22, 3) := by decide +kernel
theorem dX4_init_25 : decode cX4_init 25 = .ok (.aload_n 0, 1) := by decide +kernel
theorem dX4_init_26 : decode cX4_init 26 = .ok (.ldc 25, 2) := by decide +kernel
theorem dX4_init_28 : decode cX4_init 28 = .ok (.putfield 27, 3) := by decide +kernel
theorem dX4_init_31 : decode cX4_init 31 = .ok (.aload_n 0, 1) := by decide +kernel
theorem dX4_init_32 : decode cX4_init 32 = .ok (.aload_n 1, 1) := by decide +kernel
theorem dX4_init_33 : decode cX4_init 33 = .ok (.putfield 31, 3) := by decide +kernel
theorem dX4_init_36 : decode cX4_init 36 = .ok (.return_, 1) := by decide +kernel
set_option maxRecDepth 20000 in
theorem ggX4_read_X6_clear : GoodIn wsX4_read wsX6_clear := goodIn_r _ [14, 15, 143, 144, 145] (by decide +kernel) (by decide +kernel)
set_option maxRecDepth 20000 in
theorem gX4_read_X6_clear : GoodIn wsX4_read (wsV RX4 35 RX6 yX6_clear wsX6_clear) := goodIn_app (goodIn_of _ (by decide +kernel)) ggX4_read_X6_clear
set_option maxRecDepth 20000 in
theorem ggX4_read_X4_readLevel : GoodIn wsX4_read wsX4_readLevel := goodIn_r _ [20, 2, 1, 21, 22, 23, 19, 16, 17, 18, 24, 25, 26, 27, 8, 3, 28, 29, 30, 31, 32, 33, 13, 34, 15, 35, 36, 37, 9, 38, 39, 40, 41, 42, 43, 44, 45, 46, 47, 48, 49, 50, 51, 52, 53, 54, 55, 56, 57, 58, 59, 60, 61, 62, 63, 64, 65, 66, 67, 68, 69, 70, 71, 72, 73, 74, 6, 75, 76, 5, 7, 77, 78, 79, 80, 81, 82, 83, 84, 85, 86, 87, 88, 89, 90, 91, 92, 93, 94, 95, 96, 97, 98, 99, 100, 101, 102, 103, 104, 105, 106, 107, 108, 109, 110, 111, 112, 113, 114, 115, 116, 117, 118, 119, 120, 121, 122, 123, 124, 125, 126, 127, 128, 129, 130, 131, 132, 133, 134, 135, 136, 137, 138, 139, 140, 141, 142, 143, 144, 145] (by decide +kernel) (by decide +kernel)
set_option maxRecDepth 20000 in
theorem gX4_read_X4_readLevel : GoodIn wsX4_read (wsV RX4 44 RX4 yX4_readLevel wsX4_readLevel) := goodIn_app (goodIn_of _ (by decide +kernel)) ggX4_read_X4_readLevel
theorem dX4_read_0 : decode cX4_read 0 = .ok (.aload_n 0, 1) := by decide +kernel
theorem dX4_read_1 : decode cX4_read 1 = .ok (.getfield 12, 3) := by decide +kernel
theorem dX4_read_4 : decode cX4_read 4 = .ok (.invokevirtual 35, 3) := by decide +kernel
theorem dX4_read_7 : decode cX4_read 7 = .ok (.aload_n 0, 1) := by decide +kernel
theorem dX4_read_8 : decode cX4_read 8 = .ok (.iconst 0, 1) := by decide +kernel
theorem dX4_read_9 : decode cX4_read 9 = .ok (.putfield 18, 3) := by decide +kernel
theorem dX4_read_12 : decode cX4_read 12 = .ok (.aload_n 0, 1) := by decide +kernel
theorem dX4_read_13 : decode cX4_read 13 = .ok (.iload_n 1, 1) := by decide +kernel
theorem dX4_read_14 : decode cX4_read 14 = .ok (.aload_n 0, 1) := by decide +kernel
theorem dX4_read_15 : decode cX4_read 15 = .ok (.getfield 31, 3) := by decide +kernel
theorem dX4_read_18 : decode cX4_read 18 = .ok (.arraylength, 1) := by decide +kernel
theorem dX4_read_19 : decode cX4_read 19 = .ok (.invokestatic 38, 3) := by decide +kernel
theorem dX4_read_22 : decode cX4_read 22 = .ok (.putfield 22, 3) := by decide +kernel
theorem dX4_read_25 : decode cX4_read 25 = .ok (.aload_n 0, 1) := by decide +kernel
theorem dX4_read_26 : decode cX4_read 26 = .ok (.aload_n 2, 1) := by decide +kernel
theorem dX4_read_27 : decode cX4_read 27 = .ok (.putfield 27, 3) := by decide +kernel
theorem dX4_read_30 : decode cX4_read 30 = .ok (.aload_n 0, 1) := by decide +kernel
theorem dX4_read_31 : decode cX4_read 31 = .ok (.iconst 0, 1) := by decide +kernel
theorem dX4_read_32 : decode cX4_read 32 = .ok (.iconst 0, 1) := by decide +kernel
theorem dX4_read_33 : decode cX4_read 33 = .ok (.invokevirtual 44, 3) := by decide +kernel
theorem dX4_read_36 : decode cX4_read 36 = .ok (.ifCond .eq 18, 3) := by decide +kernel
theorem dX4_read_39 : decode cX4_read 39 = .ok (.aload_n 0, 1) := by decide +kernel
theorem dX4_read_40 : decode cX4_read 40 = .ok (.getfield 18, 3) := by decide +kernel
theorem dX4_read_43 : decode cX4_read 43 = .ok (.aload_n 0, 1) := by decide +kernel
theorem dX4_read_44 : decode cX4_read 44 = .ok (.getfield 22, 3) := by decide +kernel
theorem dX4_read_47 : decode cX4_read 47 = .ok (.if_icmp .lt 7, 3) := by decide +kernel
theorem dX4_read_50 : decode cX4_read 50 = .ok (.iconst 1, 1) := by decide +kernel
theorem dX4_read_51 : decode cX4_read 51 = .ok (.goto 4, 3) := by decide +kernel
theorem dX4_read_54 : decode cX4_read 54 = .ok (.iconst 0, 1) := by decide +kernel
theorem dX4_read_55 : decode cX4_read 55 = .ok (.ireturn, 1) := by decide +kernel
theorem dX4_next_0 : decode cX4_next 0 = .ok (.aload_n 0, 1) := by decide +kernel
theorem dX4_next_1 : decode cX4_next 1 = .ok (.getfield 18, 3) := by decide +kernel
theorem dX4_next_4 : decode cX4_next 4 = .ok (.ifCond .lt 38, 3) := by decide +kernel
theorem dX4_next_7 : decode cX4_next 7 = .ok (.aload_n 0, 1) := by decide +kernel
theorem dX4_next_8 : decode cX4_next 8 = .ok (.getfield 18, 3) := by decide +kernel
theorem dX4_next_11 : decode cX4_next 11 = .ok (.aload_n 0, 1) := by decide +kernel
theorem dX4_next_12 : decode cX4_next 12 = .ok (.getfield 22, 3) := by decide +kernel
theorem dX4_next_15 : decode cX4_next 15 = .ok (.if_icmp .ge 27, 3) := by decide +kernel
theorem dX4_next_18 : decode cX4_next 18 = .ok (.aload_n 0, 1) := by decide +kernel
theorem dX4_next_19 : decode cX4_next 19 = .ok (.getfield 18, 3) := by decide +kernel
theorem dX4_next_22 : decode cX4_next 22 = .ok (.aload_n 0, 1) := by decide +kernel
theorem dX4_next_23 : decode cX4_next 23 = .ok (.getfield 31, 3) := by decide +kernel
theorem dX4_next_26 : decode cX4_next 26 = .ok (.arraylength, 1) := by decide +kernel
theorem dX4_next_27 : decode cX4_next 27 = .ok (.if_icmp .ge 15, 3) := by decide +kernel
theorem dX4_next_30 : decode cX4_next 30 = .ok (.aload_n 0, 1) := by decide +kernel
theorem dX4_next_31 : decode cX4_next 31 = .ok (.getfield 31, 3) := by decide +kernel
theorem dX4_next_34 : decode cX4_next 34 = .ok (.aload_n 0, 1) := by decide +kernel
theorem dX4_next_35 : decode cX4_next 35 = .ok (.getfield 18, 3) := by decide +kernel
theorem dX4_next_38 : decode cX4_next 38 = .ok (.iaload, 1) := by decide +kernel
theorem dX4_next_39 : decode cX4_next 39 = .ok (.goto 4, 3) := by decide +kernel
theorem dX4_next_42 : decode cX4_next 42 = .ok (.iconst (-1), 1) := by decide +kernel
theorem dX4_next_43 : decode cX4_next 43 = .ok (.ireturn, 1) := by decide +kernel
set_option maxRecDepth 20000 in
theorem ggX4_readLevel_X4_readLast : GoodIn wsX4_readLevel wsX4_readLast := goodIn_r _ [27, 28, 1, 2, 10, 11, 12, 6, 13, 14, 15, 29, 30, 31, 32, 33, 34, 35, 19, 20, 21, 22, 23, 24, 25, 36, 37, 38, 39, 40, 41, 42, 43, 44, 45, 46, 47, 48, 49, 50, 51, 52, 53, 54, 55, 56, 57, 58, 59, 60, 61, 62, 63, 64, 65, 66, 67, 68, 69, 70, 71, 72, 73, 74, 75, 76, 77, 78, 79, 80, 81, 82, 83, 84, 85, 86, 87, 88, 89, 90, 91, 92, 93, 94, 95, 96, 97, 98, 99, 100, 101, 102, 103, 104, 105, 106, 107, 108, 109, 110, 111, 112, 113, 114, 115, 116, 117, 118, 119, 120, 121, 122, 123, 124, 125, 126, 127, 128, 129, 130, 26, 7, 8, 9, 0, 3, 4, 5, 16, 17, 18, 131, 132, 133, 134, 135, 136, 137, 138, 139] (by decide +kernel) (by decide +kernel)
set_option maxRecDepth 20000 in
theorem gX4_readLevel_X4_readLast : GoodIn wsX4_readLevel (wsV RX4 48 RX4 yX4_readLast wsX4_readLast) := goodIn_app (goodIn_of _ (by decide +kernel)) ggX4_readLevel_X4_readLast
set_option maxRecDepth 20000 in
theorem ggX4_readLevel_X4_readLevel : GoodIn wsX4_readLevel wsX4_readLevel := goodIn_r _ [0, 1, 2, 3, 4, 5, 6, 7, 8, 9, 10, 11, 12, 13, 14, 15, 16, 17, 18, 19, 20, 21, 22, 23, 24, 25, 26, 27, 28, 29, 30, 31, 32, 33, 34, 35, 36, 37, 38, 39, 40, 41, 42, 43, 44, 45, 46, 47, 48, 49, 50, 51, 52, 53, 54, 55, 56, 57, 58, 59, 60, 61, 62, 63, 64, 65, 66, 67, 68, 69, 70, 71, 72, 73, 74, 75, 76, 77, 78, 79, 80, 81, 82, 83, 84, 85, 86, 87, 88, 89, 90, 91, 92, 93, 94, 95, 96, 97, 98, 99, 100, 101, 102, 103, 104, 105, 106, 107, 108, 109, 110, 111, 112, 113, 114, 115, 116, 117, 118, 119, 120, 121, 122, 123, 124, 125, 126, 127, 128, 129, 130, 131, 132, 133, 134, 135, 136, 137, 138, 139] (by decide +kernel) (by decide +kernel)
set_option maxRecDepth 20000 in
theorem gX4_readLevel_X4_readLevel : GoodIn wsX4_readLevel (wsV RX4 44 RX4 yX4_readLevel wsX4_readLevel) := goodIn_app (goodIn_of _ (by decide +kernel)) ggX4_readLevel_X4_readLevel
set_option maxRecDepth 20000 in
theorem ggX4_readLevel_X4_next : GoodIn wsX4_readLevel wsX4_next := goodIn_r _ [13, 1, 14, 15, 132, 133, 134, 135, 136] (by decide +kernel) (by decide +kernel)
set_option maxRecDepth 20000 in
theorem gX4_readLevel_X4_next : GoodIn wsX4_readLevel (wsV RX4 52 RX4 yX4_next wsX4_next) := goodIn_app (goodIn_of _ (by decide +kernel)) ggX4_readLevel_X4_next
set_option maxRecDepth 20000 in
theorem ggX4_readLevel_X4_levelOf : GoodIn wsX4_readLevel wsX4_levelOf := goodIn_r _ [18] (by decide +kernel) (by decide +kernel)
set_option maxRecDepth 20000 in
theorem gX4_readLevel_X4_levelOf : GoodIn wsX4_readLevel (va_wsS RX4 56 yX4_levelOf wsX4_levelOf) := goodIn_app (goodIn_of _ (by decide +kernel)) ggX4_readLevel_X4_levelOf
set_option maxRecDepth 20000 in
theorem ggX4_readLevel_X6_add : GoodIn wsX4_readLevel wsX6_add := goodIn_r _ [23, 24, 25, 137, 138, 139] (by decide +kernel) (by decide +kernel)
set_option maxRecDepth 20000 in
theorem gX4_readLevel_X6_add : GoodIn wsX4_readLevel (wsV RX4 60 RX6 yX6_add wsX6_add) := goodIn_app (goodIn_of _ (by decide +kernel)) ggX4_readLevel_X6_add
theorem dX4_readLevel_0 : decode cX4_readLevel 0 = .ok (.iload_n 1, 1) := by decide +kernel
theorem dX4_readLevel_1 : decode cX4_readLevel 1 = .ok (.iconst 5, 1) := by decide +kernel
theorem dX4_readLevel_2 : decode cX4_readLevel 2 = .ok (.if_icmp .lt 9, 3) := by decide +kernel
theorem dX4_readLevel_5 : decode cX4_readLevel 5 = .ok (.aload_n 0, 1) := by decide +kernel
theorem dX4_readLevel_6 : decode cX4_readLevel 6 = .ok (.iload_n 2, 1) := by decide +kernel
theorem dX4_readLevel_7 : decode cX4_readLevel 7 = .ok (.invokevirtual 48, 3) := by decide +kernel
theorem dX4_readLevel_10 : decode cX4_readLevel 10 = .ok (.ireturn, 1) := by decide +kernel
theorem dX4_readLevel_11 : decode cX4_readLevel 11 = .ok (.aload_n 0, 1) := by decide +kernel
theorem dX4_readLevel_12 : decode cX4_readLevel 12 = .ok (.iload_n 1, 1) := by decide +kernel
theorem dX4_readLevel_13 : decode cX4_readLevel 13 = .ok (.iconst 1, 1) := by decide +kernel
theorem dX4_readLevel_14 : decode cX4_readLevel 14 = .ok (.iadd, 1) := by decide +kernel
theorem dX4_readLevel_15 : decode cX4_readLevel 15 = .ok (.iload_n 2, 1) := by decide +kernel
theorem dX4_readLevel_16 : decode cX4_readLevel 16 = .ok (.invokevirtual 44, 3) := by decide +kernel
theorem dX4_readLevel_19 : decode cX4_readLevel 19 = .ok (.ifCond .ne 5, 3) := by decide +kernel
theorem dX4_readLevel_22 : decode cX4_readLevel 22 = .ok (.iconst 0, 1) := by decide +kernel
theorem dX4_readLevel_23 : decode cX4_readLevel 23 = .ok (.ireturn, 1) := by decide +kernel
theorem dX4_readLevel_24 : decode cX4_readLevel 24 = .ok (.iconst 1, 1) := by decide +kernel
theorem dX4_readLevel_25 : decode cX4_readLevel 25 = .ok (.istore_n 3, 1) := by decide +kernel
theorem dX4_readLevel_26 : decode cX4_readLevel 26 = .ok (.iconst 0, 1) := by decide +kernel
theorem dX4_readLevel_27 : decode cX4_readLevel 27 = .ok (.istore 4, 2) := by decide +kernel
theorem dX4_readLevel_29 : decode cX4_readLevel 29 = .ok (.iload 4, 2) := by decide +kernel
theorem dX4_readLevel_31 : decode cX4_readLevel 31 = .ok (.bipush 60, 2) := by decide +kernel
theorem dX4_readLevel_33 : decode cX4_readLevel 33 = .ok (.if_icmp .ge 77, 3) := by decide +kernel
theorem dX4_readLevel_36 : decode cX4_readLevel 36 = .ok (.iload_n 3, 1) := by decide +kernel
theorem dX4_readLevel_37 : decode cX4_readLevel 37 = .ok (.ifCond .eq 73, 3) := by decide +kernel
theorem dX4_readLevel_40 : decode cX4_readLevel 40 = .ok (.aload_n 0, 1) := by decide +kernel
theorem dX4_readLevel_41 : decode cX4_readLevel 41 = .ok (.invokevirtual 52, 3) := by decide +kernel
theorem dX4_readLevel_44 : decode cX4_readLevel 44 = .ok (.invokestatic 56, 3) := by decide +kernel
theorem dX4_readLevel_47 : decode cX4_readLevel 47 = .ok (.iload_n 1, 1) := by decide +kernel
theorem dX4_readLevel_48 : decode cX4_readLevel 48 = .ok (.if_icmp .ne 62, 3) := by decide +kernel
theorem dX4_readLevel_51 : decode cX4_readLevel 51 = .ok (.aload_n 0, 1) := by decide +kernel
theorem dX4_readLevel_52 : decode cX4_readLevel 52 = .ok (.invokevirtual 52, 3) := by decide +kernel
theorem dX4_readLevel_55 : decode cX4_readLevel 55 = .ok (.istore 5, 2) := by decide +kernel
theorem dX4_readLevel_57 : decode cX4_readLevel 57 = .ok (.aload_n 0, 1) := by decide +kernel
theorem dX4_readLevel_58 : decode cX4_readLevel 58 = .ok (.dup, 1) := by decide +kernel
theorem dX4_readLevel_59 : decode cX4_readLevel 59 = .ok (.getfield 18, 3) := by decide +kernel
theorem dX4_readLevel_62 : decode cX4_readLevel 62 = .ok (.iconst 1, 1) := by decide +kernel
theorem dX4_readLevel_63 : decode cX4_readLevel 63 = .ok (.iadd, 1) := by decide +kernel
theorem dX4_readLevel_64 : decode cX4_readLevel 64 = .ok (.putfield 18, 3) := by decide +kernel
theorem dX4_readLevel_67 : decode cX4_readLevel 67 = .ok (.aload_n 0, 1) := by decide +kernel
theorem dX4_readLevel_68 : decode cX4_readLevel 68 = .ok (.iload_n 1, 1) := by decide +kernel
theorem dX4_readLevel_69 : decode cX4_readLevel 69 = .ok (.iconst 1, 1) := by decide +kernel
theorem dX4_readLevel_70 : decode cX4_readLevel 70 = .ok (.iadd, 1) := by decide +kernel
theorem dX4_readLevel_71 : decode cX4_readLevel 71 = .ok (.iload_n 2, 1) := by decide +kernel
theorem dX4_readLevel_72 : decode cX4_readLevel 72 = .ok (.invokevirtual 44, 3) := by decide +kernel
theorem dX4_readLevel_75 : decode cX4_readLevel 75 = .ok (.ifCond .ne 5, 3) := by decide +kernel
theorem dX4_readLevel_78 : decode cX4_readLevel 78 = .ok (.iconst 0, 1) := by decide +kernel
theorem dX4_readLevel_79 : decode cX4_readLevel 79 = .ok (.ireturn, 1) := by decide +kernel
theorem dX4_readLevel_80 : decode cX4_readLevel 80 = .ok (.aload_n 0, 1) := by decide +kernel
theorem dX4_readLevel_81 : decode cX4_readLevel 81 = .ok (.getfield 12, 3) := by decide +kernel
theorem dX4_readLevel_84 : decode cX4_readLevel 84 = .ok (.sipush 10000, 3) := by decide +kernel
theorem dX4_readLevel_87 : decode cX4_readLevel 87 = .ok (.iload 5, 2) := by decide +kernel
theorem dX4_readLevel_89 : decode cX4_readLevel 89 = .ok (.iadd, 1) := by decide +kernel
theorem dX4_readLevel_90 : decode cX4_readLevel 90 = .ok (.invokevirtual 60, 3) := by decide +kernel
theorem dX4_readLevel_93 : decode cX4_readLevel 93 = .ok (.iload_n 1, 1) := by decide +kernel
theorem dX4_readLevel_94 : decode cX4_readLevel 94 = .ok (.iconst 2, 1) := by decide +kernel
theorem dX4_readLevel_95 : decode cX4_readLevel 95 = .ok (.if_icmp .eq 7, 3) := by decide +kernel
theorem dX4_readLevel_98 : decode cX4_readLevel 98 = .ok (.iconst 1, 1) := by decide +kernel
theorem dX4_readLevel_99 : decode cX4_readLevel 99 = .ok (.goto 4, 3) := by decide +kernel
theorem dX4_readLevel_102 : decode cX4_readLevel 102 = .ok (.iconst 0, 1) := by decide +kernel
theorem dX4_readLevel_103 : decode cX4_readLevel 103 = .ok (.istore_n 3, 1) := by decide +kernel
theorem dX4_readLevel_104 : decode cX4_readLevel 104 = .ok (.iinc 4 1, 3) := by decide +kernel
theorem dX4_readLevel_107 : decode cX4_readLevel 107 = .ok (.goto (-78), 3) := by decide +kernel
theorem dX4_readLevel_110 : decode cX4_readLevel 110 = .ok (.iconst 1, 1) := by decide +kernel
theorem dX4_readLevel_111 : decode cX4_readLevel 111 = .ok (.ireturn, 1) := by decide +kernel
theorem dX4_levelOf_0 : decode cX4_levelOf 0 = .ok (.iload_n 0, 1) := by decide +kernel
theorem dX4_levelOf_1 : decode cX4_levelOf 1 = .ok (.lookupswitch 101 #[(37, 99), (38, 93), (42, 99), (43, 97), (45, 97), (47, 99), (60, 95), (61, 95), (62, 95), (124, 91)], 91) := by decide +kernel
theorem dX4_levelOf_92 : decode cX4_levelOf 92 = .ok (.iconst 0, 1) := by decide +kernel
theorem dX4_levelOf_93 : decode cX4_levelOf 93 = .ok (.ireturn, 1) := by decide +kernel
theorem dX4_levelOf_94 : decode cX4_levelOf 94 = .ok (.iconst 1, 1) := by decide +kernel
theorem dX4_levelOf_95 : decode cX4_levelOf 95 = .ok (.ireturn, 1) := by decide +kernel
theorem dX4_levelOf_96 : decode cX4_levelOf 96 = .ok (.iconst 2, 1) := by decide +kernel
theorem dX4_levelOf_97 : decode cX4_levelOf 97 = .ok (.ireturn, 1) := by decide +kernel
theorem dX4_levelOf_98 : decode cX4_levelOf 98 = .ok (.iconst 3, 1) := by decide +kernel
theorem dX4_levelOf_99 : decode cX4_levelOf 99 = .ok (.ireturn, 1) := by decide +kernel
theorem dX4_levelOf_100 : decode cX4_levelOf 100 = .ok (.iconst 4, 1) := by decide +kernel
theorem dX4_levelOf_101 : decode cX4_levelOf 101 = .ok (.ireturn, 1) := by decide +kernel
theorem dX4_levelOf_102 : decode cX4_levelOf 102 = .ok (.iconst (-1), 1) := by decide +kernel
theorem dX4_levelOf_103 : decode cX4_levelOf 103 = .ok (.ireturn, 1) := by decide +kernel
set_option maxRecDepth 20000 in
theorem ggX4_readLast_X4_next : GoodIn wsX4_readLast wsX4_next := goodIn_r _ [8, 2, 9, 10, 132, 133, 134, 135, 136] (by decide +kernel) (by decide +kernel)
set_option maxRecDepth 20000 in
theorem gX4_readLast_X4_next : GoodIn wsX4_readLast (wsV RX4 52 RX4 yX4_next wsX4_next) := goodIn_app (goodIn_of _ (by decide +kernel)) ggX4_readLast_X4_next
set_option maxRecDepth 20000 in
theorem ggX4_readLast_X4_isDigit : GoodIn wsX4_readLast wsX4_isDigit := goodIn_r _ [13] (by decide +kernel) (by decide +kernel)
set_option maxRecDepth 20000 in
theorem gX4_readLast_X4_isDigit : GoodIn wsX4_readLast (va_wsS RX4 64 yX4_isDigit wsX4_isDigit) := goodIn_app (goodIn_of _ (by decide +kernel)) ggX4_readLast_X4_isDigit
set_option maxRecDepth 20000 in
theorem ggX4_readLast_X4_readNumber : GoodIn wsX4_readLast wsX4_readNumber := goodIn_r _ [17, 2, 3, 4, 5, 6, 7, 8, 9, 10, 11, 12, 13, 18, 19, 20, 21, 22, 23, 24, 132, 133, 134, 135, 136, 137, 138, 139] (by decide +kernel) (by decide +kernel)
set_option maxRecDepth 20000 in
theorem gX4_readLast_X4_readNumber : GoodIn wsX4_readLast (wsV RX4 67 RX4 yX4_readNumber wsX4_readNumber) := goodIn_app (goodIn_of _ (by decide +kernel)) ggX4_readLast_X4_readNumber
set_option maxRecDepth 20000 in
theorem ggX4_readLast_J0_indexOf_0f7a4 : GoodIn wsX4_readLast wsJ0_indexOf_0f7a4 := goodIn_r _ [29, 30, 31, 32, 28, 33, 34, 35, 36, 37, 38, 39, 40, 41, 42, 43, 44, 45, 46, 47, 48, 49, 50, 51, 52, 53, 54, 55, 56, 57, 58, 59, 60, 61, 62, 63, 64, 65, 66, 67, 68, 69, 70, 71, 72, 73, 74, 75, 76, 77, 78, 79, 80, 81, 82, 83, 84, 85, 86, 87, 88, 89, 90, 91, 92, 93, 94, 95, 96, 97, 98, 99, 100, 101, 102, 103, 104, 105, 106, 107, 108, 109, 110, 111, 112, 113] (by decide +kernel) (by decide +kernel)
set_option maxRecDepth 20000 in
theorem gX4_readLast_J0_indexOf_0f7a4 : GoodIn wsX4_readLast (wsV RX4 70 RJ0 yJ0_indexOf_0f7a4 wsJ0_indexOf_0f7a4) := goodIn_app (goodIn_of _ (by decide +kernel)) ggX4_readLast_J0_indexOf_0f7a4
set_option maxRecDepth 20000 in
theorem ggX4_readLast_X6_add : GoodIn wsX4_readLast wsX6_add := goodIn_r _ [22, 23, 24, 137, 138, 139] (by decide +kernel) (by decide +kernel)
set_option maxRecDepth 20000 in
theorem gX4_readLast_X6_add : GoodIn wsX4_readLast (wsV RX4 60 RX6 yX6_add wsX6_add) := goodIn_app (goodIn_of _ (by decide +kernel)) ggX4_readLast_X6_add
set_option maxRecDepth 20000 in
theorem ggX4_readLast_X4_readNot : GoodIn wsX4_readLast wsX4_readNot := goodIn_r _ [131, 2, 3, 121, 122, 123, 7, 18, 19, 20, 21, 22, 23, 24, 120, 4, 5, 6, 8, 9, 10, 0, 1, 11, 12, 13, 14, 15, 16, 17, 25, 26, 27, 28, 29, 30, 31, 32, 33, 34, 35, 36, 37, 38, 39, 40, 41, 42, 43, 44, 45, 46, 47, 48, 49, 50, 51, 52, 53, 54, 55, 56, 57, 58, 59, 60, 61, 62, 63, 64, 65, 66, 67, 68, 69, 70, 71, 72, 73, 74, 75, 76, 77, 78, 79, 80, 81, 82, 83, 84, 85, 86, 87, 88, 89, 90, 91, 92, 93, 94, 95, 96, 97, 98, 99, 100, 101, 102, 103, 104, 105, 106, 107, 108, 109, 110, 111, 112, 113, 114, 115, 116, 117, 118, 119, 124, 125, 126, 127, 128, 129, 130, 132, 133, 134, 135, 136, 137, 138, 139] (by decide +kernel) (by decide +kernel)
set_option maxRecDepth 20000 in
theorem gX4_readLast_X4_readNot : GoodIn wsX4_readLast (wsV RX4 75 RX4 yX4_readNot wsX4_readNot) := goodIn_app (goodIn_of _ (by decide +kernel)) ggX4_readLast_X4_readNot
set_option maxRecDepth 20000 in
theorem ggX4_readLast_X4_readInner : GoodIn wsX4_readLast wsX4_readInner := goodIn_r _ [120, 2, 121, 122, 123, 7, 4, 5, 6, 8, 9, 10, 0, 1, 3, 11, 12, 13, 14, 15, 16, 17, 18, 19, 20, 21, 22, 23, 24, 25, 26, 27, 28, 29, 30, 31, 32, 33, 34, 35, 36, 37, 38, 39, 40, 41, 42, 43, 44, 45, 46, 47, 48, 49, 50, 51, 52, 53, 54, 55, 56, 57, 58, 59, 60, 61, 62, 63, 64, 65, 66, 67, 68, 69, 70, 71, 72, 73, 74, 75, 76, 77, 78, 79, 80, 81, 82, 83, 84, 85, 86, 87, 88, 89, 90, 91, 92, 93, 94, 95, 96, 97, 98, 99, 100, 101, 102, 103, 104, 105, 106, 107, 108, 109, 110, 111, 112, 113, 114, 115, 116, 117, 118, 119, 124, 125, 126, 127, 128, 129, 130, 131, 132, 133, 134, 135, 136, 137, 138, 139] (by decide +kernel) (by decide +kernel)
set_option maxRecDepth 20000 in
theorem gX4_readLast_X4_readInner : GoodIn wsX4_readLast (wsV RX4 78 RX4 yX4_readInner wsX4_readInner) := goodIn_app (goodIn_of _ (by decide +kernel)) ggX4_readLast_X4_readInner
theorem dX4_readLast_0 : decode cX4_readLast 0 = .ok (.aload_n 0, 1) := by decide +kernel
theorem dX4_readLast_1 : decode cX4_readLast 1 = .ok (.invokevirtual 52, 3) := by decide +kernel
theorem dX4_readLast_4 : decode cX4_readLast 4 = .ok (.istore_n 2, 1) := by decide +kernel
theorem dX4_readLast_5 : decode cX4_readLast 5 = .ok (.iload_n 2, 1) := by decide +kernel
theorem dX4_readLast_6 : decode cX4_readLast 6 = .ok (.invokestatic 64, 3) := by decide +kernel
theorem dX4_readLast_9 : decode cX4_readLast 9 = .ok (.ifCond .eq 9, 3) := by decide +kernel
theorem dX4_readLast_12 : decode cX4_readLast 12 = .ok (.aload_n 0, 1) := by decide +kernel
theorem dX4_readLast_13 : decode cX4_readLast 13 = .ok (.invokevirtual 67, 3) := by decide +kernel
theorem dX4_readLast_16 : decode cX4_readLast 16 = .ok (.iconst 1, 1) := by decide +kernel
theorem dX4_readLast_17 : decode cX4_readLast 17 = .ok (.ireturn, 1) := by decide +kernel
theorem dX4_readLast_18 : decode cX4_readLast 18 = .ok (.iload_n 2, 1) := by decide +kernel
theorem dX4_readLast_19 : decode cX4_readLast 19 = .ok (.ifCond .ge 7, 3) := by decide +kernel
theorem dX4_readLast_22 : decode cX4_readLast 22 = .ok (.iconst (-1), 1) := by decide +kernel
theorem dX4_readLast_23 : decode cX4_readLast 23 = .ok (.goto 12, 3) := by decide +kernel
theorem dX4_readLast_26 : decode cX4_readLast 26 = .ok (.aload_n 0, 1) := by decide +kernel
theorem dX4_readLast_27 : decode cX4_readLast 27 = .ok (.getfield 27, 3) := by decide +kernel
theorem dX4_readLast_30 : decode cX4_readLast 30 = .ok (.iload_n 2, 1) := by decide +kernel
theorem dX4_readLast_31 : decode cX4_readLast 31 = .ok (.i2c, 1) := by decide +kernel
theorem dX4_readLast_32 : decode cX4_readLast 32 = .ok (.invokevirtual 70, 3) := by decide +kernel
theorem dX4_readLast_35 : decode cX4_readLast 35 = .ok (.istore_n 3, 1) := by decide +kernel
theorem dX4_readLast_36 : decode cX4_readLast 36 = .ok (.iload_n 3, 1) := by decide +kernel
theorem dX4_readLast_37 : decode cX4_readLast 37 = .ok (.ifCond .lt 25, 3) := by decide +kernel
theorem dX4_readLast_40 : decode cX4_readLast 40 = .ok (.aload_n 0, 1) := by decide +kernel
theorem dX4_readLast_41 : decode cX4_readLast 41 = .ok (.dup, 1) := by decide +kernel
theorem dX4_readLast_42 : decode cX4_readLast 42 = .ok (.getfield 18, 3) := by decide +kernel
theorem dX4_readLast_45 : decode cX4_readLast 45 = .ok (.iconst 1, 1) := by decide +kernel
theorem dX4_readLast_46 : decode cX4_readLast 46 = .ok (.iadd, 1) := by decide +kernel
theorem dX4_readLast_47 : decode cX4_readLast 47 = .ok (.putfield 18, 3) := by decide +kernel
theorem dX4_readLast_50 : decode cX4_readLast 50 = .ok (.aload_n 0, 1) := by decide +kernel
theorem dX4_readLast_51 : decode cX4_readLast 51 = .ok (.getfield 12, 3) := by decide +kernel
theorem dX4_readLast_54 : decode cX4_readLast 54 = .ok (.iconst (-1), 1) := by decide +kernel
theorem dX4_readLast_55 : decode cX4_readLast 55 = .ok (.iload_n 3, 1) := by decide +kernel
theorem dX4_readLast_56 : decode cX4_readLast 56 = .ok (.isub, 1) := by decide +kernel
theorem dX4_readLast_57 : decode cX4_readLast 57 = .ok (.invokevirtual 60, 3) := by decide +kernel
theorem dX4_readLast_60 : decode cX4_readLast 60 = .ok (.iconst 1, 1) := by decide +kernel
theorem dX4_readLast_61 : decode cX4_readLast 61 = .ok (.ireturn, 1) := by decide +kernel
theorem dX4_readLast_62 : decode cX4_readLast 62 = .ok (.iload_n 1, 1) := by decide +kernel
theorem dX4_readLast_63 : decode cX4_readLast 63 = .ok (.iconst 5, 1) := by decide +kernel
theorem dX4_readLast_64 : decode cX4_readLast 64 = .ok (.if_icmp .lt 5, 3) := by decide +kernel
theorem dX4_readLast_67 : decode cX4_readLast 67 = .ok (.iconst 0, 1) := by decide +kernel
theorem dX4_readLast_68 : decode cX4_readLast 68 = .ok (.ireturn, 1) := by decide +kernel
theorem dX4_readLast_69 : decode cX4_readLast 69 = .ok (.iload_n 2, 1) := by decide +kernel
theorem dX4_readLast_70 : decode cX4_readLast 70 = .ok (.bipush 33, 2) := by decide +kernel
theorem dX4_readLast_72 : decode cX4_readLast 72 = .ok (.if_icmp .ne 11, 3) := by decide +kernel
theorem dX4_readLast_75 : decode cX4_readLast 75 = .ok (.aload_n 0, 1) := by decide +kernel
theorem dX4_readLast_76 : decode cX4_readLast 76 = .ok (.iload_n 1, 1) := by decide +kernel
theorem dX4_readLast_77 : decode cX4_readLast 77 = .ok (.iconst 1, 1) := by decide +kernel
theorem dX4_readLast_78 : decode cX4_readLast 78 = .ok (.iadd, 1) := by decide +kernel
theorem dX4_readLast_79 : decode cX4_readLast 79 = .ok (.invokevirtual 75, 3) := by decide +kernel
theorem dX4_readLast_82 : decode cX4_readLast 82 = .ok (.ireturn, 1) := by decide +kernel
theorem dX4_readLast_83 : decode cX4_readLast 83 = .ok (.iload_n 2, 1) := by decide +kernel
theorem dX4_readLast_84 : decode cX4_readLast 84 = .ok (.bipush 40, 2) := by decide +kernel
theorem dX4_readLast_86 : decode cX4_readLast 86 = .ok (.if_icmp .ne 17, 3) := by decide +kernel
theorem dX4_readLast_89 : decode cX4_readLast 89 = .ok (.aload_n 0, 1) := by decide +kernel
theorem dX4_readLast_90 : decode cX4_readLast 90 = .ok (.iload_n 1, 1) := by decide +kernel
theorem dX4_readLast_91 : decode cX4_readLast 91 = .ok (.iconst 1, 1) := by decide +kernel
theorem dX4_readLast_92 : decode cX4_readLast 92 = .ok (.iadd, 1) := by decide +kernel
theorem dX4_readLast_93 : decode cX4_readLast 93 = .ok (.invokevirtual 78, 3) := by decide +kernel
theorem dX4_readLast_96 : decode cX4_readLast 96 = .ok (.ifCond .eq 7, 3) := by decide +kernel
theorem dX4_readLast_99 : decode cX4_readLast 99 = .ok (.iconst 1, 1) := by decide +kernel
theorem dX4_readLast_100 : decode cX4_readLast 100 = .ok (.goto 4, 3) := by decide +kernel
theorem dX4_readLast_103 : decode cX4_readLast 103 = .ok (.iconst 0, 1) := by decide +kernel
theorem dX4_readLast_104 : decode cX4_readLast 104 = .ok (.ireturn, 1) := by decide +kernel
theorem dX4_isDigit_0 : decode cX4_isDigit 0 = .ok (.iload_n 0, 1) := by decide +kernel
theorem dX4_isDigit_1 : decode cX4_isDigit 1 = .ok (.bipush 48, 2) := by decide +kernel
theorem dX4_isDigit_3 : decode cX4_isDigit 3 = .ok (.if_icmp .lt 13, 3) := by decide +kernel
theorem dX4_isDigit_6 : decode cX4_isDigit 6 = .ok (.iload_n 0, 1) := by decide +kernel
theorem dX4_isDigit_7 : decode cX4_isDigit 7 = .ok (.bipush 57, 2) := by decide +kernel
theorem dX4_isDigit_9 : decode cX4_isDigit 9 = .ok (.if_icmp .gt 7, 3) := by decide +kernel
theorem dX4_isDigit_12 : decode cX4_isDigit 12 = .ok (.iconst 1, 1) := by decide +kernel
theorem dX4_isDigit_13 : decode cX4_isDigit 13 = .ok (.goto 4, 3) := by decide +kernel
theorem dX4_isDigit_16 : decode cX4_isDigit 16 = .ok (.iconst 0, 1) := by decide +kernel
theorem dX4_isDigit_17 : decode cX4_isDigit 17 = .ok (.ireturn, 1) := by decide +kernel
set_option maxRecDepth 20000 in
theorem ggX4_readNumber_X4_next : GoodIn wsX4_readNumber wsX4_next := goodIn_r _ [7, 1, 8, 9, 20, 21, 22, 23, 24] (by decide +kernel) (by decide +kernel)
set_option maxRecDepth 20000 in
theorem gX4_readNumber_X4_next : GoodIn wsX4_readNumber (wsV RX4 52 RX4 yX4_next wsX4_next) := goodIn_app (goodIn_of _ (by decide +kernel)) ggX4_readNumber_X4_next
set_option maxRecDepth 20000 in
theorem ggX4_readNumber_X4_isDigit : GoodIn wsX4_readNumber wsX4_isDigit := goodIn_r _ [12] (by decide +kernel) (by decide +kernel)
set_option maxRecDepth 20000 in
theorem gX4_readNumber_X4_isDigit : GoodIn wsX4_readNumber (va_wsS RX4 64 yX4_isDigit wsX4_isDigit) := goodIn_app (goodIn_of _ (by decide +kernel)) ggX4_readNumber_X4_isDigit
set_option maxRecDepth 20000 in
theorem ggX4_readNumber_X6_add : GoodIn wsX4_readNumber wsX6_add := goodIn_r _ [17, 18, 19, 25, 26, 27] (by decide +kernel) (by decide +kernel)
set_option maxRecDepth 20000 in
theorem gX4_readNumber_X6_add : GoodIn wsX4_readNumber (wsV RX4 60 RX6 yX6_add wsX6_add) := goodIn_app (goodIn_of _ (by decide +kernel)) ggX4_readNumber_X6_add
theorem dX4_readNumber_0 : decode cX4_readNumber 0 = .ok (.iconst 0, 1) := by decide +kernel
theorem dX4_readNumber_1 : decode cX4_readNumber 1 = .ok (.istore_n 1, 1) := by decide +kernel
theorem dX4_readNumber_2 : decode cX4_readNumber 2 = .ok (.iconst 0, 1) := by decide +kernel
theorem dX4_readNumber_3 : decode cX4_readNumber 3 = .ok (.istore_n 2, 1) := by decide +kernel
theorem dX4_readNumber_4 : decode cX4_readNumber 4 = .ok (.iload_n 2, 1) := by decide +kernel
theorem dX4_readNumber_5 : decode cX4_readNumber 5 = .ok (.iconst 4, 1) := by decide +kernel
theorem dX4_readNumber_6 : decode cX4_readNumber 6 = .ok (.if_icmp .ge 42, 3) := by decide +kernel
theorem dX4_readNumber_9 : decode cX4_readNumber 9 = .ok (.aload_n 0, 1) := by decide +kernel
theorem dX4_readNumber_10 : decode cX4_readNumber 10 = .ok (.invokevirtual 52, 3) := by decide +kernel
theorem dX4_readNumber_13 : decode cX4_readNumber 13 = .ok (.invokestatic 64, 3) := by decide +kernel
theorem dX4_readNumber_16 : decode cX4_readNumber 16 = .ok (.ifCond .eq 32, 3) := by decide +kernel
theorem dX4_readNumber_19 : decode cX4_readNumber 19 = .ok (.bipush 10, 2) := by decide +kernel
theorem dX4_readNumber_21 : decode cX4_readNumber 21 = .ok (.iload_n 1, 1) := by decide +kernel
theorem dX4_readNumber_22 : decode cX4_readNumber 22 = .ok (.imul, 1) := by decide +kernel
theorem dX4_readNumber_23 : decode cX4_readNumber 23 = .ok (.aload_n 0, 1) := by decide +kernel
theorem dX4_readNumber_24 : decode cX4_readNumber 24 = .ok (.invokevirtual 52, 3) := by decide +kernel
theorem dX4_readNumber_27 : decode cX4_readNumber 27 = .ok (.iadd, 1) := by decide +kernel
theorem dX4_readNumber_28 : decode cX4_readNumber 28 = .ok (.bipush 48, 2) := by decide +kernel
theorem dX4_readNumber_30 : decode cX4_readNumber 30 = .ok (.isub, 1) := by decide +kernel
theorem dX4_readNumber_31 : decode cX4_readNumber 31 = .ok (.istore_n 1, 1) := by decide +kernel
theorem dX4_readNumber_32 : decode cX4_readNumber 32 = .ok (.aload_n 0, 1) := by decide +kernel
theorem dX4_readNumber_33 : decode cX4_readNumber 33 = .ok (.dup, 1) := by decide +kernel
theorem dX4_readNumber_34 : decode cX4_readNumber 34 = .ok (.getfield 18, 3) := by decide +kernel
theorem dX4_readNumber_37 : decode cX4_readNumber 37 = .ok (.iconst 1, 1) := by decide +kernel
theorem dX4_readNumber_38 : decode cX4_readNumber 38 = .ok (.iadd, 1) := by decide +kernel
theorem dX4_readNumber_39 : decode cX4_readNumber 39 = .ok (.putfield 18, 3) := by decide +kernel
theorem dX4_readNumber_42 : decode cX4_readNumber 42 = .ok (.iinc 2 1, 3) := by decide +kernel
theorem dX4_readNumber_45 : decode cX4_readNumber 45 = .ok (.goto (-41), 3) := by decide +kernel
theorem dX4_readNumber_48 : decode cX4_readNumber 48 = .ok (.aload_n 0, 1) := by decide +kernel
theorem dX4_readNumber_49 : decode cX4_readNumber 49 = .ok (.getfield 12, 3) := by decide +kernel
theorem dX4_readNumber_52 : decode cX4_readNumber 52 = .ok (.iload_n 1, 1) := by decide +kernel
theorem dX4_readNumber_53 : decode cX4_readNumber 53 = .ok (.invokevirtual 60, 3) := by decide +kernel
theorem dX4_readNumber_56 : decode cX4_readNumber 56 = .ok (.return_, 1) := by decide +kernel
set_option maxRecDepth 20000 in
theorem ggX4_readNot_X4_readLevel : GoodIn wsX4_readNot wsX4_readLevel := goodIn_r _ [125, 1, 2, 126, 127, 128, 6, 3, 4, 5, 15, 16, 17, 18, 19, 20, 129, 130, 131, 7, 8, 9, 10, 11, 12, 13, 14, 21, 22, 23, 24, 25, 26, 27, 28, 29, 30, 31, 32, 33, 34, 35, 36, 37, 38, 39, 40, 41, 42, 43, 44, 45, 46, 47, 48, 49, 50, 51, 52, 53, 54, 55, 56, 57, 58, 59, 60, 61, 62, 63, 64, 65, 66, 67, 68, 69, 70, 71, 72, 73, 74, 75, 76, 77, 78, 79, 80, 81, 82, 83, 84, 85, 86, 87, 88, 89, 90, 91, 92, 93, 94, 95, 96, 97, 98, 99, 100, 101, 102, 103, 104, 105, 106, 107, 108, 109, 110, 111, 112, 113, 114, 115, 116, 117, 118, 119, 120, 121, 122, 123, 124, 0, 132, 133, 134, 135, 136, 137, 138, 139] (by decide +kernel) (by decide +kernel)
set_option maxRecDepth 20000 in
theorem gX4_readNot_X4_readLevel : GoodIn wsX4_readNot (wsV RX4 44 RX4 yX4_readLevel wsX4_readLevel) := goodIn_app (goodIn_of _ (by decide +kernel)) ggX4_readNot_X4_readLevel
set_option maxRecDepth 20000 in
theorem ggX4_readNot_X6_add : GoodIn wsX4_readNot wsX6_add := goodIn_r _ [11, 12, 13, 137, 138, 139] (by decide +kernel) (by decide +kernel)
set_option maxRecDepth 20000 in
theorem gX4_readNot_X6_add : GoodIn wsX4_readNot (wsV RX4 60 RX6 yX6_add wsX6_add) := goodIn_app (goodIn_of _ (by decide +kernel)) ggX4_readNot_X6_add
theorem dX4_readNot_0 : decode cX4_readNot 0 = .ok (.aload_n 0, 1) := by decide +kernel
theorem dX4_readNot_1 : decode cX4_readNot 1 = .ok (.dup, 1) := by decide +kernel
theorem dX4_readNot_2 : decode cX4_readNot 2 = .ok (.getfield 18, 3) := by decide +kernel
theorem dX4_readNot_5 : decode cX4_readNot 5 = .ok (.iconst 1, 1) := by decide +kernel
theorem dX4_readNot_6 : decode cX4_readNot 6 = .ok (.iadd, 1) := by decide +kernel
theorem dX4_readNot_7 : decode cX4_readNot 7 = .ok (.putfield 18, 3) := by decide +kernel
theorem dX4_readNot_10 : decode cX4_readNot 10 = .ok (.aload_n 0, 1) := by decide +kernel
theorem dX4_readNot_11 : decode cX4_readNot 11 = .ok (.iconst 5, 1) := by decide +kernel
theorem dX4_readNot_12 : decode cX4_readNot 12 = .ok (.iload_n 1, 1) := by decide +kernel
theorem dX4_readNot_13 : decode cX4_readNot 13 = .ok (.invokevirtual 44, 3) := by decide +kernel
theorem dX4_readNot_16 : decode cX4_readNot 16 = .ok (.ifCond .ne 5, 3) := by decide +kernel
theorem dX4_readNot_19 : decode cX4_readNot 19 = .ok (.iconst 0, 1) := by decide +kernel
theorem dX4_readNot_20 : decode cX4_readNot 20 = .ok (.ireturn, 1) := by decide +kernel
theorem dX4_readNot_21 : decode cX4_readNot 21 = .ok (.aload_n 0, 1) := by decide +kernel
theorem dX4_readNot_22 : decode cX4_readNot 22 = .ok (.getfield 12, 3) := by decide +kernel
theorem dX4_readNot_25 : decode cX4_readNot 25 = .ok (.sipush 10033, 3) := by decide +kernel
theorem dX4_readNot_28 : decode cX4_readNot 28 = .ok (.invokevirtual 60, 3) := by decide +kernel
theorem dX4_readNot_31 : decode cX4_readNot 31 = .ok (.iconst 1, 1) := by decide +kernel
theorem dX4_readNot_32 : decode cX4_readNot 32 = .ok (.ireturn, 1) := by decide +kernel
set_option maxRecDepth 20000 in
theorem ggX4_readInner_X4_readLevel : GoodIn wsX4_readInner wsX4_readLevel := goodIn_r _ [124, 1, 14, 125, 126, 127, 5, 2, 3, 4, 6, 7, 8, 9, 10, 11, 128, 129, 130, 22, 23, 24, 25, 26, 27, 28, 0, 12, 13, 15, 16, 17, 18, 19, 20, 21, 29, 30, 31, 32, 33, 34, 35, 36, 37, 38, 39, 40, 41, 42, 43, 44, 45, 46, 47, 48, 49, 50, 51, 52, 53, 54, 55, 56, 57, 58, 59, 60, 61, 62, 63, 64, 65, 66, 67, 68, 69, 70, 71, 72, 73, 74, 75, 76, 77, 78, 79, 80, 81, 82, 83, 84, 85, 86, 87, 88, 89, 90, 91, 92, 93, 94, 95, 96, 97, 98, 99, 100, 101, 102, 103, 104, 105, 106, 107, 108, 109, 110, 111, 112, 113, 114, 115, 116, 117, 118, 119, 120, 121, 122, 123, 131, 132, 133, 134, 135, 136, 137, 138, 139] (by decide +kernel) (by decide +kernel)
set_option maxRecDepth 20000 in
theorem gX4_readInner_X4_readLevel : GoodIn wsX4_readInner (wsV RX4 44 RX4 yX4_readLevel wsX4_readLevel) := goodIn_app (goodIn_of _ (by decide +kernel)) ggX4_readInner_X4_readLevel
set_option maxRecDepth 20000 in
theorem ggX4_readInner_X4_next : GoodIn wsX4_readInner wsX4_next := goodIn_r _ [9, 1, 10, 11, 132, 133, 134, 135, 136] (by decide +kernel) (by decide +kernel)
set_option maxRecDepth 20000 in
theorem gX4_readInner_X4_next : GoodIn wsX4_readInner (wsV RX4 52 RX4 yX4_next wsX4_next) := goodIn_app (goodIn_of _ (by decide +kernel)) ggX4_readInner_X4_next
theorem dX4_readInner_0 : decode cX4_readInner 0 = .ok (.aload_n 0, 1) := by decide +kernel
theorem dX4_readInner_1 : decode cX4_readInner 1 = .ok (.dup, 1) := by decide +kernel
theorem dX4_readInner_2 : decode cX4_readInner 2 = .ok (.getfield 18, 3) := by decide +kernel
theorem dX4_readInner_5 : decode cX4_readInner 5 = .ok (.iconst 1, 1) := by decide +kernel
theorem dX4_readInner_6 : decode cX4_readInner 6 = .ok (.iadd, 1) := by decide +kernel
theorem dX4_readInner_7 : decode cX4_readInner 7 = .ok (.putfield 18, 3) := by decide +kernel
theorem dX4_readInner_10 : decode cX4_readInner 10 = .ok (.aload_n 0, 1) := by decide +kernel
theorem dX4_readInner_11 : decode cX4_readInner 11 = .ok (.iconst 0, 1) := by decide +kernel
theorem dX4_readInner_12 : decode cX4_readInner 12 = .ok (.iload_n 1, 1) := by decide +kernel
theorem dX4_readInner_13 : decode cX4_readInner 13 = .ok (.invokevirtual 44, 3) := by decide +kernel
theorem dX4_readInner_16 : decode cX4_readInner 16 = .ok (.ifCond .eq 12, 3) := by decide +kernel
theorem dX4_readInner_19 : decode cX4_readInner 19 = .ok (.aload_n 0, 1) := by decide +kernel
theorem dX4_readInner_20 : decode cX4_readInner 20 = .ok (.invokevirtual 52, 3) := by decide +kernel
theorem dX4_readInner_23 : decode cX4_readInner 23 = .ok (.bipush 41, 2) := by decide +kernel
theorem dX4_readInner_25 : decode cX4_readInner 25 = .ok (.if_icmp .eq 5, 3) := by decide +kernel
theorem dX4_readInner_28 : decode cX4_readInner 28 = .ok (.iconst 0, 1) := by decide +kernel
theorem dX4_readInner_29 : decode cX4_readInner 29 = .ok (.ireturn, 1) := by decide +kernel
theorem dX4_readInner_30 : decode cX4_readInner 30 = .ok (.aload_n 0, 1) := by decide +kernel
theorem dX4_readInner_31 : decode cX4_readInner 31 = .ok (.dup, 1) := by decide +kernel
theorem dX4_readInner_32 : decode cX4_readInner 32 = .ok (.getfield 18, 3) := by decide +kernel
theorem dX4_readInner_35 : decode cX4_readInner 35 = .ok (.iconst 1, 1) := by decide +kernel
theorem dX4_readInner_36 : decode cX4_readInner 36 = .ok (.iadd, 1) := by decide +kernel
theorem dX4_readInner_37 : decode cX4_readInner 37 = .ok (.putfield 18, 3) := by decide +kernel
theorem dX4_readInner_40 : decode cX4_readInner 40 = .ok (.iconst 1, 1) := by decide +kernel
theorem dX4_readInner_41 : decode cX4_readInner 41 = .ok (.ireturn, 1) := by decide +kernel
theorem dX5_init_0 : decode cX5_init 0 = .ok (.aload_n 0, 1) := by decide +kernel
theorem dX5_init_1 : decode cX5_init 1 = .ok (.invokespecial 3, 3) := by decide +kernel
theorem dX5_init_4 : decode cX5_init 4 = .ok (.aload_n 0, 1) := by decide +kernel
theorem dX5_init_5 : decode cX5_init 5 = .ok (.bipush 24, 2) := by decide +kernel
theorem dX5_init_7 : decode cX5_init 7 = .ok (.newarray .int, 2) := by decide +kernel
theorem dX5_init_9 : decode cX5_init 9 = .ok (.putfield 9, 3) := by decide +kernel
theorem dX5_init_12 : decode cX5_init 12 = .ok (.aload_n 0, 1) := by decide +kernel
theorem dX5_init_13 : decode cX5_init 13 = .ok (.iconst 0, 1) := by decide +kernel
theorem dX5_init_14 : decode cX5_init 14 = .ok (.putfield 15, 3) := by decide +kernel
theorem dX5_init_17 : decode cX5_init 17 = .ok (.aload_n 0, 1) := by decide +kernel
theorem dX5_init_18 : decode cX5_init 18 = .ok (.iconst 0, 1) := by decide +kernel
theorem dX5_init_19 : decode cX5_init 19 = .ok (.putfield 19, 3) := by decide +kernel
theorem dX5_init_22 : decode cX5_init 22 = .ok (.return_, 1) := by decide +kernel
theorem dX5_isMissing_0 : decode cX5_isMissing 0 = .ok (.aload_n 0, 1) := by decide +kernel
theorem dX5_isMissing_1 : decode cX5_isMissing 1 = .ok (.getfield 15, 3) := by decide +kernel
theorem dX5_isMissing_4 : decode cX5_isMissing 4 = .ok (.ifCond .ne 7, 3) := by decide +kernel
theorem dX5_isMissing_7 : decode cX5_isMissing 7 = .ok (.iconst 1, 1) := by decide +kernel
theorem dX5_isMissing_8 : decode cX5_isMissing 8 = .ok (.goto 4, 3) := by decide +kernel
end
section
/-! The memory of the two systems: cells 0 .. 142, a function from cells and places to ints; the references between the cells never change. -/
abbrev MM : Type := Nat → Nat → Int32
abbrev GX : Type := (Nat → Nat) × va_G × (Nat → ClassId) × (Nat → Nat)
abbrev KX : Type := Program × Env × State × MethodId × Array Value × List Frame × Method × Code × (State → Prop)
def ma (σ : MM) (i : Nat) (f : Nat → Int32) : MM := fun j => if j = i then f else σ j
def mu (σ : MM) (i k : Nat) (v : Int32) : MM := ma σ i (upd (σ i) k v)
def kdl : List Nat := [0, 30, 31, 6, 20, 20, 6, 20, 20, 20, 21, 2, 2, 2, 2, 2, 2, 2, 2, 2, 2, 2, 2, 2, 2, 2, 2, 2, 2, 2, 2, 3, 3, 3, 3, 3, 0, 30, 31, 6, 20, 20, 6, 20, 20, 20, 21, 2, 2, 2, 2, 2, 2, 2, 2, 2, 2, 2, 2, 2, 2, 2, 2, 2, 2, 2, 2, 3, 3, 3, 3, 3, 0, 30, 31, 6, 20, 20, 6, 20, 20, 20, 21, 2, 2, 2, 2, 2, 2, 2, 2, 2, 2, 2, 2, 2, 2, 2, 2, 2, 2, 2, 2, 3, 3, 3, 3, 3, 8, 4, 6, 20, 20, 7, 22, 1, 23, 23, 24, 32, 5, 5, 5, 5, 21, 21, 21, 21, 25, 9, 26, 26, 26, 25, 27, 27, 28, 20, 20, 24, 20, 23, 22]
def kd (i : Nat) : Nat := kdl.getD i 99
def kl (k : Nat) : Nat := match k with
  | 20 => 60
  | 21 => 24
  | 22 => 30
  | 23 => 100
  | 24 => 3
  | 25 => 7
  | 26 => 412
  | 27 => 4
  | 28 => 96
  | _ => 0
def EE (G : GX) (i : Nat) (f : Nat → Int32) : va_E := match kd i with
  | 0 => .inr (0, [.ref (G.1 (i+1)), .int (f 1), .ref (G.1 (i+2)), .int (f 3), .ref (G.1 (i+3)), .ref (G.1 (i+6)), .ref (G.1 (i+9)), .int (f 7), .ref (G.1 (i+10)), .int (f 9), .int (f 10), .int (f 11)])
  | 1 => .inr (1, [.ref (G.1 (i+1)), .ref (G.1 (i+2)), .ref (G.1 (i+3)), .int (f 3)])
  | 2 => .inr (2, [.int (f 0), .int (f 1), .int (f 2), .int (f 3)])
  | 3 => .inr (3, [.int (f 0), .int (f 1), .int (f 2), .int (f 3)])
  | 4 => .inr (4, [.ref (G.1 110), .int (f 1), .ref (G.1 9), .int (f 3), .ref (G.2.2.2 (2 + (f 4).toNatClampNeg))])
  | 5 => .inr (5, [.ref (G.1 (i+4)), .int (f 1), .int (f 2)])
  | 6 => .inr (6, [.ref (G.1 (i+1)), .ref (G.1 (i+2)), .int (f 2)])
  | 7 => .inr (7, [.int (f 0), .int (f 1), .ref (G.1 114), .int (f 3), .int (f 4), .int (f 5)])
  | 8 => .inr (8, [.ref (G.1 0), .ref (G.1 36), .ref (G.1 72), .ref (G.1 109), .ref (G.1 113), .ref (G.1 115), .ref (G.1 119), .ref (G.1 128), .int (f 8)])
  | 9 => .inr (9, [.ref (G.1 130), .ref (G.1 131), .ref (G.1 132), .int (f 3), .ref (G.1 133), .ref (G.1 134), .ref (G.1 135), .ref (G.1 136), .ref (G.1 137), .ref (G.1 138), .ref (G.1 139), .ref (G.1 140), .int (f 12), .int (f 13), .int (f 14), .int (f 15), .int (f 16), .ref (G.1 141), .ref (G.1 142), .int (f 19), .int (f 20)])
  | 30 => .inl (G.2.2.1 1, 20, .inr (.inr (.inr (.inr (fun j => some (G.1 (i+10+j)))))))
  | 31 => .inl (G.2.2.1 2, 5, .inr (.inr (.inr (.inr (fun j => some (G.1 (i+29+j)))))))
  | 32 => .inl (G.2.2.1 3, 4, .inr (.inr (.inr (.inr (fun j => some (G.1 (i+1+j)))))))
  | k => .inl (G.2.2.1 0, kl k, .inl f)
def wl (G : GX) (σ : MM) : va_W := (List.range 143).map (fun i => (G.1 i, EE G i (σ i)))
theorem wl_get {G : GX} {σ : MM} {i : Nat} (h : i < 143) : (wl G σ)[i]? = some (G.1 i, EE G i (σ i)) := by
  simp [wl, h]
theorem wl_set {G : GX} {σ : MM} {i : Nat} (f : Nat → Int32) (h : i < 143) : (wl G σ).set i (G.1 i, EE G i f) = wl G (ma σ i f) := by
  apply List.ext_getElem?
  intro j
  rw [List.getElem?_set]
  by_cases hj : i = j
  · subst hj
    have hl : i < (wl G σ).length := by simp [wl, h]
    simp only [if_pos hl, if_true]
    rw [wl_get h]
    simp [ma]
  · rw [if_neg hj]
    by_cases hj2 : j < 143
    · rw [wl_get hj2, wl_get hj2]
      simp [ma, Ne.symm hj]
    · simp [wl, hj2]
theorem kd_lt {i : Nat} (h : kd i ≠ 99) : i < 143 := by
  rcases Nat.lt_or_ge i 143 with q | q
  · exact q
  · refine absurd ?_ h
    unfold kd
    rw [List.getD_eq_getElem?_getD, List.getElem?_eq_none (by exact q)]
    rfl
theorem kd_in {i k : Nat} (h : kd i = k) (hk : k ≠ 99) : i < 143 := kd_lt (by rw [h]; exact hk)

theorem EE_0 {G : GX} {i : Nat} (f : Nat → Int32) (h : kd i = 0) : EE G i f = .inr (0, [.ref (G.1 (i+1)), .int (f 1), .ref (G.1 (i+2)), .int (f 3), .ref (G.1 (i+3)), .ref (G.1 (i+6)), .ref (G.1 (i+9)), .int (f 7), .ref (G.1 (i+10)), .int (f 9), .int (f 10), .int (f 11)]) := by unfold EE; rw [h]; rfl
theorem EE_1 {G : GX} {i : Nat} (f : Nat → Int32) (h : kd i = 1) : EE G i f = .inr (1, [.ref (G.1 (i+1)), .ref (G.1 (i+2)), .ref (G.1 (i+3)), .int (f 3)]) := by unfold EE; rw [h]; rfl
theorem EE_2 {G : GX} {i : Nat} (f : Nat → Int32) (h : kd i = 2) : EE G i f = .inr (2, [.int (f 0), .int (f 1), .int (f 2), .int (f 3)]) := by unfold EE; rw [h]; rfl
theorem EE_3 {G : GX} {i : Nat} (f : Nat → Int32) (h : kd i = 3) : EE G i f = .inr (3, [.int (f 0), .int (f 1), .int (f 2), .int (f 3)]) := by unfold EE; rw [h]; rfl
theorem EE_4 {G : GX} {i : Nat} (f : Nat → Int32) (h : kd i = 4) : EE G i f = .inr (4, [.ref (G.1 110), .int (f 1), .ref (G.1 9), .int (f 3), .ref (G.2.2.2 (2 + (f 4).toNatClampNeg))]) := by unfold EE; rw [h]; rfl
theorem EE_5 {G : GX} {i : Nat} (f : Nat → Int32) (h : kd i = 5) : EE G i f = .inr (5, [.ref (G.1 (i+4)), .int (f 1), .int (f 2)]) := by unfold EE; rw [h]; rfl
theorem EE_6 {G : GX} {i : Nat} (f : Nat → Int32) (h : kd i = 6) : EE G i f = .inr (6, [.ref (G.1 (i+1)), .ref (G.1 (i+2)), .int (f 2)]) := by unfold EE; rw [h]; rfl
theorem EE_7 {G : GX} {i : Nat} (f : Nat → Int32) (h : kd i = 7) : EE G i f = .inr (7, [.int (f 0), .int (f 1), .ref (G.1 114), .int (f 3), .int (f 4), .int (f 5)]) := by unfold EE; rw [h]; rfl
theorem EE_8 {G : GX} {i : Nat} (f : Nat → Int32) (h : kd i = 8) : EE G i f = .inr (8, [.ref (G.1 0), .ref (G.1 36), .ref (G.1 72), .ref (G.1 109), .ref (G.1 113), .ref (G.1 115), .ref (G.1 119), .ref (G.1 128), .int (f 8)]) := by unfold EE; rw [h]; rfl
theorem EE_9 {G : GX} {i : Nat} (f : Nat → Int32) (h : kd i = 9) : EE G i f = .inr (9, [.ref (G.1 130), .ref (G.1 131), .ref (G.1 132), .int (f 3), .ref (G.1 133), .ref (G.1 134), .ref (G.1 135), .ref (G.1 136), .ref (G.1 137), .ref (G.1 138), .ref (G.1 139), .ref (G.1 140), .int (f 12), .int (f 13), .int (f 14), .int (f 15), .int (f 16), .ref (G.1 141), .ref (G.1 142), .int (f 19), .int (f 20)]) := by unfold EE; rw [h]; rfl
theorem EE_20 {G : GX} {i : Nat} (f : Nat → Int32) (h : kd i = 20) : EE G i f = .inl (G.2.2.1 0, 60, .inl f) := by unfold EE; rw [h]; rfl
theorem EE_21 {G : GX} {i : Nat} (f : Nat → Int32) (h : kd i = 21) : EE G i f = .inl (G.2.2.1 0, 24, .inl f) := by unfold EE; rw [h]; rfl
theorem EE_22 {G : GX} {i : Nat} (f : Nat → Int32) (h : kd i = 22) : EE G i f = .inl (G.2.2.1 0, 30, .inl f) := by unfold EE; rw [h]; rfl
theorem EE_23 {G : GX} {i : Nat} (f : Nat → Int32) (h : kd i = 23) : EE G i f = .inl (G.2.2.1 0, 100, .inl f) := by unfold EE; rw [h]; rfl
theorem EE_24 {G : GX} {i : Nat} (f : Nat → Int32) (h : kd i = 24) : EE G i f = .inl (G.2.2.1 0, 3, .inl f) := by unfold EE; rw [h]; rfl
theorem EE_25 {G : GX} {i : Nat} (f : Nat → Int32) (h : kd i = 25) : EE G i f = .inl (G.2.2.1 0, 7, .inl f) := by unfold EE; rw [h]; rfl
theorem EE_26 {G : GX} {i : Nat} (f : Nat → Int32) (h : kd i = 26) : EE G i f = .inl (G.2.2.1 0, 412, .inl f) := by unfold EE; rw [h]; rfl
theorem EE_27 {G : GX} {i : Nat} (f : Nat → Int32) (h : kd i = 27) : EE G i f = .inl (G.2.2.1 0, 4, .inl f) := by unfold EE; rw [h]; rfl
theorem EE_28 {G : GX} {i : Nat} (f : Nat → Int32) (h : kd i = 28) : EE G i f = .inl (G.2.2.1 0, 96, .inl f) := by unfold EE; rw [h]; rfl
theorem EE_30 {G : GX} {i : Nat} (f : Nat → Int32) (h : kd i = 30) : EE G i f = .inl (G.2.2.1 1, 20, .inr (.inr (.inr (.inr (fun j => some (G.1 (i+10+j))))))) := by unfold EE; rw [h]; rfl
theorem EE_31 {G : GX} {i : Nat} (f : Nat → Int32) (h : kd i = 31) : EE G i f = .inl (G.2.2.1 2, 5, .inr (.inr (.inr (.inr (fun j => some (G.1 (i+29+j))))))) := by unfold EE; rw [h]; rfl
theorem EE_32 {G : GX} {i : Nat} (f : Nat → Int32) (h : kd i = 32) : EE G i f = .inl (G.2.2.1 3, 4, .inr (.inr (.inr (.inr (fun j => some (G.1 (i+1+j))))))) := by unfold EE; rw [h]; rfl
theorem kd_by (k : Nat) (P : Nat → Bool) (hk : k ≠ 99) (h : (List.range 143).all (fun i => !(kd i == k) || P i) = true) {i : Nat} (hi : kd i = k) : P i = true := by
  have h1 := List.all_eq_true.mp h i (List.mem_range.mpr (kd_in hi hk))
  rw [hi] at h1
  simpa using h1
theorem kf_0_1 {i : Nat} (h : kd i = 0) : kd (i + 1) = 30 := by
  have h1 := kd_by 0 (fun i => kd (i + 1) == 30) (by decide) (by decide +kernel) h
  simpa using h1
theorem kf_0_2 {i : Nat} (h : kd i = 0) : kd (i + 2) = 31 := by
  have h1 := kd_by 0 (fun i => kd (i + 2) == 31) (by decide) (by decide +kernel) h
  simpa using h1
theorem kf_0_3 {i : Nat} (h : kd i = 0) : kd (i + 3) = 6 := by
  have h1 := kd_by 0 (fun i => kd (i + 3) == 6) (by decide) (by decide +kernel) h
  simpa using h1
theorem kf_0_6 {i : Nat} (h : kd i = 0) : kd (i + 6) = 6 := by
  have h1 := kd_by 0 (fun i => kd (i + 6) == 6) (by decide) (by decide +kernel) h
  simpa using h1
theorem kf_0_9 {i : Nat} (h : kd i = 0) : kd (i + 9) = 20 := by
  have h1 := kd_by 0 (fun i => kd (i + 9) == 20) (by decide) (by decide +kernel) h
  simpa using h1
theorem kf_0_10 {i : Nat} (h : kd i = 0) : kd (i + 10) = 21 := by
  have h1 := kd_by 0 (fun i => kd (i + 10) == 21) (by decide) (by decide +kernel) h
  simpa using h1
theorem kf_1_1 {i : Nat} (h : kd i = 1) : kd (i + 1) = 23 := by
  have h1 := kd_by 1 (fun i => kd (i + 1) == 23) (by decide) (by decide +kernel) h
  simpa using h1
theorem kf_1_2 {i : Nat} (h : kd i = 1) : kd (i + 2) = 23 := by
  have h1 := kd_by 1 (fun i => kd (i + 2) == 23) (by decide) (by decide +kernel) h
  simpa using h1
theorem kf_1_3 {i : Nat} (h : kd i = 1) : kd (i + 3) = 24 := by
  have h1 := kd_by 1 (fun i => kd (i + 3) == 24) (by decide) (by decide +kernel) h
  simpa using h1
theorem kf_5_4 {i : Nat} (h : kd i = 5) : kd (i + 4) = 21 := by
  have h1 := kd_by 5 (fun i => kd (i + 4) == 21) (by decide) (by decide +kernel) h
  simpa using h1
theorem kf_6_1 {i : Nat} (h : kd i = 6) : kd (i + 1) = 20 := by
  have h1 := kd_by 6 (fun i => kd (i + 1) == 20) (by decide) (by decide +kernel) h
  simpa using h1
theorem kf_6_2 {i : Nat} (h : kd i = 6) : kd (i + 2) = 20 := by
  have h1 := kd_by 6 (fun i => kd (i + 2) == 20) (by decide) (by decide +kernel) h
  simpa using h1
theorem ke_30 {i j : Nat} (h : kd i = 30) (hj : j < 20) : kd (i + 10 + j) = 2 := by
  have h1 := kd_by 30 (fun i => (List.range 20).all (fun j => kd (i + 10 + j) == 2)) (by decide) (by decide +kernel) h
  have h2 := List.all_eq_true.mp h1 j (List.mem_range.mpr hj)
  simpa using h2
theorem ke_31 {i j : Nat} (h : kd i = 31) (hj : j < 5) : kd (i + 29 + j) = 3 := by
  have h1 := kd_by 31 (fun i => (List.range 5).all (fun j => kd (i + 29 + j) == 3)) (by decide) (by decide +kernel) h
  have h2 := List.all_eq_true.mp h1 j (List.mem_range.mpr hj)
  simpa using h2
theorem ke_32 {i j : Nat} (h : kd i = 32) (hj : j < 4) : kd (i + 1 + j) = 5 := by
  have h1 := kd_by 32 (fun i => (List.range 4).all (fun j => kd (i + 1 + j) == 5)) (by decide) (by decide +kernel) h
  have h2 := List.all_eq_true.mp h1 j (List.mem_range.mpr hj)
  simpa using h2
theorem EU_0_1 {G : GX} {i : Nat} (f : Nat → Int32) (v : Int32) (h : kd i = 0) : EE G i (upd f 1 v) = .inr (0, ([.ref (G.1 (i+1)), .int (f 1), .ref (G.1 (i+2)), .int (f 3), .ref (G.1 (i+3)), .ref (G.1 (i+6)), .ref (G.1 (i+9)), .int (f 7), .ref (G.1 (i+10)), .int (f 9), .int (f 10), .int (f 11)] : List Value).set 1 (.int v)) := by rw [EE_0 _ h]; rfl
theorem EU_0_3 {G : GX} {i : Nat} (f : Nat → Int32) (v : Int32) (h : kd i = 0) : EE G i (upd f 3 v) = .inr (0, ([.ref (G.1 (i+1)), .int (f 1), .ref (G.1 (i+2)), .int (f 3), .ref (G.1 (i+3)), .ref (G.1 (i+6)), .ref (G.1 (i+9)), .int (f 7), .ref (G.1 (i+10)), .int (f 9), .int (f 10), .int (f 11)] : List Value).set 3 (.int v)) := by rw [EE_0 _ h]; rfl
theorem EU_0_7 {G : GX} {i : Nat} (f : Nat → Int32) (v : Int32) (h : kd i = 0) : EE G i (upd f 7 v) = .inr (0, ([.ref (G.1 (i+1)), .int (f 1), .ref (G.1 (i+2)), .int (f 3), .ref (G.1 (i+3)), .ref (G.1 (i+6)), .ref (G.1 (i+9)), .int (f 7), .ref (G.1 (i+10)), .int (f 9), .int (f 10), .int (f 11)] : List Value).set 7 (.int v)) := by rw [EE_0 _ h]; rfl
theorem EU_0_9 {G : GX} {i : Nat} (f : Nat → Int32) (v : Int32) (h : kd i = 0) : EE G i (upd f 9 v) = .inr (0, ([.ref (G.1 (i+1)), .int (f 1), .ref (G.1 (i+2)), .int (f 3), .ref (G.1 (i+3)), .ref (G.1 (i+6)), .ref (G.1 (i+9)), .int (f 7), .ref (G.1 (i+10)), .int (f 9), .int (f 10), .int (f 11)] : List Value).set 9 (.int v)) := by rw [EE_0 _ h]; rfl
theorem EU_0_10 {G : GX} {i : Nat} (f : Nat → Int32) (v : Int32) (h : kd i = 0) : EE G i (upd f 10 v) = .inr (0, ([.ref (G.1 (i+1)), .int (f 1), .ref (G.1 (i+2)), .int (f 3), .ref (G.1 (i+3)), .ref (G.1 (i+6)), .ref (G.1 (i+9)), .int (f 7), .ref (G.1 (i+10)), .int (f 9), .int (f 10), .int (f 11)] : List Value).set 10 (.int v)) := by rw [EE_0 _ h]; rfl
theorem EU_0_11 {G : GX} {i : Nat} (f : Nat → Int32) (v : Int32) (h : kd i = 0) : EE G i (upd f 11 v) = .inr (0, ([.ref (G.1 (i+1)), .int (f 1), .ref (G.1 (i+2)), .int (f 3), .ref (G.1 (i+3)), .ref (G.1 (i+6)), .ref (G.1 (i+9)), .int (f 7), .ref (G.1 (i+10)), .int (f 9), .int (f 10), .int (f 11)] : List Value).set 11 (.int v)) := by rw [EE_0 _ h]; rfl
theorem EU_1_3 {G : GX} {i : Nat} (f : Nat → Int32) (v : Int32) (h : kd i = 1) : EE G i (upd f 3 v) = .inr (1, ([.ref (G.1 (i+1)), .ref (G.1 (i+2)), .ref (G.1 (i+3)), .int (f 3)] : List Value).set 3 (.int v)) := by rw [EE_1 _ h]; rfl
theorem EU_2_0 {G : GX} {i : Nat} (f : Nat → Int32) (v : Int32) (h : kd i = 2) : EE G i (upd f 0 v) = .inr (2, ([.int (f 0), .int (f 1), .int (f 2), .int (f 3)] : List Value).set 0 (.int v)) := by rw [EE_2 _ h]; rfl
theorem EU_2_1 {G : GX} {i : Nat} (f : Nat → Int32) (v : Int32) (h : kd i = 2) : EE G i (upd f 1 v) = .inr (2, ([.int (f 0), .int (f 1), .int (f 2), .int (f 3)] : List Value).set 1 (.int v)) := by rw [EE_2 _ h]; rfl
theorem EU_2_2 {G : GX} {i : Nat} (f : Nat → Int32) (v : Int32) (h : kd i = 2) : EE G i (upd f 2 v) = .inr (2, ([.int (f 0), .int (f 1), .int (f 2), .int (f 3)] : List Value).set 2 (.int v)) := by rw [EE_2 _ h]; rfl
theorem EU_2_3 {G : GX} {i : Nat} (f : Nat → Int32) (v : Int32) (h : kd i = 2) : EE G i (upd f 3 v) = .inr (2, ([.int (f 0), .int (f 1), .int (f 2), .int (f 3)] : List Value).set 3 (.int v)) := by rw [EE_2 _ h]; rfl
theorem EU_3_0 {G : GX} {i : Nat} (f : Nat → Int32) (v : Int32) (h : kd i = 3) : EE G i (upd f 0 v) = .inr (3, ([.int (f 0), .int (f 1), .int (f 2), .int (f 3)] : List Value).set 0 (.int v)) := by rw [EE_3 _ h]; rfl
theorem EU_3_1 {G : GX} {i : Nat} (f : Nat → Int32) (v : Int32) (h : kd i = 3) : EE G i (upd f 1 v) = .inr (3, ([.int (f 0), .int (f 1), .int (f 2), .int (f 3)] : List Value).set 1 (.int v)) := by rw [EE_3 _ h]; rfl
theorem EU_3_2 {G : GX} {i : Nat} (f : Nat → Int32) (v : Int32) (h : kd i = 3) : EE G i (upd f 2 v) = .inr (3, ([.int (f 0), .int (f 1), .int (f 2), .int (f 3)] : List Value).set 2 (.int v)) := by rw [EE_3 _ h]; rfl
theorem EU_3_3 {G : GX} {i : Nat} (f : Nat → Int32) (v : Int32) (h : kd i = 3) : EE G i (upd f 3 v) = .inr (3, ([.int (f 0), .int (f 1), .int (f 2), .int (f 3)] : List Value).set 3 (.int v)) := by rw [EE_3 _ h]; rfl
theorem EU_4_1 {G : GX} {i : Nat} (f : Nat → Int32) (v : Int32) (h : kd i = 4) : EE G i (upd f 1 v) = .inr (4, ([.ref (G.1 110), .int (f 1), .ref (G.1 9), .int (f 3), .ref (G.2.2.2 (2 + (f 4).toNatClampNeg))] : List Value).set 1 (.int v)) := by rw [EE_4 _ h]; rfl
theorem EU_4_3 {G : GX} {i : Nat} (f : Nat → Int32) (v : Int32) (h : kd i = 4) : EE G i (upd f 3 v) = .inr (4, ([.ref (G.1 110), .int (f 1), .ref (G.1 9), .int (f 3), .ref (G.2.2.2 (2 + (f 4).toNatClampNeg))] : List Value).set 3 (.int v)) := by rw [EE_4 _ h]; rfl
theorem EU_5_1 {G : GX} {i : Nat} (f : Nat → Int32) (v : Int32) (h : kd i = 5) : EE G i (upd f 1 v) = .inr (5, ([.ref (G.1 (i+4)), .int (f 1), .int (f 2)] : List Value).set 1 (.int v)) := by rw [EE_5 _ h]; rfl
theorem EU_5_2 {G : GX} {i : Nat} (f : Nat → Int32) (v : Int32) (h : kd i = 5) : EE G i (upd f 2 v) = .inr (5, ([.ref (G.1 (i+4)), .int (f 1), .int (f 2)] : List Value).set 2 (.int v)) := by rw [EE_5 _ h]; rfl
theorem EU_6_2 {G : GX} {i : Nat} (f : Nat → Int32) (v : Int32) (h : kd i = 6) : EE G i (upd f 2 v) = .inr (6, ([.ref (G.1 (i+1)), .ref (G.1 (i+2)), .int (f 2)] : List Value).set 2 (.int v)) := by rw [EE_6 _ h]; rfl
theorem EU_7_0 {G : GX} {i : Nat} (f : Nat → Int32) (v : Int32) (h : kd i = 7) : EE G i (upd f 0 v) = .inr (7, ([.int (f 0), .int (f 1), .ref (G.1 114), .int (f 3), .int (f 4), .int (f 5)] : List Value).set 0 (.int v)) := by rw [EE_7 _ h]; rfl
theorem EU_7_1 {G : GX} {i : Nat} (f : Nat → Int32) (v : Int32) (h : kd i = 7) : EE G i (upd f 1 v) = .inr (7, ([.int (f 0), .int (f 1), .ref (G.1 114), .int (f 3), .int (f 4), .int (f 5)] : List Value).set 1 (.int v)) := by rw [EE_7 _ h]; rfl
theorem EU_7_3 {G : GX} {i : Nat} (f : Nat → Int32) (v : Int32) (h : kd i = 7) : EE G i (upd f 3 v) = .inr (7, ([.int (f 0), .int (f 1), .ref (G.1 114), .int (f 3), .int (f 4), .int (f 5)] : List Value).set 3 (.int v)) := by rw [EE_7 _ h]; rfl
theorem EU_7_4 {G : GX} {i : Nat} (f : Nat → Int32) (v : Int32) (h : kd i = 7) : EE G i (upd f 4 v) = .inr (7, ([.int (f 0), .int (f 1), .ref (G.1 114), .int (f 3), .int (f 4), .int (f 5)] : List Value).set 4 (.int v)) := by rw [EE_7 _ h]; rfl
theorem EU_7_5 {G : GX} {i : Nat} (f : Nat → Int32) (v : Int32) (h : kd i = 7) : EE G i (upd f 5 v) = .inr (7, ([.int (f 0), .int (f 1), .ref (G.1 114), .int (f 3), .int (f 4), .int (f 5)] : List Value).set 5 (.int v)) := by rw [EE_7 _ h]; rfl
theorem EU_8_8 {G : GX} {i : Nat} (f : Nat → Int32) (v : Int32) (h : kd i = 8) : EE G i (upd f 8 v) = .inr (8, ([.ref (G.1 0), .ref (G.1 36), .ref (G.1 72), .ref (G.1 109), .ref (G.1 113), .ref (G.1 115), .ref (G.1 119), .ref (G.1 128), .int (f 8)] : List Value).set 8 (.int v)) := by rw [EE_8 _ h]; rfl
theorem EU_9_3 {G : GX} {i : Nat} (f : Nat → Int32) (v : Int32) (h : kd i = 9) : EE G i (upd f 3 v) = .inr (9, ([.ref (G.1 130), .ref (G.1 131), .ref (G.1 132), .int (f 3), .ref (G.1 133), .ref (G.1 134), .ref (G.1 135), .ref (G.1 136), .ref (G.1 137), .ref (G.1 138), .ref (G.1 139), .ref (G.1 140), .int (f 12), .int (f 13), .int (f 14), .int (f 15), .int (f 16), .ref (G.1 141), .ref (G.1 142), .int (f 19), .int (f 20)] : List Value).set 3 (.int v)) := by rw [EE_9 _ h]; rfl
theorem EU_9_12 {G : GX} {i : Nat} (f : Nat → Int32) (v : Int32) (h : kd i = 9) : EE G i (upd f 12 v) = .inr (9, ([.ref (G.1 130), .ref (G.1 131), .ref (G.1 132), .int (f 3), .ref (G.1 133), .ref (G.1 134), .ref (G.1 135), .ref (G.1 136), .ref (G.1 137), .ref (G.1 138), .ref (G.1 139), .ref (G.1 140), .int (f 12), .int (f 13), .int (f 14), .int (f 15), .int (f 16), .ref (G.1 141), .ref (G.1 142), .int (f 19), .int (f 20)] : List Value).set 12 (.int v)) := by rw [EE_9 _ h]; rfl
theorem EU_9_13 {G : GX} {i : Nat} (f : Nat → Int32) (v : Int32) (h : kd i = 9) : EE G i (upd f 13 v) = .inr (9, ([.ref (G.1 130), .ref (G.1 131), .ref (G.1 132), .int (f 3), .ref (G.1 133), .ref (G.1 134), .ref (G.1 135), .ref (G.1 136), .ref (G.1 137), .ref (G.1 138), .ref (G.1 139), .ref (G.1 140), .int (f 12), .int (f 13), .int (f 14), .int (f 15), .int (f 16), .ref (G.1 141), .ref (G.1 142), .int (f 19), .int (f 20)] : List Value).set 13 (.int v)) := by rw [EE_9 _ h]; rfl
theorem EU_9_14 {G : GX} {i : Nat} (f : Nat → Int32) (v : Int32) (h : kd i = 9) : EE G i (upd f 14 v) = .inr (9, ([.ref (G.1 130), .ref (G.1 131), .ref (G.1 132), .int (f 3), .ref (G.1 133), .ref (G.1 134), .ref (G.1 135), .ref (G.1 136), .ref (G.1 137), .ref (G.1 138), .ref (G.1 139), .ref (G.1 140), .int (f 12), .int (f 13), .int (f 14), .int (f 15), .int (f 16), .ref (G.1 141), .ref (G.1 142), .int (f 19), .int (f 20)] : List Value).set 14 (.int v)) := by rw [EE_9 _ h]; rfl
theorem EU_9_15 {G : GX} {i : Nat} (f : Nat → Int32) (v : Int32) (h : kd i = 9) : EE G i (upd f 15 v) = .inr (9, ([.ref (G.1 130), .ref (G.1 131), .ref (G.1 132), .int (f 3), .ref (G.1 133), .ref (G.1 134), .ref (G.1 135), .ref (G.1 136), .ref (G.1 137), .ref (G.1 138), .ref (G.1 139), .ref (G.1 140), .int (f 12), .int (f 13), .int (f 14), .int (f 15), .int (f 16), .ref (G.1 141), .ref (G.1 142), .int (f 19), .int (f 20)] : List Value).set 15 (.int v)) := by rw [EE_9 _ h]; rfl
theorem EU_9_16 {G : GX} {i : Nat} (f : Nat → Int32) (v : Int32) (h : kd i = 9) : EE G i (upd f 16 v) = .inr (9, ([.ref (G.1 130), .ref (G.1 131), .ref (G.1 132), .int (f 3), .ref (G.1 133), .ref (G.1 134), .ref (G.1 135), .ref (G.1 136), .ref (G.1 137), .ref (G.1 138), .ref (G.1 139), .ref (G.1 140), .int (f 12), .int (f 13), .int (f 14), .int (f 15), .int (f 16), .ref (G.1 141), .ref (G.1 142), .int (f 19), .int (f 20)] : List Value).set 16 (.int v)) := by rw [EE_9 _ h]; rfl
theorem EU_9_19 {G : GX} {i : Nat} (f : Nat → Int32) (v : Int32) (h : kd i = 9) : EE G i (upd f 19 v) = .inr (9, ([.ref (G.1 130), .ref (G.1 131), .ref (G.1 132), .int (f 3), .ref (G.1 133), .ref (G.1 134), .ref (G.1 135), .ref (G.1 136), .ref (G.1 137), .ref (G.1 138), .ref (G.1 139), .ref (G.1 140), .int (f 12), .int (f 13), .int (f 14), .int (f 15), .int (f 16), .ref (G.1 141), .ref (G.1 142), .int (f 19), .int (f 20)] : List Value).set 19 (.int v)) := by rw [EE_9 _ h]; rfl
theorem EU_9_20 {G : GX} {i : Nat} (f : Nat → Int32) (v : Int32) (h : kd i = 9) : EE G i (upd f 20 v) = .inr (9, ([.ref (G.1 130), .ref (G.1 131), .ref (G.1 132), .int (f 3), .ref (G.1 133), .ref (G.1 134), .ref (G.1 135), .ref (G.1 136), .ref (G.1 137), .ref (G.1 138), .ref (G.1 139), .ref (G.1 140), .int (f 12), .int (f 13), .int (f 14), .int (f 15), .int (f 16), .ref (G.1 141), .ref (G.1 142), .int (f 19), .int (f 20)] : List Value).set 20 (.int v)) := by rw [EE_9 _ h]; rfl
theorem EU_4_4 {G : GX} {i : Nat} (f : Nat → Int32) (v : Int32) (h : kd i = 4) : EE G i (upd f 4 v) = .inr (4, ([.ref (G.1 110), .int (f 1), .ref (G.1 9), .int (f 3), .ref (G.2.2.2 (2 + (f 4).toNatClampNeg))] : List Value).set 4 (.ref (G.2.2.2 (2 + v.toNatClampNeg)))) := by rw [EE_4 _ h]; rfl

def gI (G : GX) : Prop := ∀ i j : Nat, i < 143 → j < 143 → G.1 i = G.1 j → i = j
def FA (G : GX) (sz : Nat) : Nat → Prop := fun a => (∃ i, i < 143 ∧ a = G.1 i) ∨ sz ≤ a
theorem wl_at {G : GX} {σ : MM} {k : Nat} {q : Nat × va_E} (h : (wl G σ)[k]? = some q) : k < 143 ∧ q = (G.1 k, EE G k (σ k)) := by
  have hk : k < 143 := by
    have := (List.getElem?_eq_some_iff.mp h).1
    simpa [wl] using this
  rw [wl_get hk] at h
  exact ⟨hk, (Option.some.inj h).symm⟩
theorem wl_D {G : GX} (h : gI G) (σ : MM) (sz : Nat) : va_D (FA G sz) (wl G σ) := by
  refine ⟨fun i j p q hp hq e => ?_, fun k q hq => ?_⟩
  · obtain ⟨h1, rfl⟩ := wl_at hp
    obtain ⟨h2, rfl⟩ := wl_at hq
    exact h i j h1 h2 e
  · obtain ⟨h1, rfl⟩ := wl_at hq
    exact Or.inl ⟨k, h1, rfl⟩
abbrev tyl (G : GX) : List (ClassId × FieldType) := [(G.2.2.1 0, .int), (G.2.2.1 1, .object "StairCourt$Judge"), (G.2.2.1 2, .object "StairCourt$Person"), (G.2.2.1 3, .object "StairCourt$Sheet")]
def ab_l : List Int32 := [0, 0, 0, 0, 1, 2, 0]
def bo_l : List Int32 := [10, 11, 12, 13, 20, 0, 0, 21, 0, 30, 0, 0, 0, 0, 40, 0, 50, 0, 51, 0, 0, 60, 0, 0, 70, 71, 0, 0]
/-- what never changes: the classes, the cells' places, the static rows, the two texts -/
def EV0 (G : GX) (A : Nat → Prop) (U : State) (H : Heap) : Prop :=
  va_Z "StairCourt" "ABOVE" "[I" (.ref (G.2.2.2 0)) A U H ∧ va_T .int (G.2.2.2 0) 7 (fun j => .int (ab_l.getD j 0)) A U H ∧
  va_Z "StairCourt" "BODIES" "[I" (.ref (G.2.2.2 1)) A U H ∧ va_T .int (G.2.2.2 1) 28 (fun j => .int (bo_l.getD j 0)) A U H ∧
  va_Z "java/lang/String" "COMPACT_STRINGS" "Z" (.int 1) A U H ∧
  vk_S 2 [3, 3] [[119, 115, 109], [98, 115, 107]] (fun i => G.2.2.2 (2 + i)) (fun i => G.2.2.2 (4 + i)) A U H
def EVr (G : GX) (U : State) : Prop := vk_R RX8 161 "wsm" (G.2.2.2 2) U ∧ vk_R RX8 163 "bsk" (G.2.2.2 3) U ∧ va_Nw (.fieldLinkNest RX7 55 "StairCourt" "BODIES" "[I" "StairCourt") U ∧ va_Nw (.methodLinkNest RX5 45 yX8_isWord "StairCourt") U ∧ va_Nw (.methodLinkNest RX7 48 yX8_kindAbove "StairCourt") U
def EV (G : GX) (U : State) : Prop := va_K G.2.1 vwCl (tyl G) U ∧ gI G ∧ EV0 G (FA G U.heap.size) U U.heap ∧ EVr G U
theorem EV0.moved {G : GX} {A : Nat → Prop} {u U : State} {H : Heap} (hvm : u.vm.Alike U.vm) (h : EV0 G A u H) : EV0 G A U H :=
  ⟨h.1.moved hvm, h.2.1.moved hvm, h.2.2.1.moved hvm, h.2.2.2.1.moved hvm, h.2.2.2.2.1.moved hvm, h.2.2.2.2.2.moved hvm⟩
theorem EV0.kept {G : GX} {A : Nat → Prop} {U : State} {H H1 : Heap} (h : EV0 G A U H) (hq : ∀ a : Nat, a < H.size → ¬ A a → H1[a]? = H[a]?) : EV0 G A U H1 :=
  ⟨h.1.kept hq, h.2.1.kept hq, h.2.2.1.kept hq, h.2.2.2.1.kept hq, h.2.2.2.2.1.kept hq, h.2.2.2.2.2.kept hq⟩
theorem EV0.narrow {G : GX} {A B : Nat → Prop} {U : State} {H : Heap} (h : EV0 G A U H) (hAB : ∀ q, B q → A q) : EV0 G B U H :=
  ⟨h.1.narrow hAB, h.2.1.narrow hAB, h.2.2.1.narrow hAB, h.2.2.2.1.narrow hAB, h.2.2.2.2.1.narrow hAB, h.2.2.2.2.2.narrow hAB⟩
theorem EV.call {G : GX} {s U : State} {H : Heap} {locs : List Loc} (h : EV G s) (hS : va_S (FA G s.heap.size) s.heap H locs) (hU : U.heap = H) (hW : s.WarmedH U.vm) : EV G U := by
  subst hU
  refine ⟨va_K.moved hW.alike h.1, h.2.1, ?_, h.2.2.2.1.warm hW, h.2.2.2.2.1.warm hW, h.2.2.2.2.2.1.warmF hW, h.2.2.2.2.2.2.1.warmM hW, h.2.2.2.2.2.2.2.warmM hW⟩
  refine ((h.2.2.1.kept hS.2.1).moved hW.alike).narrow ?_
  intro q hq
  rcases hq with ⟨i, h1, h2⟩ | h2
  · exact Or.inl ⟨i, h1, h2⟩
  · exact Or.inr (Nat.le_trans hS.1 h2)
theorem EV.calling {G : GX} {a : Array Value} {U : State} {g : JFrame} {mk : MethodId} (h : EV G U) : EV G (U.calling g mk a) := by
  have hvm : U.vm.Alike (U.calling g mk a).vm := Vm.Alike.refl U.vm
  exact ⟨va_K.moved (u := U) (U := U.calling g mk a) hvm h.1, h.2.1, EV0.moved (u := U) (U := U.calling g mk a) hvm h.2.2.1, vk_R.same (u := U) (U := U.calling g mk a) rfl h.2.2.2.1, vk_R.same (u := U) (U := U.calling g mk a) rfl h.2.2.2.2.1, va_Nw.same (u := U) (U := U.calling g mk a) rfl rfl h.2.2.2.2.2.1, va_Nw.same (u := U) (U := U.calling g mk a) rfl rfl h.2.2.2.2.2.2.1, va_Nw.same (u := U) (U := U.calling g mk a) rfl rfl h.2.2.2.2.2.2.2⟩
def RM (n : Nat) : Room := { frames := n, cells := 0, slots := 0, locals := 40 * n }
theorem RM_le {n k x : Nat} (h : k + 1 ≤ n) (hx : x ≤ 21) : (RM k).frames + 1 ≤ (RM n).frames ∧ 8 + (x + 11) + (RM k).locals ≤ (RM n).locals := by
  refine ⟨h, ?_⟩
  show 8 + (x + 11) + 40 * k ≤ 40 * n
  omega
def V (l : Launch) (G : GX) (n : Nat) (K : KX) (nL pc : Nat) (lv : List (Nat × Value)) (st : List Value) (σ : MM) : Prop := match K with
  | (p, e, s, m, args, below, meth, c, Q) => ∀ (H : Heap) (locs : List Loc) (ls : Array Slot), va_P G.2.1 vwCl (wl G σ) H → va_S (FA G s.heap.size) s.heap H locs → lv_has ls nL lv → W p l e (RM n) s m args below meth c H locs 0 0 Q (F0 m pc ls st)
def FX (G : GX) (K : KX) (cc : ByteArray) (own : String) (rt : Option FieldType) (Ts : List Cond) (nL : Nat) : Prop := match K with
  | (p, _, s, m, args, _, meth, c, _) => p.tables.exec = Jvm.exec ∧ c.code = cc ∧ meth.sig.returnType = rt ∧ c.maxLocals = nL ∧ s.vm.findClass own = some m.cls ∧ (∀ w ∈ Ts, w.before args s = true) ∧ meth.locks = false ∧ EV G s
def BW (G : GX) : MM → State → Prop := fun u t => va_P G.2.1 vwCl (wl G u) t.heap
def Ri (G : GX) (K : KX) (Φ : Int32 → MM → Prop) : Prop := match K with
  | (_, _, s, _, args, below, _, _, Q) => Q = MQ below (va_Qi Φ (BW G) (FA G s.heap.size)) args s 0 0 (FA G s.heap.size)
def Rl (G : GX) (K : KX) (Φ : Int64 → MM → Prop) : Prop := match K with
  | (_, _, s, _, args, below, _, _, Q) => Q = MQ below (va_Ql Φ (BW G) (FA G s.heap.size)) args s 0 0 (FA G s.heap.size)
def Rv (G : GX) (K : KX) (Φ : Unit → MM → Prop) : Prop := match K with
  | (_, _, s, _, args, below, _, _, Q) => Q = MQ below (va_Qv (Φ ()) (BW G) (FA G s.heap.size)) args s 0 0 (FA G s.heap.size)
def Rq (G : GX) (K : KX) (Φ : Option Nat → MM → Prop) : Prop := match K with
  | (_, _, s, _, args, below, _, _, Q) => Q = MQ below (va_Qe G.1 Φ (BW G) (FA G s.heap.size)) args s 0 0 (FA G s.heap.size)
def Ok {α : Type} (Φ : α → MM → Prop) (o : Option (α × MM)) : Prop := match o with
  | some (a, s) => Φ a s
  | none => False
def bd {α β : Type} (o : Option (α × MM)) (k : α → MM → Option β) : Option β := match o with
  | some (a, s) => k a s
  | none => none
theorem okn {α β : Type} {Φ : β → MM → Prop} {o : Option (α × MM)} {a : α} {s : MM} {k : α → MM → Option (β × MM)} (e : o = some (a, s)) (h : Ok Φ (bd o k)) : Ok Φ (k a s) := by subst e; exact h
theorem oks {α β : Type} {Φ : β → MM → Prop} {o : Option (α × MM)} {k : α → MM → Option (β × MM)} (h : Ok Φ (bd o k)) : o.isSome = true := by
  cases o with
  | none => exact h.elim
  | some _ => rfl
theorem okt {α : Type} {Φ : α → MM → Prop} {c : Prop} {a b : Option (α × MM)} {dc : Decidable c} (h : c) (hf : Ok Φ (@ite _ c dc a b)) : Ok Φ a := by rw [if_pos h] at hf; exact hf
theorem okf {α : Type} {Φ : α → MM → Prop} {c : Prop} {a b : Option (α × MM)} {dc : Decidable c} (h : ¬ c) (hf : Ok Φ (@ite _ c dc a b)) : Ok Φ b := by rw [if_neg h] at hf; exact hf
theorem okg {α : Type} {Φ : α → MM → Prop} {c : Prop} {b : Option (α × MM)} {dc : Decidable c} (hf : Ok Φ (@ite _ c dc none b)) : ¬ c ∧ Ok Φ b := by
  by_cases h : c
  · rw [if_pos h] at hf; exact hf.elim
  · exact ⟨h, okf h hf⟩
theorem okp {α : Type} {Φ : α → MM → Prop} {c : Prop} {b : Option (α × MM)} {dc : Decidable c} (hf : Ok Φ (@ite _ c dc b none)) : c ∧ Ok Φ b := by
  by_cases h : c
  · exact ⟨h, okt h hf⟩
  · rw [if_neg h] at hf; exact hf.elim
theorem ok0 {α : Type} {Φ : α → MM → Prop} {a : α} {s : MM} (h : Ok Φ (some (a, s))) : Φ a s := h
theorem ok_is {α : Type} {o : Option (α × MM)} (h : o.isSome = true) : Ok (fun a s => o = some (a, s)) o := by
  cases o with
  | none => cases h
  | some x => exact rfl
def IsR (v : Value) : Prop := v = .null ∨ ∃ a, v = .ref a
theorem isr_ref {a : Nat} : IsR (.ref a) := Or.inr ⟨a, rfl⟩
theorem isr_null : IsR .null := Or.inl rfl
theorem isr_re {ad : Nat → Nat} {r : Option Nat} : IsR (va_re ad r) := by
  cases r with
  | none => exact Or.inl rfl
  | some a => exact Or.inr ⟨_, rfl⟩

theorem r_iconst {l : Launch} {G : GX} {n : Nat} {K : KX} {cc : ByteArray} {own : String} {rt : Option FieldType} {Ts : List Cond} {nL : Nat} {pc : Nat} {lv : List (Nat × Value)} {st : List Value} {σ : MM} (X : FX G K cc own rt Ts nL) {i : Int} {v : Int32} (hdg : decode cc pc = .ok (.iconst i, 1)) (hv : Int32.ofInt i = v) (k : V l G n K nL (pc+1) lv (.int v :: st) σ) : V l G n K nL pc lv st σ := by
  obtain ⟨p, e, s, m, args, below, meth, c, Q⟩ := K
  obtain ⟨hx, hb, hr, hml, hown, hts, hlk, hEV⟩ := X
  intro H locs ls hP hS hl
  exact lv_iconst hx hb hdg hv (k H locs ls hP hS hl)
theorem r_bipush {l : Launch} {G : GX} {n : Nat} {K : KX} {cc : ByteArray} {own : String} {rt : Option FieldType} {Ts : List Cond} {nL : Nat} {pc : Nat} {lv : List (Nat × Value)} {st : List Value} {σ : MM} (X : FX G K cc own rt Ts nL) {i : Int} {v : Int32} (hdg : decode cc pc = .ok (.bipush i, 2)) (hv : (Int8.ofInt i).toInt32 = v) (k : V l G n K nL (pc+2) lv (.int v :: st) σ) : V l G n K nL pc lv st σ := by
  obtain ⟨p, e, s, m, args, below, meth, c, Q⟩ := K
  obtain ⟨hx, hb, hr, hml, hown, hts, hlk, hEV⟩ := X
  intro H locs ls hP hS hl
  exact lv_bipush hx hb hdg hv (k H locs ls hP hS hl)
theorem r_sipush {l : Launch} {G : GX} {n : Nat} {K : KX} {cc : ByteArray} {own : String} {rt : Option FieldType} {Ts : List Cond} {nL : Nat} {pc : Nat} {lv : List (Nat × Value)} {st : List Value} {σ : MM} (X : FX G K cc own rt Ts nL) {i : Int} {v : Int32} (hdg : decode cc pc = .ok (.sipush i, 3)) (hv : (Int16.ofInt i).toInt32 = v) (k : V l G n K nL (pc+3) lv (.int v :: st) σ) : V l G n K nL pc lv st σ := by
  obtain ⟨p, e, s, m, args, below, meth, c, Q⟩ := K
  obtain ⟨hx, hb, hr, hml, hown, hts, hlk, hEV⟩ := X
  intro H locs ls hP hS hl
  exact lv_sipush hx hb hdg hv (k H locs ls hP hS hl)
theorem r_lconst {l : Launch} {G : GX} {n : Nat} {K : KX} {cc : ByteArray} {own : String} {rt : Option FieldType} {Ts : List Cond} {nL : Nat} {pc : Nat} {lv : List (Nat × Value)} {st : List Value} {σ : MM} (X : FX G K cc own rt Ts nL) {i : Fin 2} {v : Int64} (hdg : decode cc pc = .ok (.lconst i, 1)) (hv : Int64.ofNat (i : Nat) = v) (k : V l G n K nL (pc+1) lv (.long v :: st) σ) : V l G n K nL pc lv st σ := by
  obtain ⟨p, e, s, m, args, below, meth, c, Q⟩ := K
  obtain ⟨hx, hb, hr, hml, hown, hts, hlk, hEV⟩ := X
  intro H locs ls hP hS hl
  exact lv_lconst hx hb hdg hv (k H locs ls hP hS hl)
theorem r_ldc {l : Launch} {G : GX} {n : Nat} {K : KX} {cc : ByteArray} {own : String} {rt : Option FieldType} {Ts : List Cond} {nL : Nat} {pc : Nat} {lv : List (Nat × Value)} {st : List Value} {σ : MM} (X : FX G K cc own rt Ts nL) {ix : Nat} {v : Int32} (hc : Cond.constant own ix v ∈ Ts) (hdg : decode cc pc = .ok (.ldc ix, 2)) (k : V l G n K nL (pc+2) lv (.int v :: st) σ) : V l G n K nL pc lv st σ := by
  obtain ⟨p, e, s, m, args, below, meth, c, Q⟩ := K
  obtain ⟨hx, hb, hr, hml, hown, hts, hlk, hEV⟩ := X
  intro H locs ls hP hS hl
  exact lv_ldc hx hb hown (hts _ hc) hdg (k H locs ls hP hS hl)
theorem r_ldcw {l : Launch} {G : GX} {n : Nat} {K : KX} {cc : ByteArray} {own : String} {rt : Option FieldType} {Ts : List Cond} {nL : Nat} {pc : Nat} {lv : List (Nat × Value)} {st : List Value} {σ : MM} (X : FX G K cc own rt Ts nL) {ix : Nat} {v : Int32} (hc : Cond.constant own ix v ∈ Ts) (hdg : decode cc pc = .ok (.ldc_w ix, 3)) (k : V l G n K nL (pc+3) lv (.int v :: st) σ) : V l G n K nL pc lv st σ := by
  obtain ⟨p, e, s, m, args, below, meth, c, Q⟩ := K
  obtain ⟨hx, hb, hr, hml, hown, hts, hlk, hEV⟩ := X
  intro H locs ls hP hS hl
  exact lv_ldcw hx hb hown (hts _ hc) hdg (k H locs ls hP hS hl)
theorem r_ldc2 {l : Launch} {G : GX} {n : Nat} {K : KX} {cc : ByteArray} {own : String} {rt : Option FieldType} {Ts : List Cond} {nL : Nat} {pc : Nat} {lv : List (Nat × Value)} {st : List Value} {σ : MM} (X : FX G K cc own rt Ts nL) {ix : Nat} {v : Int64} (hc : Cond.constantLong own ix v ∈ Ts) (hdg : decode cc pc = .ok (.ldc2_w ix, 3)) (k : V l G n K nL (pc+3) lv (.long v :: st) σ) : V l G n K nL pc lv st σ := by
  obtain ⟨p, e, s, m, args, below, meth, c, Q⟩ := K
  obtain ⟨hx, hb, hr, hml, hown, hts, hlk, hEV⟩ := X
  intro H locs ls hP hS hl
  exact lv_ldc2 hx hb hown (hts _ hc) hdg (k H locs ls hP hS hl)
theorem r_iload_n {l : Launch} {G : GX} {n : Nat} {K : KX} {cc : ByteArray} {own : String} {rt : Option FieldType} {Ts : List Cond} {nL : Nat} {pc : Nat} {lv : List (Nat × Value)} {st : List Value} {σ : MM} (X : FX G K cc own rt Ts nL) {k : Fin 4} {x : Int32} (hdg : decode cc pc = .ok (.iload_n k, 1)) (j : Nat) (hj : lv[j]? = some ((k : Nat), .int x)) (k : V l G n K nL (pc+1) lv (.int x :: st) σ) : V l G n K nL pc lv st σ := by
  obtain ⟨p, e, s, m, args, below, meth, c, Q⟩ := K
  obtain ⟨hx, hb, hr, hml, hown, hts, hlk, hEV⟩ := X
  intro H locs ls hP hS hl
  exact lv_iload_n hx hb hdg rfl (lv_at hl j hj) (k H locs ls hP hS hl)
theorem r_iload {l : Launch} {G : GX} {n : Nat} {K : KX} {cc : ByteArray} {own : String} {rt : Option FieldType} {Ts : List Cond} {nL : Nat} {pc : Nat} {lv : List (Nat × Value)} {st : List Value} {σ : MM} (X : FX G K cc own rt Ts nL) {i : Nat} {x : Int32} (hdg : decode cc pc = .ok (.iload i, 2)) (j : Nat) (hj : lv[j]? = some (i, .int x)) (k : V l G n K nL (pc+2) lv (.int x :: st) σ) : V l G n K nL pc lv st σ := by
  obtain ⟨p, e, s, m, args, below, meth, c, Q⟩ := K
  obtain ⟨hx, hb, hr, hml, hown, hts, hlk, hEV⟩ := X
  intro H locs ls hP hS hl
  exact lv_iload hx hb hdg (lv_at hl j hj) (k H locs ls hP hS hl)
theorem r_lload_n {l : Launch} {G : GX} {n : Nat} {K : KX} {cc : ByteArray} {own : String} {rt : Option FieldType} {Ts : List Cond} {nL : Nat} {pc : Nat} {lv : List (Nat × Value)} {st : List Value} {σ : MM} (X : FX G K cc own rt Ts nL) {k : Fin 4} {x : Int64} (hdg : decode cc pc = .ok (.lload_n k, 1)) (j : Nat) (hj : lv[j]? = some ((k : Nat), .long x)) (k : V l G n K nL (pc+1) lv (.long x :: st) σ) : V l G n K nL pc lv st σ := by
  obtain ⟨p, e, s, m, args, below, meth, c, Q⟩ := K
  obtain ⟨hx, hb, hr, hml, hown, hts, hlk, hEV⟩ := X
  intro H locs ls hP hS hl
  exact lv_lload_n hx hb hdg rfl (lv_at hl j hj) (k H locs ls hP hS hl)
theorem r_lload {l : Launch} {G : GX} {n : Nat} {K : KX} {cc : ByteArray} {own : String} {rt : Option FieldType} {Ts : List Cond} {nL : Nat} {pc : Nat} {lv : List (Nat × Value)} {st : List Value} {σ : MM} (X : FX G K cc own rt Ts nL) {i : Nat} {x : Int64} (hdg : decode cc pc = .ok (.lload i, 2)) (j : Nat) (hj : lv[j]? = some (i, .long x)) (k : V l G n K nL (pc+2) lv (.long x :: st) σ) : V l G n K nL pc lv st σ := by
  obtain ⟨p, e, s, m, args, below, meth, c, Q⟩ := K
  obtain ⟨hx, hb, hr, hml, hown, hts, hlk, hEV⟩ := X
  intro H locs ls hP hS hl
  exact lv_lload hx hb hdg (lv_at hl j hj) (k H locs ls hP hS hl)
theorem r_aload_n {l : Launch} {G : GX} {n : Nat} {K : KX} {cc : ByteArray} {own : String} {rt : Option FieldType} {Ts : List Cond} {nL : Nat} {pc : Nat} {lv : List (Nat × Value)} {st : List Value} {σ : MM} (X : FX G K cc own rt Ts nL) {k : Fin 4} {x : Value} (hdg : decode cc pc = .ok (.aload_n k, 1)) (j : Nat) (hj : lv[j]? = some ((k : Nat), x)) (hv : IsR x) (k : V l G n K nL (pc+1) lv (x :: st) σ) : V l G n K nL pc lv st σ := by
  obtain ⟨p, e, s, m, args, below, meth, c, Q⟩ := K
  obtain ⟨hx, hb, hr, hml, hown, hts, hlk, hEV⟩ := X
  intro H locs ls hP hS hl
  rcases hv with rfl | ⟨a, rfl⟩
  · exact lv_aload_nN hx hb hdg rfl (lv_at hl j hj) (k H locs ls hP hS hl)
  · exact lv_aload_n hx hb hdg rfl (lv_at hl j hj) (k H locs ls hP hS hl)
theorem r_aload {l : Launch} {G : GX} {n : Nat} {K : KX} {cc : ByteArray} {own : String} {rt : Option FieldType} {Ts : List Cond} {nL : Nat} {pc : Nat} {lv : List (Nat × Value)} {st : List Value} {σ : MM} (X : FX G K cc own rt Ts nL) {i : Nat} {x : Value} (hdg : decode cc pc = .ok (.aload i, 2)) (j : Nat) (hj : lv[j]? = some (i, x)) (hv : IsR x) (k : V l G n K nL (pc+2) lv (x :: st) σ) : V l G n K nL pc lv st σ := by
  obtain ⟨p, e, s, m, args, below, meth, c, Q⟩ := K
  obtain ⟨hx, hb, hr, hml, hown, hts, hlk, hEV⟩ := X
  intro H locs ls hP hS hl
  rcases hv with rfl | ⟨a, rfl⟩
  · exact lv_aloadN hx hb hdg (lv_at hl j hj) (k H locs ls hP hS hl)
  · exact lv_aload hx hb hdg (lv_at hl j hj) (k H locs ls hP hS hl)
theorem r_istore_n {l : Launch} {G : GX} {n : Nat} {K : KX} {cc : ByteArray} {own : String} {rt : Option FieldType} {Ts : List Cond} {nL : Nat} {pc : Nat} {lv lv' : List (Nat × Value)} {st : List Value} {σ : MM} (X : FX G K cc own rt Ts nL) {k : Fin 4} {i : Nat} {x : Int32} (hdg : decode cc pc = .ok (.istore_n k, 1)) (hi : (k : Nat) = i) (hn : i < nL) (hl' : (i, Value.int x) :: lv.filter (fun q => !(q.1 == i) && !(q.1 + 1 == i && q.2.category == 2)) = lv') (k : V l G n K nL (pc+1) lv' st σ) : V l G n K nL pc lv (.int x :: st) σ := by
  obtain ⟨p, e, s, m, args, below, meth, c, Q⟩ := K
  obtain ⟨hx, hb, hr, hml, hown, hts, hlk, hEV⟩ := X
  intro H locs ls hP hS hl
  exact lv_istore_n hx hb hdg hi hl hn hl' (fun ls hl => k H locs ls hP hS hl)
theorem r_istore {l : Launch} {G : GX} {n : Nat} {K : KX} {cc : ByteArray} {own : String} {rt : Option FieldType} {Ts : List Cond} {nL : Nat} {pc : Nat} {lv lv' : List (Nat × Value)} {st : List Value} {σ : MM} (X : FX G K cc own rt Ts nL) {i : Nat} {x : Int32} (hdg : decode cc pc = .ok (.istore i, 2)) (hn : i < nL) (hl' : (i, Value.int x) :: lv.filter (fun q => !(q.1 == i) && !(q.1 + 1 == i && q.2.category == 2)) = lv') (k : V l G n K nL (pc+2) lv' st σ) : V l G n K nL pc lv (.int x :: st) σ := by
  obtain ⟨p, e, s, m, args, below, meth, c, Q⟩ := K
  obtain ⟨hx, hb, hr, hml, hown, hts, hlk, hEV⟩ := X
  intro H locs ls hP hS hl
  exact lv_istore hx hb hdg hl hn hl' (fun ls hl => k H locs ls hP hS hl)
theorem r_lstore_n {l : Launch} {G : GX} {n : Nat} {K : KX} {cc : ByteArray} {own : String} {rt : Option FieldType} {Ts : List Cond} {nL : Nat} {pc : Nat} {lv lv' : List (Nat × Value)} {st : List Value} {σ : MM} (X : FX G K cc own rt Ts nL) {k : Fin 4} {i : Nat} {x : Int64} (hdg : decode cc pc = .ok (.lstore_n k, 1)) (hi : (k : Nat) = i) (hn : i + 1 < nL) (hl' : (i, Value.long x) :: lv.filter (fun q => !(q.1 == i) && (!(q.1 == i + 1) && !(q.1 + 1 == i && q.2.category == 2))) = lv') (k : V l G n K nL (pc+1) lv' st σ) : V l G n K nL pc lv (.long x :: st) σ := by
  obtain ⟨p, e, s, m, args, below, meth, c, Q⟩ := K
  obtain ⟨hx, hb, hr, hml, hown, hts, hlk, hEV⟩ := X
  intro H locs ls hP hS hl
  exact lv_lstore_n hx hb hdg hi hl hn hl' (fun ls hl => k H locs ls hP hS hl)
theorem r_lstore {l : Launch} {G : GX} {n : Nat} {K : KX} {cc : ByteArray} {own : String} {rt : Option FieldType} {Ts : List Cond} {nL : Nat} {pc : Nat} {lv lv' : List (Nat × Value)} {st : List Value} {σ : MM} (X : FX G K cc own rt Ts nL) {i : Nat} {x : Int64} (hdg : decode cc pc = .ok (.lstore i, 2)) (hn : i + 1 < nL) (hl' : (i, Value.long x) :: lv.filter (fun q => !(q.1 == i) && (!(q.1 == i + 1) && !(q.1 + 1 == i && q.2.category == 2))) = lv') (k : V l G n K nL (pc+2) lv' st σ) : V l G n K nL pc lv (.long x :: st) σ := by
  obtain ⟨p, e, s, m, args, below, meth, c, Q⟩ := K
  obtain ⟨hx, hb, hr, hml, hown, hts, hlk, hEV⟩ := X
  intro H locs ls hP hS hl
  exact lv_lstore hx hb hdg hl hn hl' (fun ls hl => k H locs ls hP hS hl)
theorem r_astore_n {l : Launch} {G : GX} {n : Nat} {K : KX} {cc : ByteArray} {own : String} {rt : Option FieldType} {Ts : List Cond} {nL : Nat} {pc : Nat} {lv lv' : List (Nat × Value)} {st : List Value} {σ : MM} (X : FX G K cc own rt Ts nL) {k : Fin 4} {i : Nat} {x : Value} (hdg : decode cc pc = .ok (.astore_n k, 1)) (hi : (k : Nat) = i) (hn : i < nL) (hv : IsR x) (hl' : (i, x) :: lv.filter (fun q => !(q.1 == i) && !(q.1 + 1 == i && q.2.category == 2)) = lv') (k : V l G n K nL (pc+1) lv' st σ) : V l G n K nL pc lv (x :: st) σ := by
  obtain ⟨p, e, s, m, args, below, meth, c, Q⟩ := K
  obtain ⟨hx, hb, hr, hml, hown, hts, hlk, hEV⟩ := X
  intro H locs ls hP hS hl
  rcases hv with rfl | ⟨a, rfl⟩
  · exact lv_astore_nN hx hb hdg hi hl hn hl' (fun ls hl => k H locs ls hP hS hl)
  · exact lv_astore_n hx hb hdg hi hl hn hl' (fun ls hl => k H locs ls hP hS hl)
theorem r_astore {l : Launch} {G : GX} {n : Nat} {K : KX} {cc : ByteArray} {own : String} {rt : Option FieldType} {Ts : List Cond} {nL : Nat} {pc : Nat} {lv lv' : List (Nat × Value)} {st : List Value} {σ : MM} (X : FX G K cc own rt Ts nL) {i : Nat} {x : Value} (hdg : decode cc pc = .ok (.astore i, 2)) (hn : i < nL) (hv : IsR x) (hl' : (i, x) :: lv.filter (fun q => !(q.1 == i) && !(q.1 + 1 == i && q.2.category == 2)) = lv') (k : V l G n K nL (pc+2) lv' st σ) : V l G n K nL pc lv (x :: st) σ := by
  obtain ⟨p, e, s, m, args, below, meth, c, Q⟩ := K
  obtain ⟨hx, hb, hr, hml, hown, hts, hlk, hEV⟩ := X
  intro H locs ls hP hS hl
  rcases hv with rfl | ⟨a, rfl⟩
  · exact lv_astoreN hx hb hdg hl hn hl' (fun ls hl => k H locs ls hP hS hl)
  · exact lv_astore hx hb hdg hl hn hl' (fun ls hl => k H locs ls hP hS hl)
theorem r_iinc {l : Launch} {G : GX} {n : Nat} {K : KX} {cc : ByteArray} {own : String} {rt : Option FieldType} {Ts : List Cond} {nL : Nat} {pc : Nat} {lv lv' : List (Nat × Value)} {st : List Value} {σ : MM} (X : FX G K cc own rt Ts nL) {i : Nat} {d : Int} {x v : Int32} (hdg : decode cc pc = .ok (.iinc i d, 3)) (j : Nat) (hj : lv[j]? = some (i, .int x)) (hv : x + Int32.ofInt d = v) (hn : i < nL) (hl' : (i, Value.int v) :: lv.filter (fun q => !(q.1 == i) && !(q.1 + 1 == i && q.2.category == 2)) = lv') (k : V l G n K nL (pc+3) lv' st σ) : V l G n K nL pc lv st σ := by
  obtain ⟨p, e, s, m, args, below, meth, c, Q⟩ := K
  obtain ⟨hx, hb, hr, hml, hown, hts, hlk, hEV⟩ := X
  intro H locs ls hP hS hl
  exact lv_iinc hx hb hdg hl hj hv hn hl' (fun ls hl => k H locs ls hP hS hl)
theorem r_sub {l : Launch} {G : GX} {n : Nat} {K : KX} {nL pc : Nat} {lv lv' : List (Nat × Value)} {st : List Value} {σ : MM} (ks : List Nat) (h : lv_pick lv ks = lv') (k : V l G n K nL pc lv' st σ) : V l G n K nL pc lv st σ := by
  obtain ⟨p, e, s, m, args, below, meth, c, Q⟩ := K
  intro H locs ls hP hS hl
  exact k H locs ls hP hS (lv_sub hl ks h)
theorem r_iadd {l : Launch} {G : GX} {n : Nat} {K : KX} {cc : ByteArray} {own : String} {rt : Option FieldType} {Ts : List Cond} {nL : Nat} {pc : Nat} {lv : List (Nat × Value)} {st : List Value} {σ : MM} (X : FX G K cc own rt Ts nL) {x y : Int32} (hdg : decode cc pc = .ok (.iadd, 1)) (k : V l G n K nL (pc+1) lv (.int (x + y) :: st) σ) : V l G n K nL pc lv (.int y :: .int x :: st) σ := by
  obtain ⟨p, e, s, m, args, below, meth, c, Q⟩ := K
  obtain ⟨hx, hb, hr, hml, hown, hts, hlk, hEV⟩ := X
  intro H locs ls hP hS hl
  exact lv_iadd hx hb hdg (k H locs ls hP hS hl)
theorem r_isub {l : Launch} {G : GX} {n : Nat} {K : KX} {cc : ByteArray} {own : String} {rt : Option FieldType} {Ts : List Cond} {nL : Nat} {pc : Nat} {lv : List (Nat × Value)} {st : List Value} {σ : MM} (X : FX G K cc own rt Ts nL) {x y : Int32} (hdg : decode cc pc = .ok (.isub, 1)) (k : V l G n K nL (pc+1) lv (.int (x - y) :: st) σ) : V l G n K nL pc lv (.int y :: .int x :: st) σ := by
  obtain ⟨p, e, s, m, args, below, meth, c, Q⟩ := K
  obtain ⟨hx, hb, hr, hml, hown, hts, hlk, hEV⟩ := X
  intro H locs ls hP hS hl
  exact lv_isub hx hb hdg (k H locs ls hP hS hl)
theorem r_imul {l : Launch} {G : GX} {n : Nat} {K : KX} {cc : ByteArray} {own : String} {rt : Option FieldType} {Ts : List Cond} {nL : Nat} {pc : Nat} {lv : List (Nat × Value)} {st : List Value} {σ : MM} (X : FX G K cc own rt Ts nL) {x y : Int32} (hdg : decode cc pc = .ok (.imul, 1)) (k : V l G n K nL (pc+1) lv (.int (x * y) :: st) σ) : V l G n K nL pc lv (.int y :: .int x :: st) σ := by
  obtain ⟨p, e, s, m, args, below, meth, c, Q⟩ := K
  obtain ⟨hx, hb, hr, hml, hown, hts, hlk, hEV⟩ := X
  intro H locs ls hP hS hl
  exact lv_imul hx hb hdg (k H locs ls hP hS hl)
theorem r_iand {l : Launch} {G : GX} {n : Nat} {K : KX} {cc : ByteArray} {own : String} {rt : Option FieldType} {Ts : List Cond} {nL : Nat} {pc : Nat} {lv : List (Nat × Value)} {st : List Value} {σ : MM} (X : FX G K cc own rt Ts nL) {x y : Int32} (hdg : decode cc pc = .ok (.iand, 1)) (k : V l G n K nL (pc+1) lv (.int (x &&& y) :: st) σ) : V l G n K nL pc lv (.int y :: .int x :: st) σ := by
  obtain ⟨p, e, s, m, args, below, meth, c, Q⟩ := K
  obtain ⟨hx, hb, hr, hml, hown, hts, hlk, hEV⟩ := X
  intro H locs ls hP hS hl
  exact lv_iand hx hb hdg (k H locs ls hP hS hl)
theorem r_ior {l : Launch} {G : GX} {n : Nat} {K : KX} {cc : ByteArray} {own : String} {rt : Option FieldType} {Ts : List Cond} {nL : Nat} {pc : Nat} {lv : List (Nat × Value)} {st : List Value} {σ : MM} (X : FX G K cc own rt Ts nL) {x y : Int32} (hdg : decode cc pc = .ok (.ior, 1)) (k : V l G n K nL (pc+1) lv (.int (x ||| y) :: st) σ) : V l G n K nL pc lv (.int y :: .int x :: st) σ := by
  obtain ⟨p, e, s, m, args, below, meth, c, Q⟩ := K
  obtain ⟨hx, hb, hr, hml, hown, hts, hlk, hEV⟩ := X
  intro H locs ls hP hS hl
  exact lv_ior hx hb hdg (k H locs ls hP hS hl)
theorem r_ixor {l : Launch} {G : GX} {n : Nat} {K : KX} {cc : ByteArray} {own : String} {rt : Option FieldType} {Ts : List Cond} {nL : Nat} {pc : Nat} {lv : List (Nat × Value)} {st : List Value} {σ : MM} (X : FX G K cc own rt Ts nL) {x y : Int32} (hdg : decode cc pc = .ok (.ixor, 1)) (k : V l G n K nL (pc+1) lv (.int (x ^^^ y) :: st) σ) : V l G n K nL pc lv (.int y :: .int x :: st) σ := by
  obtain ⟨p, e, s, m, args, below, meth, c, Q⟩ := K
  obtain ⟨hx, hb, hr, hml, hown, hts, hlk, hEV⟩ := X
  intro H locs ls hP hS hl
  exact lv_ixor hx hb hdg (k H locs ls hP hS hl)
theorem r_ishl {l : Launch} {G : GX} {n : Nat} {K : KX} {cc : ByteArray} {own : String} {rt : Option FieldType} {Ts : List Cond} {nL : Nat} {pc : Nat} {lv : List (Nat × Value)} {st : List Value} {σ : MM} (X : FX G K cc own rt Ts nL) {x y : Int32} (hdg : decode cc pc = .ok (.ishl, 1)) (k : V l G n K nL (pc+1) lv (.int (x <<< (y &&& 31)) :: st) σ) : V l G n K nL pc lv (.int y :: .int x :: st) σ := by
  obtain ⟨p, e, s, m, args, below, meth, c, Q⟩ := K
  obtain ⟨hx, hb, hr, hml, hown, hts, hlk, hEV⟩ := X
  intro H locs ls hP hS hl
  exact lv_ishl hx hb hdg (k H locs ls hP hS hl)
theorem r_idiv {l : Launch} {G : GX} {n : Nat} {K : KX} {cc : ByteArray} {own : String} {rt : Option FieldType} {Ts : List Cond} {nL : Nat} {pc : Nat} {lv : List (Nat × Value)} {st : List Value} {σ : MM} (X : FX G K cc own rt Ts nL) {x y : Int32} (hdg : decode cc pc = .ok (.idiv, 1)) (hne : ¬ y = 0) (k : V l G n K nL (pc+1) lv (.int (x / y) :: st) σ) : V l G n K nL pc lv (.int y :: .int x :: st) σ := by
  obtain ⟨p, e, s, m, args, below, meth, c, Q⟩ := K
  obtain ⟨hx, hb, hr, hml, hown, hts, hlk, hEV⟩ := X
  intro H locs ls hP hS hl
  exact lv_idiv hx hb hdg hne (k H locs ls hP hS hl)
theorem r_irem {l : Launch} {G : GX} {n : Nat} {K : KX} {cc : ByteArray} {own : String} {rt : Option FieldType} {Ts : List Cond} {nL : Nat} {pc : Nat} {lv : List (Nat × Value)} {st : List Value} {σ : MM} (X : FX G K cc own rt Ts nL) {x y : Int32} (hdg : decode cc pc = .ok (.irem, 1)) (hne : ¬ y = 0) (k : V l G n K nL (pc+1) lv (.int (x - x / y * y) :: st) σ) : V l G n K nL pc lv (.int y :: .int x :: st) σ := by
  obtain ⟨p, e, s, m, args, below, meth, c, Q⟩ := K
  obtain ⟨hx, hb, hr, hml, hown, hts, hlk, hEV⟩ := X
  intro H locs ls hP hS hl
  exact lv_irem hx hb hdg hne (k H locs ls hP hS hl)
theorem r_ldiv {l : Launch} {G : GX} {n : Nat} {K : KX} {cc : ByteArray} {own : String} {rt : Option FieldType} {Ts : List Cond} {nL : Nat} {pc : Nat} {lv : List (Nat × Value)} {st : List Value} {σ : MM} (X : FX G K cc own rt Ts nL) {x y : Int64} (hdg : decode cc pc = .ok (.ldiv, 1)) (hne : ¬ y = 0) (k : V l G n K nL (pc+1) lv (.long (x / y) :: st) σ) : V l G n K nL pc lv (.long y :: .long x :: st) σ := by
  obtain ⟨p, e, s, m, args, below, meth, c, Q⟩ := K
  obtain ⟨hx, hb, hr, hml, hown, hts, hlk, hEV⟩ := X
  intro H locs ls hP hS hl
  exact lv_ldiv hx hb hdg hne (k H locs ls hP hS hl)
theorem r_lrem {l : Launch} {G : GX} {n : Nat} {K : KX} {cc : ByteArray} {own : String} {rt : Option FieldType} {Ts : List Cond} {nL : Nat} {pc : Nat} {lv : List (Nat × Value)} {st : List Value} {σ : MM} (X : FX G K cc own rt Ts nL) {x y : Int64} (hdg : decode cc pc = .ok (.lrem, 1)) (hne : ¬ y = 0) (k : V l G n K nL (pc+1) lv (.long (x - x / y * y) :: st) σ) : V l G n K nL pc lv (.long y :: .long x :: st) σ := by
  obtain ⟨p, e, s, m, args, below, meth, c, Q⟩ := K
  obtain ⟨hx, hb, hr, hml, hown, hts, hlk, hEV⟩ := X
  intro H locs ls hP hS hl
  exact lv_lrem hx hb hdg hne (k H locs ls hP hS hl)
theorem r_lmul {l : Launch} {G : GX} {n : Nat} {K : KX} {cc : ByteArray} {own : String} {rt : Option FieldType} {Ts : List Cond} {nL : Nat} {pc : Nat} {lv : List (Nat × Value)} {st : List Value} {σ : MM} (X : FX G K cc own rt Ts nL) {x y : Int64} (hdg : decode cc pc = .ok (.lmul, 1)) (k : V l G n K nL (pc+1) lv (.long (x * y) :: st) σ) : V l G n K nL pc lv (.long y :: .long x :: st) σ := by
  obtain ⟨p, e, s, m, args, below, meth, c, Q⟩ := K
  obtain ⟨hx, hb, hr, hml, hown, hts, hlk, hEV⟩ := X
  intro H locs ls hP hS hl
  exact lv_lmul hx hb hdg (k H locs ls hP hS hl)
theorem r_land {l : Launch} {G : GX} {n : Nat} {K : KX} {cc : ByteArray} {own : String} {rt : Option FieldType} {Ts : List Cond} {nL : Nat} {pc : Nat} {lv : List (Nat × Value)} {st : List Value} {σ : MM} (X : FX G K cc own rt Ts nL) {x y : Int64} (hdg : decode cc pc = .ok (.land, 1)) (k : V l G n K nL (pc+1) lv (.long (x &&& y) :: st) σ) : V l G n K nL pc lv (.long y :: .long x :: st) σ := by
  obtain ⟨p, e, s, m, args, below, meth, c, Q⟩ := K
  obtain ⟨hx, hb, hr, hml, hown, hts, hlk, hEV⟩ := X
  intro H locs ls hP hS hl
  exact lv_land hx hb hdg (k H locs ls hP hS hl)
theorem r_ineg {l : Launch} {G : GX} {n : Nat} {K : KX} {cc : ByteArray} {own : String} {rt : Option FieldType} {Ts : List Cond} {nL : Nat} {pc : Nat} {lv : List (Nat × Value)} {st : List Value} {σ : MM} (X : FX G K cc own rt Ts nL) {x : Int32} (hdg : decode cc pc = .ok (.ineg, 1)) (k : V l G n K nL (pc+1) lv (.int (-x) :: st) σ) : V l G n K nL pc lv (.int x :: st) σ := by
  obtain ⟨p, e, s, m, args, below, meth, c, Q⟩ := K
  obtain ⟨hx, hb, hr, hml, hown, hts, hlk, hEV⟩ := X
  intro H locs ls hP hS hl
  exact lv_ineg hx hb hdg (k H locs ls hP hS hl)
theorem r_i2l {l : Launch} {G : GX} {n : Nat} {K : KX} {cc : ByteArray} {own : String} {rt : Option FieldType} {Ts : List Cond} {nL : Nat} {pc : Nat} {lv : List (Nat × Value)} {st : List Value} {σ : MM} (X : FX G K cc own rt Ts nL) {x : Int32} (hdg : decode cc pc = .ok (.i2l, 1)) (k : V l G n K nL (pc+1) lv (.long x.toInt64 :: st) σ) : V l G n K nL pc lv (.int x :: st) σ := by
  obtain ⟨p, e, s, m, args, below, meth, c, Q⟩ := K
  obtain ⟨hx, hb, hr, hml, hown, hts, hlk, hEV⟩ := X
  intro H locs ls hP hS hl
  exact lv_i2l hx hb hdg rfl (k H locs ls hP hS hl)
theorem r_l2i {l : Launch} {G : GX} {n : Nat} {K : KX} {cc : ByteArray} {own : String} {rt : Option FieldType} {Ts : List Cond} {nL : Nat} {pc : Nat} {lv : List (Nat × Value)} {st : List Value} {σ : MM} (X : FX G K cc own rt Ts nL) {x : Int64} (hdg : decode cc pc = .ok (.l2i, 1)) (k : V l G n K nL (pc+1) lv (.int x.toInt32 :: st) σ) : V l G n K nL pc lv (.long x :: st) σ := by
  obtain ⟨p, e, s, m, args, below, meth, c, Q⟩ := K
  obtain ⟨hx, hb, hr, hml, hown, hts, hlk, hEV⟩ := X
  intro H locs ls hP hS hl
  exact lv_l2i hx hb hdg rfl (k H locs ls hP hS hl)
theorem r_i2b {l : Launch} {G : GX} {n : Nat} {K : KX} {cc : ByteArray} {own : String} {rt : Option FieldType} {Ts : List Cond} {nL : Nat} {pc : Nat} {lv : List (Nat × Value)} {st : List Value} {σ : MM} (X : FX G K cc own rt Ts nL) {x : Int32} (hdg : decode cc pc = .ok (.i2b, 1)) (k : V l G n K nL (pc+1) lv (.int x.toInt8.toInt32 :: st) σ) : V l G n K nL pc lv (.int x :: st) σ := by
  obtain ⟨p, e, s, m, args, below, meth, c, Q⟩ := K
  obtain ⟨hx, hb, hr, hml, hown, hts, hlk, hEV⟩ := X
  intro H locs ls hP hS hl
  exact lv_i2b hx hb hdg rfl (k H locs ls hP hS hl)
theorem r_i2s {l : Launch} {G : GX} {n : Nat} {K : KX} {cc : ByteArray} {own : String} {rt : Option FieldType} {Ts : List Cond} {nL : Nat} {pc : Nat} {lv : List (Nat × Value)} {st : List Value} {σ : MM} (X : FX G K cc own rt Ts nL) {x : Int32} (hdg : decode cc pc = .ok (.i2s, 1)) (k : V l G n K nL (pc+1) lv (.int x.toInt16.toInt32 :: st) σ) : V l G n K nL pc lv (.int x :: st) σ := by
  obtain ⟨p, e, s, m, args, below, meth, c, Q⟩ := K
  obtain ⟨hx, hb, hr, hml, hown, hts, hlk, hEV⟩ := X
  intro H locs ls hP hS hl
  exact lv_i2s hx hb hdg rfl (k H locs ls hP hS hl)
theorem r_i2c {l : Launch} {G : GX} {n : Nat} {K : KX} {cc : ByteArray} {own : String} {rt : Option FieldType} {Ts : List Cond} {nL : Nat} {pc : Nat} {lv : List (Nat × Value)} {st : List Value} {σ : MM} (X : FX G K cc own rt Ts nL) {x : Int32} (hdg : decode cc pc = .ok (.i2c, 1)) (k : V l G n K nL (pc+1) lv (.int (x.toUInt32 % 65536).toInt32 :: st) σ) : V l G n K nL pc lv (.int x :: st) σ := by
  obtain ⟨p, e, s, m, args, below, meth, c, Q⟩ := K
  obtain ⟨hx, hb, hr, hml, hown, hts, hlk, hEV⟩ := X
  intro H locs ls hP hS hl
  exact lv_i2c hx hb hdg rfl (k H locs ls hP hS hl)
theorem r_iushr {l : Launch} {G : GX} {n : Nat} {K : KX} {cc : ByteArray} {own : String} {rt : Option FieldType} {Ts : List Cond} {nL : Nat} {pc : Nat} {lv : List (Nat × Value)} {st : List Value} {σ : MM} (X : FX G K cc own rt Ts nL) {x y : Int32} (hdg : decode cc pc = .ok (.iushr, 1)) (k : V l G n K nL (pc+1) lv (.int (x.toUInt32 >>> (y.toUInt32 &&& Int32.toUInt32 31)).toInt32 :: st) σ) : V l G n K nL pc lv (.int y :: .int x :: st) σ := by
  obtain ⟨p, e, s, m, args, below, meth, c, Q⟩ := K
  obtain ⟨hx, hb, hr, hml, hown, hts, hlk, hEV⟩ := X
  intro H locs ls hP hS hl
  exact lv_iushr hx hb hdg rfl (k H locs ls hP hS hl)
theorem r_lushr {l : Launch} {G : GX} {n : Nat} {K : KX} {cc : ByteArray} {own : String} {rt : Option FieldType} {Ts : List Cond} {nL : Nat} {pc : Nat} {lv : List (Nat × Value)} {st : List Value} {σ : MM} (X : FX G K cc own rt Ts nL) {x : Int64} {y : Int32} (hdg : decode cc pc = .ok (.lushr, 1)) (k : V l G n K nL (pc+1) lv (.long (x.toUInt64 >>> (y.toInt64.toUInt64 &&& Int64.toUInt64 63)).toInt64 :: st) σ) : V l G n K nL pc lv (.int y :: .long x :: st) σ := by
  obtain ⟨p, e, s, m, args, below, meth, c, Q⟩ := K
  obtain ⟨hx, hb, hr, hml, hown, hts, hlk, hEV⟩ := X
  intro H locs ls hP hS hl
  exact lv_lushr hx hb hdg rfl (k H locs ls hP hS hl)
theorem r_lshr {l : Launch} {G : GX} {n : Nat} {K : KX} {cc : ByteArray} {own : String} {rt : Option FieldType} {Ts : List Cond} {nL : Nat} {pc : Nat} {lv : List (Nat × Value)} {st : List Value} {σ : MM} (X : FX G K cc own rt Ts nL) {x : Int64} {y : Int32} (hdg : decode cc pc = .ok (.lshr, 1)) (k : V l G n K nL (pc+1) lv (.long (x >>> (y.toInt64 &&& 63)) :: st) σ) : V l G n K nL pc lv (.int y :: .long x :: st) σ := by
  obtain ⟨p, e, s, m, args, below, meth, c, Q⟩ := K
  obtain ⟨hx, hb, hr, hml, hown, hts, hlk, hEV⟩ := X
  intro H locs ls hP hS hl
  exact lv_lshr hx hb hdg rfl (k H locs ls hP hS hl)
theorem r_dup {l : Launch} {G : GX} {n : Nat} {K : KX} {cc : ByteArray} {own : String} {rt : Option FieldType} {Ts : List Cond} {nL : Nat} {pc : Nat} {lv : List (Nat × Value)} {st : List Value} {σ : MM} (X : FX G K cc own rt Ts nL) {v : Value} (hdg : decode cc pc = .ok (.dup, 1)) (hv : v.category = 1) (k : V l G n K nL (pc+1) lv (v :: v :: st) σ) : V l G n K nL pc lv (v :: st) σ := by
  obtain ⟨p, e, s, m, args, below, meth, c, Q⟩ := K
  obtain ⟨hx, hb, hr, hml, hown, hts, hlk, hEV⟩ := X
  intro H locs ls hP hS hl
  exact lv_dup hx hb hdg hv (k H locs ls hP hS hl)
theorem r_pop {l : Launch} {G : GX} {n : Nat} {K : KX} {cc : ByteArray} {own : String} {rt : Option FieldType} {Ts : List Cond} {nL : Nat} {pc : Nat} {lv : List (Nat × Value)} {st : List Value} {σ : MM} (X : FX G K cc own rt Ts nL) {v : Value} (hdg : decode cc pc = .ok (.pop, 1)) (hv : v.category = 1) (k : V l G n K nL (pc+1) lv st σ) : V l G n K nL pc lv (v :: st) σ := by
  obtain ⟨p, e, s, m, args, below, meth, c, Q⟩ := K
  obtain ⟨hx, hb, hr, hml, hown, hts, hlk, hEV⟩ := X
  intro H locs ls hP hS hl
  exact lv_pop hx hb hdg hv (k H locs ls hP hS hl)
theorem r_dup2 {l : Launch} {G : GX} {n : Nat} {K : KX} {cc : ByteArray} {own : String} {rt : Option FieldType} {Ts : List Cond} {nL : Nat} {pc : Nat} {lv : List (Nat × Value)} {st : List Value} {σ : MM} (X : FX G K cc own rt Ts nL) {va vb : Value} (hdg : decode cc pc = .ok (.dup2, 1)) (hva : va.category = 1) (hvb : vb.category = 1) (k : V l G n K nL (pc+1) lv (va :: vb :: va :: vb :: st) σ) : V l G n K nL pc lv (va :: vb :: st) σ := by
  obtain ⟨p, e, s, m, args, below, meth, c, Q⟩ := K
  obtain ⟨hx, hb, hr, hml, hown, hts, hlk, hEV⟩ := X
  intro H locs ls hP hS hl
  exact lv_dup2_11 hx hb hdg hva hvb (k H locs ls hP hS hl)
theorem r_null {l : Launch} {G : GX} {n : Nat} {K : KX} {cc : ByteArray} {own : String} {rt : Option FieldType} {Ts : List Cond} {nL : Nat} {pc : Nat} {lv : List (Nat × Value)} {st : List Value} {σ : MM} (X : FX G K cc own rt Ts nL) (hdg : decode cc pc = .ok (.aconst_null, 1)) (k : V l G n K nL (pc+1) lv (.null :: st) σ) : V l G n K nL pc lv st σ := by
  obtain ⟨p, e, s, m, args, below, meth, c, Q⟩ := K
  obtain ⟨hx, hb, hr, hml, hown, hts, hlk, hEV⟩ := X
  intro H locs ls hP hS hl
  exact lv_null hx hb hdg (k H locs ls hP hS hl)
theorem r_ifnull {l : Launch} {G : GX} {n : Nat} {K : KX} {cc : ByteArray} {own : String} {rt : Option FieldType} {Ts : List Cond} {nL : Nat} {pc : Nat} {lv : List (Nat × Value)} {st : List Value} {σ : MM} (X : FX G K cc own rt Ts nL) {x : Nat} {off : Int} (hdg : decode cc pc = .ok (.ifnull off, 3)) (k : V l G n K nL (pc+3) lv st σ) : V l G n K nL pc lv (.ref x :: st) σ := by
  obtain ⟨p, e, s, m, args, below, meth, c, Q⟩ := K
  obtain ⟨hx, hb, hr, hml, hown, hts, hlk, hEV⟩ := X
  intro H locs ls hP hS hl
  exact lv_ifnull hx hb hdg (k H locs ls hP hS hl)
theorem r_ifnullN {l : Launch} {G : GX} {n : Nat} {K : KX} {cc : ByteArray} {own : String} {rt : Option FieldType} {Ts : List Cond} {nL : Nat} {pc : Nat} {lv : List (Nat × Value)} {st : List Value} {σ : MM} (X : FX G K cc own rt Ts nL) {off : Int} {tgt : Nat} (hdg : decode cc pc = .ok (.ifnull off, 3)) (ht : (pc : Int) + off = (tgt : Int)) (k : V l G n K nL tgt lv st σ) : V l G n K nL pc lv (.null :: st) σ := by
  obtain ⟨p, e, s, m, args, below, meth, c, Q⟩ := K
  obtain ⟨hx, hb, hr, hml, hown, hts, hlk, hEV⟩ := X
  intro H locs ls hP hS hl
  exact lv_ifnullN hx hb hdg ht (k H locs ls hP hS hl)
theorem r_ifnonnull {l : Launch} {G : GX} {n : Nat} {K : KX} {cc : ByteArray} {own : String} {rt : Option FieldType} {Ts : List Cond} {nL : Nat} {pc : Nat} {lv : List (Nat × Value)} {st : List Value} {σ : MM} (X : FX G K cc own rt Ts nL) {x : Nat} {off : Int} {tgt : Nat} (hdg : decode cc pc = .ok (.ifnonnull off, 3)) (ht : (pc : Int) + off = (tgt : Int)) (k : V l G n K nL tgt lv st σ) : V l G n K nL pc lv (.ref x :: st) σ := by
  obtain ⟨p, e, s, m, args, below, meth, c, Q⟩ := K
  obtain ⟨hx, hb, hr, hml, hown, hts, hlk, hEV⟩ := X
  intro H locs ls hP hS hl
  exact lv_ifnonnull hx hb hdg ht (k H locs ls hP hS hl)
theorem r_ifnonnullN {l : Launch} {G : GX} {n : Nat} {K : KX} {cc : ByteArray} {own : String} {rt : Option FieldType} {Ts : List Cond} {nL : Nat} {pc : Nat} {lv : List (Nat × Value)} {st : List Value} {σ : MM} (X : FX G K cc own rt Ts nL) {off : Int} (hdg : decode cc pc = .ok (.ifnonnull off, 3)) (k : V l G n K nL (pc+3) lv st σ) : V l G n K nL pc lv (.null :: st) σ := by
  obtain ⟨p, e, s, m, args, below, meth, c, Q⟩ := K
  obtain ⟨hx, hb, hr, hml, hown, hts, hlk, hEV⟩ := X
  intro H locs ls hP hS hl
  exact lv_ifnonnullN hx hb hdg (k H locs ls hP hS hl)
theorem r_goto {l : Launch} {G : GX} {n : Nat} {K : KX} {cc : ByteArray} {own : String} {rt : Option FieldType} {Ts : List Cond} {nL : Nat} {pc : Nat} {lv : List (Nat × Value)} {st : List Value} {σ : MM} (X : FX G K cc own rt Ts nL) {off : Int} {tgt : Nat} (hdg : decode cc pc = .ok (.goto off, 3)) (ht : (pc : Int) + off = (tgt : Int)) (k : V l G n K nL tgt lv st σ) : V l G n K nL pc lv st σ := by
  obtain ⟨p, e, s, m, args, below, meth, c, Q⟩ := K
  obtain ⟨hx, hb, hr, hml, hown, hts, hlk, hEV⟩ := X
  intro H locs ls hP hS hl
  exact lv_goto hx hb hdg ht (k H locs ls hP hS hl)
theorem r_if_eq {l : Launch} {G : GX} {n : Nat} {K : KX} {cc : ByteArray} {own : String} {rt : Option FieldType} {Ts : List Cond} {nL : Nat} {pc : Nat} {lv : List (Nat × Value)} {st : List Value} {σ : MM} (X : FX G K cc own rt Ts nL) {x : Int32} {off : Int} {tgt : Nat} (hdg : decode cc pc = .ok (.ifCond .eq off, 3)) (ht : (pc : Int) + off = (tgt : Int)) (kt : x = 0 → V l G n K nL tgt lv st σ) (kf : ¬ x = 0 → V l G n K nL (pc+3) lv st σ) : V l G n K nL pc lv (.int x :: st) σ := by
  obtain ⟨p, e, s, m, args, below, meth, c, Q⟩ := K
  obtain ⟨hx, hb, hr, hml, hown, hts, hlk, hEV⟩ := X
  intro H locs ls hP hS hl
  exact lv_if_eq hx hb hdg ht (fun q => kt q H locs ls hP hS hl) (fun q => kf q H locs ls hP hS hl)
theorem r_icmp_eq {l : Launch} {G : GX} {n : Nat} {K : KX} {cc : ByteArray} {own : String} {rt : Option FieldType} {Ts : List Cond} {nL : Nat} {pc : Nat} {lv : List (Nat × Value)} {st : List Value} {σ : MM} (X : FX G K cc own rt Ts nL) {x y : Int32} {off : Int} {tgt : Nat} (hdg : decode cc pc = .ok (.if_icmp .eq off, 3)) (ht : (pc : Int) + off = (tgt : Int)) (kt : x = y → V l G n K nL tgt lv st σ) (kf : ¬ x = y → V l G n K nL (pc+3) lv st σ) : V l G n K nL pc lv (.int y :: .int x :: st) σ := by
  obtain ⟨p, e, s, m, args, below, meth, c, Q⟩ := K
  obtain ⟨hx, hb, hr, hml, hown, hts, hlk, hEV⟩ := X
  intro H locs ls hP hS hl
  exact lv_icmp_eq hx hb hdg ht (fun q => kt q H locs ls hP hS hl) (fun q => kf q H locs ls hP hS hl)
theorem r_if_ne {l : Launch} {G : GX} {n : Nat} {K : KX} {cc : ByteArray} {own : String} {rt : Option FieldType} {Ts : List Cond} {nL : Nat} {pc : Nat} {lv : List (Nat × Value)} {st : List Value} {σ : MM} (X : FX G K cc own rt Ts nL) {x : Int32} {off : Int} {tgt : Nat} (hdg : decode cc pc = .ok (.ifCond .ne off, 3)) (ht : (pc : Int) + off = (tgt : Int)) (kt : ¬ x = 0 → V l G n K nL tgt lv st σ) (kf : x = 0 → V l G n K nL (pc+3) lv st σ) : V l G n K nL pc lv (.int x :: st) σ := by
  obtain ⟨p, e, s, m, args, below, meth, c, Q⟩ := K
  obtain ⟨hx, hb, hr, hml, hown, hts, hlk, hEV⟩ := X
  intro H locs ls hP hS hl
  exact lv_if_ne hx hb hdg ht (fun q => kt q H locs ls hP hS hl) (fun q => kf q H locs ls hP hS hl)
theorem r_icmp_ne {l : Launch} {G : GX} {n : Nat} {K : KX} {cc : ByteArray} {own : String} {rt : Option FieldType} {Ts : List Cond} {nL : Nat} {pc : Nat} {lv : List (Nat × Value)} {st : List Value} {σ : MM} (X : FX G K cc own rt Ts nL) {x y : Int32} {off : Int} {tgt : Nat} (hdg : decode cc pc = .ok (.if_icmp .ne off, 3)) (ht : (pc : Int) + off = (tgt : Int)) (kt : ¬ x = y → V l G n K nL tgt lv st σ) (kf : x = y → V l G n K nL (pc+3) lv st σ) : V l G n K nL pc lv (.int y :: .int x :: st) σ := by
  obtain ⟨p, e, s, m, args, below, meth, c, Q⟩ := K
  obtain ⟨hx, hb, hr, hml, hown, hts, hlk, hEV⟩ := X
  intro H locs ls hP hS hl
  exact lv_icmp_ne hx hb hdg ht (fun q => kt q H locs ls hP hS hl) (fun q => kf q H locs ls hP hS hl)
theorem r_if_lt {l : Launch} {G : GX} {n : Nat} {K : KX} {cc : ByteArray} {own : String} {rt : Option FieldType} {Ts : List Cond} {nL : Nat} {pc : Nat} {lv : List (Nat × Value)} {st : List Value} {σ : MM} (X : FX G K cc own rt Ts nL) {x : Int32} {off : Int} {tgt : Nat} (hdg : decode cc pc = .ok (.ifCond .lt off, 3)) (ht : (pc : Int) + off = (tgt : Int)) (kt : x < 0 → V l G n K nL tgt lv st σ) (kf : ¬ x < 0 → V l G n K nL (pc+3) lv st σ) : V l G n K nL pc lv (.int x :: st) σ := by
  obtain ⟨p, e, s, m, args, below, meth, c, Q⟩ := K
  obtain ⟨hx, hb, hr, hml, hown, hts, hlk, hEV⟩ := X
  intro H locs ls hP hS hl
  exact lv_if_lt hx hb hdg ht (fun q => kt q H locs ls hP hS hl) (fun q => kf q H locs ls hP hS hl)
theorem r_icmp_lt {l : Launch} {G : GX} {n : Nat} {K : KX} {cc : ByteArray} {own : String} {rt : Option FieldType} {Ts : List Cond} {nL : Nat} {pc : Nat} {lv : List (Nat × Value)} {st : List Value} {σ : MM} (X : FX G K cc own rt Ts nL) {x y : Int32} {off : Int} {tgt : Nat} (hdg : decode cc pc = .ok (.if_icmp .lt off, 3)) (ht : (pc : Int) + off = (tgt : Int)) (kt : x < y → V l G n K nL tgt lv st σ) (kf : ¬ x < y → V l G n K nL (pc+3) lv st σ) : V l G n K nL pc lv (.int y :: .int x :: st) σ := by
  obtain ⟨p, e, s, m, args, below, meth, c, Q⟩ := K
  obtain ⟨hx, hb, hr, hml, hown, hts, hlk, hEV⟩ := X
  intro H locs ls hP hS hl
  exact lv_icmp_lt hx hb hdg ht (fun q => kt q H locs ls hP hS hl) (fun q => kf q H locs ls hP hS hl)
theorem r_if_ge {l : Launch} {G : GX} {n : Nat} {K : KX} {cc : ByteArray} {own : String} {rt : Option FieldType} {Ts : List Cond} {nL : Nat} {pc : Nat} {lv : List (Nat × Value)} {st : List Value} {σ : MM} (X : FX G K cc own rt Ts nL) {x : Int32} {off : Int} {tgt : Nat} (hdg : decode cc pc = .ok (.ifCond .ge off, 3)) (ht : (pc : Int) + off = (tgt : Int)) (kt : 0 ≤ x → V l G n K nL tgt lv st σ) (kf : ¬ 0 ≤ x → V l G n K nL (pc+3) lv st σ) : V l G n K nL pc lv (.int x :: st) σ := by
  obtain ⟨p, e, s, m, args, below, meth, c, Q⟩ := K
  obtain ⟨hx, hb, hr, hml, hown, hts, hlk, hEV⟩ := X
  intro H locs ls hP hS hl
  exact lv_if_ge hx hb hdg ht (fun q => kt q H locs ls hP hS hl) (fun q => kf q H locs ls hP hS hl)
theorem r_icmp_ge {l : Launch} {G : GX} {n : Nat} {K : KX} {cc : ByteArray} {own : String} {rt : Option FieldType} {Ts : List Cond} {nL : Nat} {pc : Nat} {lv : List (Nat × Value)} {st : List Value} {σ : MM} (X : FX G K cc own rt Ts nL) {x y : Int32} {off : Int} {tgt : Nat} (hdg : decode cc pc = .ok (.if_icmp .ge off, 3)) (ht : (pc : Int) + off = (tgt : Int)) (kt : y ≤ x → V l G n K nL tgt lv st σ) (kf : ¬ y ≤ x → V l G n K nL (pc+3) lv st σ) : V l G n K nL pc lv (.int y :: .int x :: st) σ := by
  obtain ⟨p, e, s, m, args, below, meth, c, Q⟩ := K
  obtain ⟨hx, hb, hr, hml, hown, hts, hlk, hEV⟩ := X
  intro H locs ls hP hS hl
  exact lv_icmp_ge hx hb hdg ht (fun q => kt q H locs ls hP hS hl) (fun q => kf q H locs ls hP hS hl)
theorem r_if_gt {l : Launch} {G : GX} {n : Nat} {K : KX} {cc : ByteArray} {own : String} {rt : Option FieldType} {Ts : List Cond} {nL : Nat} {pc : Nat} {lv : List (Nat × Value)} {st : List Value} {σ : MM} (X : FX G K cc own rt Ts nL) {x : Int32} {off : Int} {tgt : Nat} (hdg : decode cc pc = .ok (.ifCond .gt off, 3)) (ht : (pc : Int) + off = (tgt : Int)) (kt : 0 < x → V l G n K nL tgt lv st σ) (kf : ¬ 0 < x → V l G n K nL (pc+3) lv st σ) : V l G n K nL pc lv (.int x :: st) σ := by
  obtain ⟨p, e, s, m, args, below, meth, c, Q⟩ := K
  obtain ⟨hx, hb, hr, hml, hown, hts, hlk, hEV⟩ := X
  intro H locs ls hP hS hl
  exact lv_if_gt hx hb hdg ht (fun q => kt q H locs ls hP hS hl) (fun q => kf q H locs ls hP hS hl)
theorem r_icmp_gt {l : Launch} {G : GX} {n : Nat} {K : KX} {cc : ByteArray} {own : String} {rt : Option FieldType} {Ts : List Cond} {nL : Nat} {pc : Nat} {lv : List (Nat × Value)} {st : List Value} {σ : MM} (X : FX G K cc own rt Ts nL) {x y : Int32} {off : Int} {tgt : Nat} (hdg : decode cc pc = .ok (.if_icmp .gt off, 3)) (ht : (pc : Int) + off = (tgt : Int)) (kt : y < x → V l G n K nL tgt lv st σ) (kf : ¬ y < x → V l G n K nL (pc+3) lv st σ) : V l G n K nL pc lv (.int y :: .int x :: st) σ := by
  obtain ⟨p, e, s, m, args, below, meth, c, Q⟩ := K
  obtain ⟨hx, hb, hr, hml, hown, hts, hlk, hEV⟩ := X
  intro H locs ls hP hS hl
  exact lv_icmp_gt hx hb hdg ht (fun q => kt q H locs ls hP hS hl) (fun q => kf q H locs ls hP hS hl)
theorem r_if_le {l : Launch} {G : GX} {n : Nat} {K : KX} {cc : ByteArray} {own : String} {rt : Option FieldType} {Ts : List Cond} {nL : Nat} {pc : Nat} {lv : List (Nat × Value)} {st : List Value} {σ : MM} (X : FX G K cc own rt Ts nL) {x : Int32} {off : Int} {tgt : Nat} (hdg : decode cc pc = .ok (.ifCond .le off, 3)) (ht : (pc : Int) + off = (tgt : Int)) (kt : x ≤ 0 → V l G n K nL tgt lv st σ) (kf : ¬ x ≤ 0 → V l G n K nL (pc+3) lv st σ) : V l G n K nL pc lv (.int x :: st) σ := by
  obtain ⟨p, e, s, m, args, below, meth, c, Q⟩ := K
  obtain ⟨hx, hb, hr, hml, hown, hts, hlk, hEV⟩ := X
  intro H locs ls hP hS hl
  exact lv_if_le hx hb hdg ht (fun q => kt q H locs ls hP hS hl) (fun q => kf q H locs ls hP hS hl)
theorem r_icmp_le {l : Launch} {G : GX} {n : Nat} {K : KX} {cc : ByteArray} {own : String} {rt : Option FieldType} {Ts : List Cond} {nL : Nat} {pc : Nat} {lv : List (Nat × Value)} {st : List Value} {σ : MM} (X : FX G K cc own rt Ts nL) {x y : Int32} {off : Int} {tgt : Nat} (hdg : decode cc pc = .ok (.if_icmp .le off, 3)) (ht : (pc : Int) + off = (tgt : Int)) (kt : x ≤ y → V l G n K nL tgt lv st σ) (kf : ¬ x ≤ y → V l G n K nL (pc+3) lv st σ) : V l G n K nL pc lv (.int y :: .int x :: st) σ := by
  obtain ⟨p, e, s, m, args, below, meth, c, Q⟩ := K
  obtain ⟨hx, hb, hr, hml, hown, hts, hlk, hEV⟩ := X
  intro H locs ls hP hS hl
  exact lv_icmp_le hx hb hdg ht (fun q => kt q H locs ls hP hS hl) (fun q => kf q H locs ls hP hS hl)
theorem r_tableIn {l : Launch} {G : GX} {n : Nat} {K : KX} {cc : ByteArray} {own : String} {rt : Option FieldType} {Ts : List Cond} {nL : Nat} {pc : Nat} {lv : List (Nat × Value)} {st : List Value} {σ : MM} (X : FX G K cc own rt Ts nL) {dflt lo hi : Int} {offs : Array Int} {len : Nat} {x : Int32} {off : Int} {tgt : Nat} (hdg : decode cc pc = .ok (.tableswitch dflt lo hi offs, len)) (h1 : ¬ x.toInt < lo) (h2 : ¬ hi < x.toInt) (ho : offs[(x.toInt - lo).toNat]? = some off) (ht : (pc : Int) + off = (tgt : Int)) (k : V l G n K nL tgt lv st σ) : V l G n K nL pc lv (.int x :: st) σ := by
  obtain ⟨p, e, s, m, args, below, meth, c, Q⟩ := K
  obtain ⟨hx, hb, hr, hml, hown, hts, hlk, hEV⟩ := X
  intro H locs ls hP hS hl
  exact lv_tableIn hx hb hdg h1 h2 ho ht (k H locs ls hP hS hl)
theorem r_tableOut {l : Launch} {G : GX} {n : Nat} {K : KX} {cc : ByteArray} {own : String} {rt : Option FieldType} {Ts : List Cond} {nL : Nat} {pc : Nat} {lv : List (Nat × Value)} {st : List Value} {σ : MM} (X : FX G K cc own rt Ts nL) {dflt lo hi : Int} {offs : Array Int} {len : Nat} {x : Int32} {tgt : Nat} (hdg : decode cc pc = .ok (.tableswitch dflt lo hi offs, len)) (h : x.toInt < lo ∨ hi < x.toInt) (ht : (pc : Int) + dflt = (tgt : Int)) (k : V l G n K nL tgt lv st σ) : V l G n K nL pc lv (.int x :: st) σ := by
  obtain ⟨p, e, s, m, args, below, meth, c, Q⟩ := K
  obtain ⟨hx, hb, hr, hml, hown, hts, hlk, hEV⟩ := X
  intro H locs ls hP hS hl
  exact lv_tableOut hx hb hdg h ht (k H locs ls hP hS hl)
theorem r_lookup {l : Launch} {G : GX} {n : Nat} {K : KX} {cc : ByteArray} {own : String} {rt : Option FieldType} {Ts : List Cond} {nL : Nat} {pc : Nat} {lv : List (Nat × Value)} {st : List Value} {σ : MM} (X : FX G K cc own rt Ts nL) {dflt : Int} {ps : Array (Int × Int)} {len : Nat} {x : Int32} {off : Int} {tgt : Nat} (hdg : decode cc pc = .ok (.lookupswitch dflt ps, len)) (hp : (ps.toList.zip (ps.toList.drop 1)).all (fun (a, next) => a.1 < next.1) = true) (ho : Op.lookupswitch.offset ps.toList dflt x.toInt = off) (ht : (pc : Int) + off = (tgt : Int)) (k : V l G n K nL tgt lv st σ) : V l G n K nL pc lv (.int x :: st) σ := by
  obtain ⟨p, e, s, m, args, below, meth, c, Q⟩ := K
  obtain ⟨hx, hb, hr, hml, hown, hts, hlk, hEV⟩ := X
  intro H locs ls hP hS hl
  exact lv_lookup hx hb hdg hp ho ht (k H locs ls hP hS hl)
end
section
theorem r_get {l : Launch} {G : GX} {n : Nat} {K : KX} {cc : ByteArray} {own : String} {rt : Option FieldType} {Ts : List Cond} {nL : Nat} {pc : Nat} {lv : List (Nat × Value)} {st : List Value} {σ : MM} (X : FX G K cc own rt Ts nL) {C : String} {T : u_T} {N ci ix i : Nat} {fs : List Value} {v : Value} (hin : ∀ w ∈ u_ws C T N, w ∈ Ts) (hc : vwCl[ci]? = some (C, T, N)) (k : Nat) (hk : k < N) (hi : i < 143) (hE : EE G i (σ i) = .inr (ci, fs)) (hv : fs[k]? = some v) (hlink : Cond.fieldLink own ix (T k).1 (T k).2.1 (T k).2.2.1 ∈ Ts) (hdg : decode cc pc = .ok (.getfield ix, 3)) (kk : V l G n K nL (pc+3) lv (v :: st) σ) : V l G n K nL pc lv (.ref (G.1 i) :: st) σ := by
  obtain ⟨p, e, s, m, args, below, meth, c, Q⟩ := K
  obtain ⟨hx, hb, hr, hml, hown, hts, hlk, hEV⟩ := X
  intro H locs ls hP hS hl
  have hg := wl_get (G := G) (σ := σ) hi
  rw [hE] at hg
  exact va_get hx hb hts hin hown hEV.1 hP i hg hc k hk (hts _ hlink) (fun _ h => h) hv hdg (kk H locs ls hP hS hl)
theorem r_put {l : Launch} {G : GX} {n : Nat} {K : KX} {cc : ByteArray} {own : String} {rt : Option FieldType} {Ts : List Cond} {nL : Nat} {pc : Nat} {lv : List (Nat × Value)} {st : List Value} {σ : MM} (X : FX G K cc own rt Ts nL) {C : String} {T : u_T} {N ci ix i : Nat} {fs : List Value} {f : Nat → Int32} (hin : ∀ w ∈ u_ws C T N, w ∈ Ts) (ty0 : Nat → FieldType) (hty : ∀ k, k < N → parseFieldDescriptor (T k).2.2.1 = some (ty0 k)) (hnm : ∀ a, a < N → ∀ b, b < N → a ≠ b → (T a).2.1 ≠ (T b).2.1) (hc : vwCl[ci]? = some (C, T, N)) (k : Nat) (hk : k < N) (hi : i < 143) (hE : EE G i (σ i) = .inr (ci, fs)) {v : Value} (hE2 : EE G i f = .inr (ci, fs.set k v)) (hl0 : fs.length = N) (hlink : Cond.fieldLink own ix (T k).1 (T k).2.1 (T k).2.2.1 ∈ Ts) (hfin : (T k).2.2.2 = false) {ty : FieldType} (hd : parseFieldDescriptor (T k).2.2.1 = some ty) (hn : narrow ty v = v) (hfit : fits ty v = true) (hdg : decode cc pc = .ok (.putfield ix, 3)) (kk : V l G n K nL (pc+3) lv st (ma σ i f)) : V l G n K nL pc lv (v :: .ref (G.1 i) :: st) σ := by
  obtain ⟨p, e, s, m, args, below, meth, c, Q⟩ := K
  obtain ⟨hx, hb, hr, hml, hown, hts, hlk, hEV⟩ := X
  intro H locs ls hP hS hl
  have hg := wl_get (G := G) (σ := σ) hi
  rw [hE] at hg
  refine va_put hx hb hts hin ty0 hty hnm hown hEV.1 hP (wl_D hEV.2.1 σ s.heap.size) hS i hg hc k hk (hts _ hlink) (fun _ h => h) hfin hd hn hfit (by rw [hl0]; exact hk) hdg (fun H1 locs1 hP1 _ hS1 => ?_)
  rw [← hE2, wl_set f hi] at hP1
  exact kk H1 locs1 ls hP1 hS1 hl
theorem r_iald {l : Launch} {G : GX} {n : Nat} {K : KX} {cc : ByteArray} {own : String} {rt : Option FieldType} {Ts : List Cond} {nL : Nat} {pc : Nat} {lv : List (Nat × Value)} {st : List Value} {σ : MM} (X : FX G K cc own rt Ts nL) {i N jn : Nat} {j : Int32} (hi : i < 143) (hE : EE G i (σ i) = .inl (G.2.2.1 0, N, .inl (σ i))) (hjn : j.toNatClampNeg = jn) (hin : ¬ (j < 0 ∨ N ≤ j.toNatClampNeg)) (hdg : decode cc pc = .ok (.iaload, 1)) (kk : V l G n K nL (pc+1) lv (.int (σ i jn) :: st) σ) : V l G n K nL pc lv (.int j :: .ref (G.1 i) :: st) σ := by
  obtain ⟨p, e, s, m, args, below, meth, c, Q⟩ := K
  obtain ⟨hx, hb, hr, hml, hown, hts, hlk, hEV⟩ := X
  subst hjn
  intro H locs ls hP hS hl
  have hg := wl_get (G := G) (σ := σ) hi
  rw [hE] at hg
  exact va_iald hx hb hEV.1 hP i 0 hg rfl hin hdg (kk H locs ls hP hS hl)
theorem r_iast {l : Launch} {G : GX} {n : Nat} {K : KX} {cc : ByteArray} {own : String} {rt : Option FieldType} {Ts : List Cond} {nL : Nat} {pc : Nat} {lv : List (Nat × Value)} {st : List Value} {σ : MM} (X : FX G K cc own rt Ts nL) {i N jn : Nat} {j v : Int32} (hi : i < 143) (hE : ∀ f, EE G i f = .inl (G.2.2.1 0, N, .inl f)) (hjn : j.toNatClampNeg = jn) (hin : ¬ (j < 0 ∨ N ≤ j.toNatClampNeg)) (hdg : decode cc pc = .ok (.iastore, 1)) (kk : V l G n K nL (pc+1) lv st (mu σ i jn v)) : V l G n K nL pc lv (.int v :: .int j :: .ref (G.1 i) :: st) σ := by
  obtain ⟨p, e, s, m, args, below, meth, c, Q⟩ := K
  obtain ⟨hx, hb, hr, hml, hown, hts, hlk, hEV⟩ := X
  subst hjn
  intro H locs ls hP hS hl
  have hg := wl_get (G := G) (σ := σ) hi
  rw [hE] at hg
  refine va_iast hx hb hEV.1 hP (wl_D hEV.2.1 σ s.heap.size) hS i 0 hg rfl hin hdg (fun H1 locs1 hP1 _ hS1 => ?_)
  rw [← hE, wl_set _ hi] at hP1
  exact kk H1 locs1 ls hP1 hS1 hl
theorem r_alen {l : Launch} {G : GX} {n : Nat} {K : KX} {cc : ByteArray} {own : String} {rt : Option FieldType} {Ts : List Cond} {nL : Nat} {pc : Nat} {lv : List (Nat × Value)} {st : List Value} {σ : MM} (X : FX G K cc own rt Ts nL) {i N t : Nat} {cA : ClassId} {ty : FieldType} {x : (Nat → Int32) ⊕ (Nat → Int64) ⊕ (Nat → UInt32) ⊕ (Nat → UInt64) ⊕ (Nat → Option Nat)} (hi : i < 143) (hE : EE G i (σ i) = .inl (cA, N, x)) (ht : (tyl G)[t]? = some (cA, ty)) {v : Int32} (hv : Int32.ofNat N = v) (hdg : decode cc pc = .ok (.arraylength, 1)) (kk : V l G n K nL (pc+1) lv (.int v :: st) σ) : V l G n K nL pc lv (.ref (G.1 i) :: st) σ := by
  obtain ⟨p, e, s, m, args, below, meth, c, Q⟩ := K
  obtain ⟨hx, hb, hr, hml, hown, hts, hlk, hEV⟩ := X
  intro H locs ls hP hS hl
  have hg := wl_get (G := G) (σ := σ) hi
  rw [hE] at hg
  exact va_alen hx hb hEV.1 hP i t hg ht hv hdg (kk H locs ls hP hS hl)
theorem r_aald {l : Launch} {G : GX} {n : Nat} {K : KX} {cc : ByteArray} {own : String} {rt : Option FieldType} {Ts : List Cond} {nL : Nat} {pc : Nat} {lv : List (Nat × Value)} {st : List Value} {σ : MM} (X : FX G K cc own rt Ts nL) {i N t d jn : Nat} {cA : ClassId} {C : String} {j : Int32} (hi : i < 143) (hE : EE G i (σ i) = .inl (cA, N, .inr (.inr (.inr (.inr (fun j => some (G.1 (i + d + j)))))))) (ht : (tyl G)[t]? = some (cA, .object C)) (hjn : j.toNatClampNeg = jn) (hin : ¬ (j < 0 ∨ N ≤ j.toNatClampNeg)) (hdg : decode cc pc = .ok (.aaload, 1)) (kk : V l G n K nL (pc+1) lv (.ref (G.1 (i + d + jn)) :: st) σ) : V l G n K nL pc lv (.int j :: .ref (G.1 i) :: st) σ := by
  obtain ⟨p, e, s, m, args, below, meth, c, Q⟩ := K
  obtain ⟨hx, hb, hr, hml, hown, hts, hlk, hEV⟩ := X
  subst hjn
  intro H locs ls hP hS hl
  have hg := wl_get (G := G) (σ := σ) hi
  rw [hE] at hg
  exact va_aldq hx hb hEV.1 hP i t hg ht hin hdg (kk H locs ls hP hS hl)
theorem r_copy {l : Launch} {G : GX} {n : Nat} {K : KX} {cc : ByteArray} {own : String} {rt : Option FieldType} {Ts : List Cond} {nL : Nat} {pc : Nat} {lv : List (Nat × Value)} {st : List Value} {σ : MM} (X : FX G K cc own rt Ts nL) {ix i i2 N N2 spn dpn nnn : Nat} {sp dp nn : Int32} (hw1 : Cond.methodLink own ix arraycopyName ∈ Ts) (hw2 : Cond.native arraycopyName ∈ Ts) (hw3 : Cond.static arraycopyName ∈ Ts) (hw4 : Cond.initialized "java/lang/System" ∈ Ts) (hi : i < 143) (hi2 : i2 < 143) (hE : EE G i (σ i) = .inl (G.2.2.1 0, N, .inl (σ i))) (hE2 : ∀ f, EE G i2 f = .inl (G.2.2.1 0, N2, .inl f)) (es : sp.toNatClampNeg = spn) (ed : dp.toNatClampNeg = dpn) (en : nn.toNatClampNeg = nnn) (h1 : ¬ sp < 0) (h2 : ¬ dp < 0) (h3 : ¬ nn < 0) (h4 : ¬ N < spn + nnn) (h5 : ¬ N2 < dpn + nnn) (hcat : (st.map fun v => v.category).sum ≤ 8) (hnn : 2 ≤ n) (hdg : decode cc pc = .ok (.invokestatic ix, 3)) (kk : V l G n K nL (pc+3) lv st (ma σ i2 (va_cpy (σ i) (σ i2) spn dpn nnn))) : V l G n K nL pc lv (.int nn :: .int dp :: .ref (G.1 i2) :: .int sp :: .ref (G.1 i) :: st) σ := by
  obtain ⟨p, e, s, m, args, below, meth, c, Q⟩ := K
  obtain ⟨hx, hb, hr, hml, hown, hts, hlk, hEV⟩ := X
  subst es ed en
  intro H locs ls hP hS hl
  have hg := wl_get (G := G) (σ := σ) hi
  rw [hE] at hg
  have hg2 := wl_get (G := G) (σ := σ) hi2
  rw [hE2] at hg2
  have hnat : nativeFrameWords "java/lang/System" "arraycopy" 5 + 11 ≤ 60 := by decide
  refine va_copyi hx hb (by rw [hml]; exact hl.1.symm) hown (hts _ hw1) (hts _ hw2) (hts _ hw3) (hts _ hw4) hEV.1 hP (wl_D hEV.2.1 σ s.heap.size) hS i i2 0 0 hg hg2 rfl rfl rfl h1 h2 h3 (Nat.not_lt.mp h4) (Nat.not_lt.mp h5) (fun _ _ => rfl) (show 1 ≤ (RM n).frames from Nat.le_trans (by decide) hnn) (show _ ≤ (RM n).locals from (show _ ≤ 40 * n by omega)) hdg (fun H1 locs1 hP1 _ hS1 => ?_)
  rw [← hE2, wl_set _ hi2] at hP1
  exact kk H1 locs1 ls hP1 hS1 hl
theorem r_mmax {l : Launch} {G : GX} {n : Nat} {K : KX} {cc : ByteArray} {own : String} {rt : Option FieldType} {Ts : List Cond} {nL : Nat} {pc : Nat} {lv : List (Nat × Value)} {st : List Value} {σ : MM} (X : FX G K cc own rt Ts nL) {ix : Nat} {x y : Int32} (hw1 : Cond.methodLink own ix Lib.Math.max.name ∈ Ts) (hw2 : Cond.static Lib.Math.max.name ∈ Ts) (hw3 : Cond.initialized "java/lang/Math" ∈ Ts) (hw4 : Cond.code Lib.Math.max.name Lib.Math.max.code 2 (some .int) ∈ Ts) (hcat : (st.map fun v => v.category).sum ≤ 8) (hnn : 1 ≤ n) (hdg : decode cc pc = .ok (.invokestatic ix, 3)) (kk : V l G n K nL (pc+3) lv (.int (if x < y then y else x) :: st) σ) : V l G n K nL pc lv (.int y :: .int x :: st) σ := by
  obtain ⟨p, e, s, m, args, below, meth, c, Q⟩ := K
  obtain ⟨hx, hb, hr, hml, hown, hts, hlk, hEV⟩ := X
  intro H locs ls hP hS hl
  exact va_mmax hx hb (by rw [hml]; exact hl.1.symm) hown (hts _ hw1) (hts _ hw2) (hts _ hw3) (hts _ hw4) (show 1 ≤ (RM n).frames from hnn) (show _ ≤ (RM n).locals from (show _ ≤ 40 * n by omega)) (Nat.zero_le _) (Nat.zero_le _) hdg (kk H locs ls hP hS hl)
theorem r_mmin {l : Launch} {G : GX} {n : Nat} {K : KX} {cc : ByteArray} {own : String} {rt : Option FieldType} {Ts : List Cond} {nL : Nat} {pc : Nat} {lv : List (Nat × Value)} {st : List Value} {σ : MM} (X : FX G K cc own rt Ts nL) {ix : Nat} {x y : Int32} (hw1 : Cond.methodLink own ix Lib.Math.min.name ∈ Ts) (hw2 : Cond.static Lib.Math.min.name ∈ Ts) (hw3 : Cond.initialized "java/lang/Math" ∈ Ts) (hw4 : Cond.code Lib.Math.min.name Lib.Math.min.code 2 (some .int) ∈ Ts) (hcat : (st.map fun v => v.category).sum ≤ 8) (hnn : 1 ≤ n) (hdg : decode cc pc = .ok (.invokestatic ix, 3)) (kk : V l G n K nL (pc+3) lv (.int (if y < x then y else x) :: st) σ) : V l G n K nL pc lv (.int y :: .int x :: st) σ := by
  obtain ⟨p, e, s, m, args, below, meth, c, Q⟩ := K
  obtain ⟨hx, hb, hr, hml, hown, hts, hlk, hEV⟩ := X
  intro H locs ls hP hS hl
  exact va_mmin hx hb (by rw [hml]; exact hl.1.symm) hown (hts _ hw1) (hts _ hw2) (hts _ hw3) (hts _ hw4) (show 1 ≤ (RM n).frames from hnn) (show _ ≤ (RM n).locals from (show _ ≤ 40 * n by omega)) (Nat.zero_le _) (Nat.zero_le _) hdg (kk H locs ls hP hS hl)
theorem r_above {l : Launch} {G : GX} {n : Nat} {K : KX} {cc : ByteArray} {own : String} {rt : Option FieldType} {Ts : List Cond} {nL : Nat} {pc : Nat} {lv : List (Nat × Value)} {st : List Value} {σ : MM} (X : FX G K cc own rt Ts nL) {ix : Nat} (hlink : Cond.fieldLink own ix "StairCourt" "ABOVE" "[I" ∈ Ts) (hdg : decode cc pc = .ok (.getstatic ix, 3)) (kk : V l G n K nL (pc+3) lv (.ref (G.2.2.2 0) :: st) σ) : V l G n K nL pc lv st σ := by
  obtain ⟨p, e, s, m, args, below, meth, c, Q⟩ := K
  obtain ⟨hx, hb, hr, hml, hown, hts, hlk, hEV⟩ := X
  intro H locs ls hP hS hl
  exact va_gets hx hb hEV.2.2.1.1 hS hown (hts _ hlink) (fun _ h => h) hdg (kk H locs ls hP hS hl)
theorem r_bodies {l : Launch} {G : GX} {n : Nat} {K : KX} {cc : ByteArray} {own : String} {rt : Option FieldType} {Ts : List Cond} {nL : Nat} {pc : Nat} {lv : List (Nat × Value)} {st : List Value} {σ : MM} (X : FX G K cc own rt Ts nL) (how : own = RX7) (hdg : decode cc pc = .ok (.getstatic 55, 3)) (kk : V l G n K nL (pc+3) lv (.ref (G.2.2.2 1) :: st) σ) : V l G n K nL pc lv st σ := by
  obtain ⟨p, e, s, m, args, below, meth, c, Q⟩ := K
  obtain ⟨hx, hb, hr, hml, hown, hts, hlk, hEV⟩ := X
  subst how
  intro H locs ls hP hS hl
  exact va_getsN hx hb hEV.2.2.1.2.2.1 hS hown (va_Nw.use rfl hEV.2.2.2.2.2.1) (fun _ h => h) hdg (kk H locs ls hP hS hl)
theorem r_above_ld {l : Launch} {G : GX} {n : Nat} {K : KX} {cc : ByteArray} {own : String} {rt : Option FieldType} {Ts : List Cond} {nL : Nat} {pc : Nat} {lv : List (Nat × Value)} {st : List Value} {σ : MM} (X : FX G K cc own rt Ts nL) {j : Int32} (hin : ¬ (j < 0 ∨ 7 ≤ j.toNatClampNeg)) (hdg : decode cc pc = .ok (.iaload, 1)) (kk : V l G n K nL (pc+1) lv (.int (ab_l.getD j.toNatClampNeg 0) :: st) σ) : V l G n K nL pc lv (.int j :: .ref (G.2.2.2 0) :: st) σ := by
  obtain ⟨p, e, s, m, args, below, meth, c, Q⟩ := K
  obtain ⟨hx, hb, hr, hml, hown, hts, hlk, hEV⟩ := X
  intro H locs ls hP hS hl
  exact va_ti hx hb hEV.2.2.1.2.1 hS hin rfl hdg (kk H locs ls hP hS hl)
theorem r_above_len {l : Launch} {G : GX} {n : Nat} {K : KX} {cc : ByteArray} {own : String} {rt : Option FieldType} {Ts : List Cond} {nL : Nat} {pc : Nat} {lv : List (Nat × Value)} {st : List Value} {σ : MM} (X : FX G K cc own rt Ts nL) {v : Int32} (hv : Int32.ofNat 7 = v) (hdg : decode cc pc = .ok (.arraylength, 1)) (kk : V l G n K nL (pc+1) lv (.int v :: st) σ) : V l G n K nL pc lv (.ref (G.2.2.2 0) :: st) σ := by
  obtain ⟨p, e, s, m, args, below, meth, c, Q⟩ := K
  obtain ⟨hx, hb, hr, hml, hown, hts, hlk, hEV⟩ := X
  intro H locs ls hP hS hl
  exact va_tlen hx hb hEV.2.2.1.2.1 hS hv hdg (kk H locs ls hP hS hl)
theorem r_bodies_ld {l : Launch} {G : GX} {n : Nat} {K : KX} {cc : ByteArray} {own : String} {rt : Option FieldType} {Ts : List Cond} {nL : Nat} {pc : Nat} {lv : List (Nat × Value)} {st : List Value} {σ : MM} (X : FX G K cc own rt Ts nL) {j : Int32} (hin : ¬ (j < 0 ∨ 28 ≤ j.toNatClampNeg)) (hdg : decode cc pc = .ok (.iaload, 1)) (kk : V l G n K nL (pc+1) lv (.int (bo_l.getD j.toNatClampNeg 0) :: st) σ) : V l G n K nL pc lv (.int j :: .ref (G.2.2.2 1) :: st) σ := by
  obtain ⟨p, e, s, m, args, below, meth, c, Q⟩ := K
  obtain ⟨hx, hb, hr, hml, hown, hts, hlk, hEV⟩ := X
  intro H locs ls hP hS hl
  exact va_ti hx hb hEV.2.2.1.2.2.2.1 hS hin rfl hdg (kk H locs ls hP hS hl)
theorem r_bodies_len {l : Launch} {G : GX} {n : Nat} {K : KX} {cc : ByteArray} {own : String} {rt : Option FieldType} {Ts : List Cond} {nL : Nat} {pc : Nat} {lv : List (Nat × Value)} {st : List Value} {σ : MM} (X : FX G K cc own rt Ts nL) {v : Int32} (hv : Int32.ofNat 28 = v) (hdg : decode cc pc = .ok (.arraylength, 1)) (kk : V l G n K nL (pc+1) lv (.int v :: st) σ) : V l G n K nL pc lv (.ref (G.2.2.2 1) :: st) σ := by
  obtain ⟨p, e, s, m, args, below, meth, c, Q⟩ := K
  obtain ⟨hx, hb, hr, hml, hown, hts, hlk, hEV⟩ := X
  intro H locs ls hP hS hl
  exact va_tlen hx hb hEV.2.2.1.2.2.2.1 hS hv hdg (kk H locs ls hP hS hl)
/-- a method's contract: what it answers and leaves is told by o -/
def CP (G : GX) (sz : Nat) (as : List Value) (σ : MM) : Array Value → State → Prop := va_Pc as (fun U => U.heap.size = sz ∧ va_P G.2.1 vwCl (wl G σ) U.heap ∧ EV G U)
theorem CP_blind {G : GX} {sz : Nat} {as : List Value} {σ : MM} : FrameBlind (CP G sz as σ) := fun _ _ _ _ h => ⟨h.1, h.2.1, h.2.2.1, h.2.2.2.calling⟩
def CTi (l : Launch) (G : GX) (y : MethodName) (ws : List Cond) (n : Nat) (as : List Value) (σ : MM) (o : Option (Int32 × MM)) : Prop := ∀ sz, Met l y ws (RM n) (CP G sz as σ) (va_Qi (fun r u => o = some (r, u)) (BW G) (FA G sz)) 0 0 (FA G sz)
def CTl (l : Launch) (G : GX) (y : MethodName) (ws : List Cond) (n : Nat) (as : List Value) (σ : MM) (o : Option (Int64 × MM)) : Prop := ∀ sz, Met l y ws (RM n) (CP G sz as σ) (va_Ql (fun r u => o = some (r, u)) (BW G) (FA G sz)) 0 0 (FA G sz)
def CTv (l : Launch) (G : GX) (y : MethodName) (ws : List Cond) (n : Nat) (as : List Value) (σ : MM) (o : Option (Unit × MM)) : Prop := ∀ sz, Met l y ws (RM n) (CP G sz as σ) (va_Qv (fun u => o = some ((), u)) (BW G) (FA G sz)) 0 0 (FA G sz)
def CTq (l : Launch) (G : GX) (y : MethodName) (ws : List Cond) (n : Nat) (as : List Value) (σ : MM) (o : Option (Option Nat × MM)) : Prop := ∀ sz, Met l y ws (RM n) (CP G sz as σ) (va_Qe G.1 (fun r u => o = some (r, u)) (BW G) (FA G sz)) 0 0 (FA G sz)
/-- a method's own numbers: its code, its room for locals, how many arguments, its kind of answer -/
def MD (y : MethodName) (ws : List Cond) (bytes : ByteArray) (maxL k : Nat) (rt : Option FieldType) : Prop := (∃ ws', ws = Cond.code y bytes maxL rt :: ws') ∧ (y.cls ≠ "java/lang/invoke/MethodHandle" ∧ y.cls ≠ "java/lang/invoke/VarHandle" ∧ (parseMethodDescriptor y.desc).map (fun d => d.parameters.length) = some k) ∧ plainName y.cls = true ∧ maxL ≤ 21

theorem r_callVi {l : Launch} {G : GX} {n : Nat} {K : KX} {cc : ByteArray} {own : String} {rt : Option FieldType} {Ts : List Cond} {nL : Nat} {pc : Nat} {lv : List (Nat × Value)} {st : List Value} {σ : MM} (X : FX G K cc own rt Ts nL) {C : String} {T : u_T} {N ci i : Nat} {fs : List Value} {ix : Nat} {y : MethodName} {ws : List Cond} {bytes : ByteArray} {maxL k n' : Nat} {rty : Option FieldType} {As rest : List Value} {o : Option (Int32 × MM)} (hM : CTi l G y ws n' (.ref (G.1 i) :: As) σ o) (hmd : MD y ws bytes maxL k rty) (hT : GoodIn Ts (wsV own ix C y ws)) (hn : n' + 1 ≤ n) (hC : y.cls = C) (hc : vwCl[ci]? = some (C, T, N)) (hi : i < 143) (hE : EE G i (σ i) = .inr (ci, fs)) (hk : As.length = k) (hst : st = As.reverse ++ .ref (G.1 i) :: rest) (hcat : (rest.map fun v => v.category).sum ≤ 8) (hdg : decode cc pc = .ok (.invokevirtual ix, 3)) (kk : ∀ (r : Int32) (u : MM), o = some (r, u) → V l G n K nL (pc + 3) lv (.int r :: rest) u) : V l G n K nL pc lv st σ := by
  obtain ⟨p, e, s, m, args, below, meth, c, Q⟩ := K
  obtain ⟨hx, hb, hr, hml, hown, hts, hlk, hEV⟩ := X
  subst hst
  intro H locs ls hP hS hl
  obtain ⟨⟨ws', hws⟩, hmd, -, hmx⟩ := hmd
  have hg := wl_get (G := G) (σ := σ) hi
  rw [hE] at hg
  have hA : ∀ q, FA G H.size q → FA G s.heap.size q := fun q hq => hq.elim (fun h => Or.inl h) (fun h => Or.inr (Nat.le_trans hS.1 h))
  refine va_calli (va_runV (As := As) (rest := rest) ⟨hx, hb, hml, hown, hts⟩ (hM H.size) (cwV k hts hT hws rfl rfl ⟨hC, hmd⟩ (RM_le hn hmx)) ⟨CP_blind, va_recv hEV.1 hP (ci := ci) (q0 := i) hc hg, fun U hU hW => ⟨rfl, by rw [hU], by rw [hU]; exact hP, hEV.call hS hU hW⟩⟩ rfl hk hl.1 rfl (lv_room hcat) hdg ⟨Nat.le_refl _, Nat.le_refl _⟩) hS (fun q _ h => hA q h) hA (fun r u t H1 locs1 ht hvm hw hB hz1 hk1 hS1 => ?_)
  have hP1 : va_P G.2.1 vwCl (wl G u) H1 := by rw [← ht]; exact hB
  exact kk r u hw H1 locs1 ls hP1 hS1 hl
theorem r_callSi {l : Launch} {G : GX} {n : Nat} {K : KX} {cc : ByteArray} {own : String} {rt : Option FieldType} {Ts : List Cond} {nL : Nat} {pc : Nat} {lv : List (Nat × Value)} {st : List Value} {σ : MM} (X : FX G K cc own rt Ts nL) {ix : Nat} {y : MethodName} {ws : List Cond} {bytes : ByteArray} {maxL k n' : Nat} {rty : Option FieldType} {As rest : List Value} {o : Option (Int32 × MM)} (hM : CTi l G y ws n' (As) σ o) (hmd : MD y ws bytes maxL k rty) (hT : GoodIn Ts (va_wsS own ix y ws)) (hn : n' + 1 ≤ n)  (hk : As.length = k) (hst : st = As.reverse ++ rest) (hcat : (rest.map fun v => v.category).sum ≤ 8) (hdg : decode cc pc = .ok (.invokestatic ix, 3)) (kk : ∀ (r : Int32) (u : MM), o = some (r, u) → V l G n K nL (pc + 3) lv (.int r :: rest) u) : V l G n K nL pc lv st σ := by
  obtain ⟨p, e, s, m, args, below, meth, c, Q⟩ := K
  obtain ⟨hx, hb, hr, hml, hown, hts, hlk, hEV⟩ := X
  subst hst
  intro H locs ls hP hS hl
  obtain ⟨⟨ws', hws⟩, hmd, -, hmx⟩ := hmd
  have hA : ∀ q, FA G H.size q → FA G s.heap.size q := fun q hq => hq.elim (fun h => Or.inl h) (fun h => Or.inr (Nat.le_trans hS.1 h))
  refine va_calli (va_runS (As := As) (rest := rest) ⟨hx, hb, hml, hown, hts⟩ (hM H.size) (va_cwS k hts hT hws rfl rfl hmd (RM_le hn hmx)) ⟨CP_blind, fun U hU hW => ⟨rfl, by rw [hU], by rw [hU]; exact hP, hEV.call hS hU hW⟩⟩ rfl hk hl.1 rfl (lv_room hcat) hdg ⟨Nat.le_refl _, Nat.le_refl _⟩) hS (fun q _ h => hA q h) hA (fun r u t H1 locs1 ht hvm hw hB hz1 hk1 hS1 => ?_)
  have hP1 : va_P G.2.1 vwCl (wl G u) H1 := by rw [← ht]; exact hB
  exact kk r u hw H1 locs1 ls hP1 hS1 hl
theorem r_callVl {l : Launch} {G : GX} {n : Nat} {K : KX} {cc : ByteArray} {own : String} {rt : Option FieldType} {Ts : List Cond} {nL : Nat} {pc : Nat} {lv : List (Nat × Value)} {st : List Value} {σ : MM} (X : FX G K cc own rt Ts nL) {C : String} {T : u_T} {N ci i : Nat} {fs : List Value} {ix : Nat} {y : MethodName} {ws : List Cond} {bytes : ByteArray} {maxL k n' : Nat} {rty : Option FieldType} {As rest : List Value} {o : Option (Int64 × MM)} (hM : CTl l G y ws n' (.ref (G.1 i) :: As) σ o) (hmd : MD y ws bytes maxL k rty) (hT : GoodIn Ts (wsV own ix C y ws)) (hn : n' + 1 ≤ n) (hC : y.cls = C) (hc : vwCl[ci]? = some (C, T, N)) (hi : i < 143) (hE : EE G i (σ i) = .inr (ci, fs)) (hk : As.length = k) (hst : st = As.reverse ++ .ref (G.1 i) :: rest) (hcat : (rest.map fun v => v.category).sum ≤ 8) (hdg : decode cc pc = .ok (.invokevirtual ix, 3)) (kk : ∀ (r : Int64) (u : MM), o = some (r, u) → V l G n K nL (pc + 3) lv (.long r :: rest) u) : V l G n K nL pc lv st σ := by
  obtain ⟨p, e, s, m, args, below, meth, c, Q⟩ := K
  obtain ⟨hx, hb, hr, hml, hown, hts, hlk, hEV⟩ := X
  subst hst
  intro H locs ls hP hS hl
  obtain ⟨⟨ws', hws⟩, hmd, -, hmx⟩ := hmd
  have hg := wl_get (G := G) (σ := σ) hi
  rw [hE] at hg
  have hA : ∀ q, FA G H.size q → FA G s.heap.size q := fun q hq => hq.elim (fun h => Or.inl h) (fun h => Or.inr (Nat.le_trans hS.1 h))
  refine va_calll (va_runV (As := As) (rest := rest) ⟨hx, hb, hml, hown, hts⟩ (hM H.size) (cwV k hts hT hws rfl rfl ⟨hC, hmd⟩ (RM_le hn hmx)) ⟨CP_blind, va_recv hEV.1 hP (ci := ci) (q0 := i) hc hg, fun U hU hW => ⟨rfl, by rw [hU], by rw [hU]; exact hP, hEV.call hS hU hW⟩⟩ rfl hk hl.1 rfl (lv_room hcat) hdg ⟨Nat.le_refl _, Nat.le_refl _⟩) hS (fun q _ h => hA q h) hA (fun r u t H1 locs1 ht hvm hw hB hz1 hk1 hS1 => ?_)
  have hP1 : va_P G.2.1 vwCl (wl G u) H1 := by rw [← ht]; exact hB
  exact kk r u hw H1 locs1 ls hP1 hS1 hl
theorem r_callSl {l : Launch} {G : GX} {n : Nat} {K : KX} {cc : ByteArray} {own : String} {rt : Option FieldType} {Ts : List Cond} {nL : Nat} {pc : Nat} {lv : List (Nat × Value)} {st : List Value} {σ : MM} (X : FX G K cc own rt Ts nL) {ix : Nat} {y : MethodName} {ws : List Cond} {bytes : ByteArray} {maxL k n' : Nat} {rty : Option FieldType} {As rest : List Value} {o : Option (Int64 × MM)} (hM : CTl l G y ws n' (As) σ o) (hmd : MD y ws bytes maxL k rty) (hT : GoodIn Ts (va_wsS own ix y ws)) (hn : n' + 1 ≤ n)  (hk : As.length = k) (hst : st = As.reverse ++ rest) (hcat : (rest.map fun v => v.category).sum ≤ 8) (hdg : decode cc pc = .ok (.invokestatic ix, 3)) (kk : ∀ (r : Int64) (u : MM), o = some (r, u) → V l G n K nL (pc + 3) lv (.long r :: rest) u) : V l G n K nL pc lv st σ := by
  obtain ⟨p, e, s, m, args, below, meth, c, Q⟩ := K
  obtain ⟨hx, hb, hr, hml, hown, hts, hlk, hEV⟩ := X
  subst hst
  intro H locs ls hP hS hl
  obtain ⟨⟨ws', hws⟩, hmd, -, hmx⟩ := hmd
  have hA : ∀ q, FA G H.size q → FA G s.heap.size q := fun q hq => hq.elim (fun h => Or.inl h) (fun h => Or.inr (Nat.le_trans hS.1 h))
  refine va_calll (va_runS (As := As) (rest := rest) ⟨hx, hb, hml, hown, hts⟩ (hM H.size) (va_cwS k hts hT hws rfl rfl hmd (RM_le hn hmx)) ⟨CP_blind, fun U hU hW => ⟨rfl, by rw [hU], by rw [hU]; exact hP, hEV.call hS hU hW⟩⟩ rfl hk hl.1 rfl (lv_room hcat) hdg ⟨Nat.le_refl _, Nat.le_refl _⟩) hS (fun q _ h => hA q h) hA (fun r u t H1 locs1 ht hvm hw hB hz1 hk1 hS1 => ?_)
  have hP1 : va_P G.2.1 vwCl (wl G u) H1 := by rw [← ht]; exact hB
  exact kk r u hw H1 locs1 ls hP1 hS1 hl
theorem r_callVv {l : Launch} {G : GX} {n : Nat} {K : KX} {cc : ByteArray} {own : String} {rt : Option FieldType} {Ts : List Cond} {nL : Nat} {pc : Nat} {lv : List (Nat × Value)} {st : List Value} {σ : MM} (X : FX G K cc own rt Ts nL) {C : String} {T : u_T} {N ci i : Nat} {fs : List Value} {ix : Nat} {y : MethodName} {ws : List Cond} {bytes : ByteArray} {maxL k n' : Nat} {rty : Option FieldType} {As rest : List Value} {o : Option (Unit × MM)} (hM : CTv l G y ws n' (.ref (G.1 i) :: As) σ o) (hmd : MD y ws bytes maxL k rty) (hT : GoodIn Ts (wsV own ix C y ws)) (hn : n' + 1 ≤ n) (hC : y.cls = C) (hc : vwCl[ci]? = some (C, T, N)) (hi : i < 143) (hE : EE G i (σ i) = .inr (ci, fs)) (hk : As.length = k) (hst : st = As.reverse ++ .ref (G.1 i) :: rest) (hcat : (rest.map fun v => v.category).sum ≤ 8) (hdg : decode cc pc = .ok (.invokevirtual ix, 3)) (kk : ∀ (r : Unit) (u : MM), o = some (r, u) → V l G n K nL (pc + 3) lv (rest) u) : V l G n K nL pc lv st σ := by
  obtain ⟨p, e, s, m, args, below, meth, c, Q⟩ := K
  obtain ⟨hx, hb, hr, hml, hown, hts, hlk, hEV⟩ := X
  subst hst
  intro H locs ls hP hS hl
  obtain ⟨⟨ws', hws⟩, hmd, -, hmx⟩ := hmd
  have hg := wl_get (G := G) (σ := σ) hi
  rw [hE] at hg
  have hA : ∀ q, FA G H.size q → FA G s.heap.size q := fun q hq => hq.elim (fun h => Or.inl h) (fun h => Or.inr (Nat.le_trans hS.1 h))
  refine va_callv (va_runV (As := As) (rest := rest) ⟨hx, hb, hml, hown, hts⟩ (hM H.size) (cwV k hts hT hws rfl rfl ⟨hC, hmd⟩ (RM_le hn hmx)) ⟨CP_blind, va_recv hEV.1 hP (ci := ci) (q0 := i) hc hg, fun U hU hW => ⟨rfl, by rw [hU], by rw [hU]; exact hP, hEV.call hS hU hW⟩⟩ rfl hk hl.1 rfl (lv_room hcat) hdg ⟨Nat.le_refl _, Nat.le_refl _⟩) hS (fun q _ h => hA q h) hA (fun u t H1 locs1 ht hvm hw hB hz1 hk1 hS1 => ?_)
  have hP1 : va_P G.2.1 vwCl (wl G u) H1 := by rw [← ht]; exact hB
  exact kk () u hw H1 locs1 ls hP1 hS1 hl
theorem r_callSv {l : Launch} {G : GX} {n : Nat} {K : KX} {cc : ByteArray} {own : String} {rt : Option FieldType} {Ts : List Cond} {nL : Nat} {pc : Nat} {lv : List (Nat × Value)} {st : List Value} {σ : MM} (X : FX G K cc own rt Ts nL) {ix : Nat} {y : MethodName} {ws : List Cond} {bytes : ByteArray} {maxL k n' : Nat} {rty : Option FieldType} {As rest : List Value} {o : Option (Unit × MM)} (hM : CTv l G y ws n' (As) σ o) (hmd : MD y ws bytes maxL k rty) (hT : GoodIn Ts (va_wsS own ix y ws)) (hn : n' + 1 ≤ n)  (hk : As.length = k) (hst : st = As.reverse ++ rest) (hcat : (rest.map fun v => v.category).sum ≤ 8) (hdg : decode cc pc = .ok (.invokestatic ix, 3)) (kk : ∀ (r : Unit) (u : MM), o = some (r, u) → V l G n K nL (pc + 3) lv (rest) u) : V l G n K nL pc lv st σ := by
  obtain ⟨p, e, s, m, args, below, meth, c, Q⟩ := K
  obtain ⟨hx, hb, hr, hml, hown, hts, hlk, hEV⟩ := X
  subst hst
  intro H locs ls hP hS hl
  obtain ⟨⟨ws', hws⟩, hmd, -, hmx⟩ := hmd
  have hA : ∀ q, FA G H.size q → FA G s.heap.size q := fun q hq => hq.elim (fun h => Or.inl h) (fun h => Or.inr (Nat.le_trans hS.1 h))
  refine va_callv (va_runS (As := As) (rest := rest) ⟨hx, hb, hml, hown, hts⟩ (hM H.size) (va_cwS k hts hT hws rfl rfl hmd (RM_le hn hmx)) ⟨CP_blind, fun U hU hW => ⟨rfl, by rw [hU], by rw [hU]; exact hP, hEV.call hS hU hW⟩⟩ rfl hk hl.1 rfl (lv_room hcat) hdg ⟨Nat.le_refl _, Nat.le_refl _⟩) hS (fun q _ h => hA q h) hA (fun u t H1 locs1 ht hvm hw hB hz1 hk1 hS1 => ?_)
  have hP1 : va_P G.2.1 vwCl (wl G u) H1 := by rw [← ht]; exact hB
  exact kk () u hw H1 locs1 ls hP1 hS1 hl
theorem r_callVq {l : Launch} {G : GX} {n : Nat} {K : KX} {cc : ByteArray} {own : String} {rt : Option FieldType} {Ts : List Cond} {nL : Nat} {pc : Nat} {lv : List (Nat × Value)} {st : List Value} {σ : MM} (X : FX G K cc own rt Ts nL) {C : String} {T : u_T} {N ci i : Nat} {fs : List Value} {ix : Nat} {y : MethodName} {ws : List Cond} {bytes : ByteArray} {maxL k n' : Nat} {rty : Option FieldType} {As rest : List Value} {o : Option (Option Nat × MM)} (hM : CTq l G y ws n' (.ref (G.1 i) :: As) σ o) (hmd : MD y ws bytes maxL k rty) (hT : GoodIn Ts (wsV own ix C y ws)) (hn : n' + 1 ≤ n) (hC : y.cls = C) (hc : vwCl[ci]? = some (C, T, N)) (hi : i < 143) (hE : EE G i (σ i) = .inr (ci, fs)) (hk : As.length = k) (hst : st = As.reverse ++ .ref (G.1 i) :: rest) (hcat : (rest.map fun v => v.category).sum ≤ 8) (hdg : decode cc pc = .ok (.invokevirtual ix, 3)) (kk : ∀ (r : Option Nat) (u : MM), o = some (r, u) → V l G n K nL (pc + 3) lv (va_re G.1 r :: rest) u) : V l G n K nL pc lv st σ := by
  obtain ⟨p, e, s, m, args, below, meth, c, Q⟩ := K
  obtain ⟨hx, hb, hr, hml, hown, hts, hlk, hEV⟩ := X
  subst hst
  intro H locs ls hP hS hl
  obtain ⟨⟨ws', hws⟩, hmd, -, hmx⟩ := hmd
  have hg := wl_get (G := G) (σ := σ) hi
  rw [hE] at hg
  have hA : ∀ q, FA G H.size q → FA G s.heap.size q := fun q hq => hq.elim (fun h => Or.inl h) (fun h => Or.inr (Nat.le_trans hS.1 h))
  refine va_calle (va_runV (As := As) (rest := rest) ⟨hx, hb, hml, hown, hts⟩ (hM H.size) (cwV k hts hT hws rfl rfl ⟨hC, hmd⟩ (RM_le hn hmx)) ⟨CP_blind, va_recv hEV.1 hP (ci := ci) (q0 := i) hc hg, fun U hU hW => ⟨rfl, by rw [hU], by rw [hU]; exact hP, hEV.call hS hU hW⟩⟩ rfl hk hl.1 rfl (lv_room hcat) hdg ⟨Nat.le_refl _, Nat.le_refl _⟩) hS (fun q _ h => hA q h) hA (fun r u t H1 locs1 ht hvm hw hB hz1 hk1 hS1 => ?_)
  have hP1 : va_P G.2.1 vwCl (wl G u) H1 := by rw [← ht]; exact hB
  exact kk r u hw H1 locs1 ls hP1 hS1 hl
theorem r_callSq {l : Launch} {G : GX} {n : Nat} {K : KX} {cc : ByteArray} {own : String} {rt : Option FieldType} {Ts : List Cond} {nL : Nat} {pc : Nat} {lv : List (Nat × Value)} {st : List Value} {σ : MM} (X : FX G K cc own rt Ts nL) {ix : Nat} {y : MethodName} {ws : List Cond} {bytes : ByteArray} {maxL k n' : Nat} {rty : Option FieldType} {As rest : List Value} {o : Option (Option Nat × MM)} (hM : CTq l G y ws n' (As) σ o) (hmd : MD y ws bytes maxL k rty) (hT : GoodIn Ts (va_wsS own ix y ws)) (hn : n' + 1 ≤ n)  (hk : As.length = k) (hst : st = As.reverse ++ rest) (hcat : (rest.map fun v => v.category).sum ≤ 8) (hdg : decode cc pc = .ok (.invokestatic ix, 3)) (kk : ∀ (r : Option Nat) (u : MM), o = some (r, u) → V l G n K nL (pc + 3) lv (va_re G.1 r :: rest) u) : V l G n K nL pc lv st σ := by
  obtain ⟨p, e, s, m, args, below, meth, c, Q⟩ := K
  obtain ⟨hx, hb, hr, hml, hown, hts, hlk, hEV⟩ := X
  subst hst
  intro H locs ls hP hS hl
  obtain ⟨⟨ws', hws⟩, hmd, -, hmx⟩ := hmd
  have hA : ∀ q, FA G H.size q → FA G s.heap.size q := fun q hq => hq.elim (fun h => Or.inl h) (fun h => Or.inr (Nat.le_trans hS.1 h))
  refine va_calle (va_runS (As := As) (rest := rest) ⟨hx, hb, hml, hown, hts⟩ (hM H.size) (va_cwS k hts hT hws rfl rfl hmd (RM_le hn hmx)) ⟨CP_blind, fun U hU hW => ⟨rfl, by rw [hU], by rw [hU]; exact hP, hEV.call hS hU hW⟩⟩ rfl hk hl.1 rfl (lv_room hcat) hdg ⟨Nat.le_refl _, Nat.le_refl _⟩) hS (fun q _ h => hA q h) hA (fun r u t H1 locs1 ht hvm hw hB hz1 hk1 hS1 => ?_)
  have hP1 : va_P G.2.1 vwCl (wl G u) H1 := by rw [← ht]; exact hB
  exact kk r u hw H1 locs1 ls hP1 hS1 hl
theorem r_n_isWord {l : Launch} {G : GX} {n : Nat} {K : KX} {cc : ByteArray} {own : String} {rt : Option FieldType} {Ts : List Cond} {nL : Nat} {pc : Nat} {lv : List (Nat × Value)} {st : List Value} {σ : MM} (X : FX G K cc own rt Ts nL) (how : own = RX5) {ws : List Cond} {bytes : ByteArray} {maxL k n' : Nat} {rty : Option FieldType} {As rest : List Value} {o : Option (Int32 × MM)} (hM : CTi l G yX8_isWord ws n' As σ o) (hmd : MD yX8_isWord ws bytes maxL k rty) (hG : GoodIn Ts ws) (hini : Cond.initialized yX8_isWord.cls ∈ Ts) (hstc : Cond.static yX8_isWord ∈ Ts) (hn : n' + 1 ≤ n) (hk : As.length = k) (hst : st = As.reverse ++ rest) (hcat : (rest.map fun v => v.category).sum ≤ 8) (hdg : decode cc pc = .ok (.invokestatic 45, 3)) (kk : ∀ (r : Int32) (u : MM), o = some (r, u) → V l G n K nL (pc + 3) lv (.int r :: rest) u) : V l G n K nL pc lv st σ := by
  obtain ⟨p, e, s, m, args, below, meth, c, Q⟩ := K
  obtain ⟨hx, hb, hr, hml, hown, hts, hlk, hEV⟩ := X
  subst how
  subst hst
  intro H locs ls hP hS hl
  obtain ⟨⟨ws', hws⟩, hmd, -, hmx⟩ := hmd
  have hA : ∀ q, FA G H.size q → FA G s.heap.size q := fun q hq => hq.elim (fun h => Or.inl h) (fun h => Or.inr (Nat.le_trans hS.1 h))
  refine va_calli (va_runSN (As := As) (rest := rest) ⟨hx, hb, hml, hown, hts⟩ (hM H.size) ⟨va_cnB k hts hG hws rfl rfl hEV.2.2.2.2.2.2.1 (hts _ hini) hmd (RM_le hn hmx), hts _ hstc, trivial⟩ ⟨CP_blind, fun U hU hW => ⟨rfl, by rw [hU], by rw [hU]; exact hP, hEV.call hS hU hW⟩⟩ rfl hk hl.1 rfl (lv_room hcat) hdg ⟨Nat.le_refl _, Nat.le_refl _⟩) hS (fun q _ h => hA q h) hA (fun r u t H1 locs1 ht hvm hw hB hz1 hk1 hS1 => ?_)
  have hP1 : va_P G.2.1 vwCl (wl G u) H1 := by rw [← ht]; exact hB
  exact kk r u hw H1 locs1 ls hP1 hS1 hl
theorem r_n_kindAbove {l : Launch} {G : GX} {n : Nat} {K : KX} {cc : ByteArray} {own : String} {rt : Option FieldType} {Ts : List Cond} {nL : Nat} {pc : Nat} {lv : List (Nat × Value)} {st : List Value} {σ : MM} (X : FX G K cc own rt Ts nL) (how : own = RX7) {ws : List Cond} {bytes : ByteArray} {maxL k n' : Nat} {rty : Option FieldType} {As rest : List Value} {o : Option (Int32 × MM)} (hM : CTi l G yX8_kindAbove ws n' As σ o) (hmd : MD yX8_kindAbove ws bytes maxL k rty) (hG : GoodIn Ts ws) (hini : Cond.initialized yX8_kindAbove.cls ∈ Ts) (hstc : Cond.static yX8_kindAbove ∈ Ts) (hn : n' + 1 ≤ n) (hk : As.length = k) (hst : st = As.reverse ++ rest) (hcat : (rest.map fun v => v.category).sum ≤ 8) (hdg : decode cc pc = .ok (.invokestatic 48, 3)) (kk : ∀ (r : Int32) (u : MM), o = some (r, u) → V l G n K nL (pc + 3) lv (.int r :: rest) u) : V l G n K nL pc lv st σ := by
  obtain ⟨p, e, s, m, args, below, meth, c, Q⟩ := K
  obtain ⟨hx, hb, hr, hml, hown, hts, hlk, hEV⟩ := X
  subst how
  subst hst
  intro H locs ls hP hS hl
  obtain ⟨⟨ws', hws⟩, hmd, -, hmx⟩ := hmd
  have hA : ∀ q, FA G H.size q → FA G s.heap.size q := fun q hq => hq.elim (fun h => Or.inl h) (fun h => Or.inr (Nat.le_trans hS.1 h))
  refine va_calli (va_runSN (As := As) (rest := rest) ⟨hx, hb, hml, hown, hts⟩ (hM H.size) ⟨va_cnB k hts hG hws rfl rfl hEV.2.2.2.2.2.2.2 (hts _ hini) hmd (RM_le hn hmx), hts _ hstc, trivial⟩ ⟨CP_blind, fun U hU hW => ⟨rfl, by rw [hU], by rw [hU]; exact hP, hEV.call hS hU hW⟩⟩ rfl hk hl.1 rfl (lv_room hcat) hdg ⟨Nat.le_refl _, Nat.le_refl _⟩) hS (fun q _ h => hA q h) hA (fun r u t H1 locs1 ht hvm hw hB hz1 hk1 hS1 => ?_)
  have hP1 : va_P G.2.1 vwCl (wl G u) H1 := by rw [← ht]; exact hB
  exact kk r u hw H1 locs1 ls hP1 hS1 hl
theorem r_iret {l : Launch} {G : GX} {n : Nat} {K : KX} {cc : ByteArray} {own : String} {rt : Option FieldType} {Ts : List Cond} {nL : Nat} {pc : Nat} {lv : List (Nat × Value)} {σ : MM} (X : FX G K cc own rt Ts nL) (hrt : rt = some .int) {Φ : Int32 → MM → Prop} (hR : Ri G K Φ) {v : Int32} (h : Φ v σ) (hdg : decode cc pc = .ok (.ireturn, 1)) : V l G n K nL pc lv [.int v] σ := by
  obtain ⟨p, e, s, m, args, below, meth, c, Q⟩ := K
  obtain ⟨hx, hb, hr, hml, hown, hts, hlk, hEV⟩ := X
  subst hR
  intro H locs ls hP hS hl
  exact W.iret hx hb (hr.trans hrt) (fun t ht hW => ⟨⟨v, σ, rfl, h, by show va_P _ _ _ _; rw [ht]; exact hP⟩, hS.F ht⟩) hS.2.2 hdg
theorem r_zret {l : Launch} {G : GX} {n : Nat} {K : KX} {cc : ByteArray} {own : String} {rt : Option FieldType} {Ts : List Cond} {nL : Nat} {pc : Nat} {lv : List (Nat × Value)} {σ : MM} (X : FX G K cc own rt Ts nL) (hrt : rt = some .boolean) {Φ : Int32 → MM → Prop} (hR : Ri G K Φ) {v : Int32} (hv : v = 0 ∨ v = 1) (h : Φ v σ) (hdg : decode cc pc = .ok (.ireturn, 1)) : V l G n K nL pc lv [.int v] σ := by
  obtain ⟨p, e, s, m, args, below, meth, c, Q⟩ := K
  obtain ⟨hx, hb, hr, hml, hown, hts, hlk, hEV⟩ := X
  subst hR
  intro H locs ls hP hS hl
  exact W.zret hx hb (hr.trans hrt) (by rcases hv with rfl | rfl <;> rfl) (fun t ht hW => ⟨⟨v, σ, rfl, h, by show va_P _ _ _ _; rw [ht]; exact hP⟩, hS.F ht⟩) hS.2.2 hdg
theorem r_lret {l : Launch} {G : GX} {n : Nat} {K : KX} {cc : ByteArray} {own : String} {rt : Option FieldType} {Ts : List Cond} {nL : Nat} {pc : Nat} {lv : List (Nat × Value)} {σ : MM} (X : FX G K cc own rt Ts nL) (hrt : rt = some .long) {Φ : Int64 → MM → Prop} (hR : Rl G K Φ) {v : Int64} (h : Φ v σ) (hdg : decode cc pc = .ok (.lreturn, 1)) : V l G n K nL pc lv [.long v] σ := by
  obtain ⟨p, e, s, m, args, below, meth, c, Q⟩ := K
  obtain ⟨hx, hb, hr, hml, hown, hts, hlk, hEV⟩ := X
  subst hR
  intro H locs ls hP hS hl
  exact W.lret hx hb (hr.trans hrt) (fun t ht hW => ⟨⟨v, σ, rfl, h, by show va_P _ _ _ _; rw [ht]; exact hP⟩, hS.F ht⟩) hS.2.2 hdg
theorem r_vret {l : Launch} {G : GX} {n : Nat} {K : KX} {cc : ByteArray} {own : String} {rt : Option FieldType} {Ts : List Cond} {nL : Nat} {pc : Nat} {lv : List (Nat × Value)} {σ : MM} (X : FX G K cc own rt Ts nL) (hrt : rt = none) {Φ : Unit → MM → Prop} (hR : Rv G K Φ) (h : Φ () σ) (hdg : decode cc pc = .ok (.return_, 1)) : V l G n K nL pc lv [] σ := by
  obtain ⟨p, e, s, m, args, below, meth, c, Q⟩ := K
  obtain ⟨hx, hb, hr, hml, hown, hts, hlk, hEV⟩ := X
  subst hR
  intro H locs ls hP hS hl
  exact W.vret hx hb (hr.trans hrt) (fun t ht hW => ⟨⟨σ, rfl, h, by show va_P _ _ _ _; rw [ht]; exact hP⟩, hS.F ht⟩) hS.2.2 hdg
theorem r_qret {l : Launch} {G : GX} {n : Nat} {K : KX} {cc : ByteArray} {own : String} {rt : Option FieldType} {Ts : List Cond} {nL : Nat} {pc : Nat} {lv : List (Nat × Value)} {σ : MM} (X : FX G K cc own rt Ts nL) {C : String} (hrt : rt = some (.object C)) {Φ : Option Nat → MM → Prop} (hR : Rq G K Φ) {r : Option Nat} {v : Value} (hv : va_re G.1 r = v) (h : Φ r σ) (hdg : decode cc pc = .ok (.areturn, 1)) : V l G n K nL pc lv [v] σ := by
  obtain ⟨p, e, s, m, args, below, meth, c, Q⟩ := K
  obtain ⟨hx, hb, hr, hml, hown, hts, hlk, hEV⟩ := X
  subst hR
  subst hv
  intro H locs ls hP hS hl
  exact W.aret hx hb (hr.trans hrt) (Or.inl ⟨C, rfl⟩) (va_re_or _ _) (fun t ht hW => ⟨⟨r, σ, rfl, h, by show va_P _ _ _ _; rw [ht]; exact hP⟩, hS.F ht⟩) hS.2.2 hdg
theorem CTi_of {l : Launch} {G : GX} {y : MethodName} {ws : List Cond} {n : Nat} {as : List Value} {σ : MM} {o : Option (Int32 × MM)} {cc : ByteArray} {maxL k : Nat} {rt : Option FieldType} (hmd : MD y ws cc maxL k rt) (hlen : (lg_sl as).length ≤ maxL) (body : ∀ K : KX, FX G K cc y.cls rt ws maxL → Ri G K (fun r u => o = some (r, u)) → V l G n K maxL 0 (lv_args 0 as) [] σ) : CTi l G y ws n as σ o := by
  intro sz
  obtain ⟨⟨ws', hws⟩, hd, hpl, hmx⟩ := hmd
  refine Met.ofW (cc := cc) (maxL := maxL) (ret := rt) hpl hws ?_
  intro p e s m args below meth c s₁ B hml hv
  obtain ⟨rfl, hsz, hP, hEV⟩ := hv
  subst hsz
  have hts := atoms_spec (ws := ws) B.pre
  have hown : s.vm.findClass y.cls = some m.cls := findClass_of_methodNamed B.named
  have hl := lv_entry as (n := maxL) hlen
  rw [lg_entry_eq]
  exact body (p, e, s, m, as.toArray, below, meth, c, MQ below (va_Qi (fun r u => o = some (r, u)) (BW G) (FA G s.heap.size)) as.toArray s 0 0 (FA G s.heap.size)) ⟨B.exec, B.bytes, B.returns, hml, hown, hts, B.notSynchronized, hEV⟩ rfl s.heap [] _ hP va_S.rf hl
theorem CTl_of {l : Launch} {G : GX} {y : MethodName} {ws : List Cond} {n : Nat} {as : List Value} {σ : MM} {o : Option (Int64 × MM)} {cc : ByteArray} {maxL k : Nat} {rt : Option FieldType} (hmd : MD y ws cc maxL k rt) (hlen : (lg_sl as).length ≤ maxL) (body : ∀ K : KX, FX G K cc y.cls rt ws maxL → Rl G K (fun r u => o = some (r, u)) → V l G n K maxL 0 (lv_args 0 as) [] σ) : CTl l G y ws n as σ o := by
  intro sz
  obtain ⟨⟨ws', hws⟩, hd, hpl, hmx⟩ := hmd
  refine Met.ofW (cc := cc) (maxL := maxL) (ret := rt) hpl hws ?_
  intro p e s m args below meth c s₁ B hml hv
  obtain ⟨rfl, hsz, hP, hEV⟩ := hv
  subst hsz
  have hts := atoms_spec (ws := ws) B.pre
  have hown : s.vm.findClass y.cls = some m.cls := findClass_of_methodNamed B.named
  have hl := lv_entry as (n := maxL) hlen
  rw [lg_entry_eq]
  exact body (p, e, s, m, as.toArray, below, meth, c, MQ below (va_Ql (fun r u => o = some (r, u)) (BW G) (FA G s.heap.size)) as.toArray s 0 0 (FA G s.heap.size)) ⟨B.exec, B.bytes, B.returns, hml, hown, hts, B.notSynchronized, hEV⟩ rfl s.heap [] _ hP va_S.rf hl
theorem CTv_of {l : Launch} {G : GX} {y : MethodName} {ws : List Cond} {n : Nat} {as : List Value} {σ : MM} {o : Option (Unit × MM)} {cc : ByteArray} {maxL k : Nat} {rt : Option FieldType} (hmd : MD y ws cc maxL k rt) (hlen : (lg_sl as).length ≤ maxL) (body : ∀ K : KX, FX G K cc y.cls rt ws maxL → Rv G K (fun r u => o = some (r, u)) → V l G n K maxL 0 (lv_args 0 as) [] σ) : CTv l G y ws n as σ o := by
  intro sz
  obtain ⟨⟨ws', hws⟩, hd, hpl, hmx⟩ := hmd
  refine Met.ofW (cc := cc) (maxL := maxL) (ret := rt) hpl hws ?_
  intro p e s m args below meth c s₁ B hml hv
  obtain ⟨rfl, hsz, hP, hEV⟩ := hv
  subst hsz
  have hts := atoms_spec (ws := ws) B.pre
  have hown : s.vm.findClass y.cls = some m.cls := findClass_of_methodNamed B.named
  have hl := lv_entry as (n := maxL) hlen
  rw [lg_entry_eq]
  exact body (p, e, s, m, as.toArray, below, meth, c, MQ below (va_Qv (fun u => o = some ((), u)) (BW G) (FA G s.heap.size)) as.toArray s 0 0 (FA G s.heap.size)) ⟨B.exec, B.bytes, B.returns, hml, hown, hts, B.notSynchronized, hEV⟩ rfl s.heap [] _ hP va_S.rf hl
theorem CTq_of {l : Launch} {G : GX} {y : MethodName} {ws : List Cond} {n : Nat} {as : List Value} {σ : MM} {o : Option (Option Nat × MM)} {cc : ByteArray} {maxL k : Nat} {rt : Option FieldType} (hmd : MD y ws cc maxL k rt) (hlen : (lg_sl as).length ≤ maxL) (body : ∀ K : KX, FX G K cc y.cls rt ws maxL → Rq G K (fun r u => o = some (r, u)) → V l G n K maxL 0 (lv_args 0 as) [] σ) : CTq l G y ws n as σ o := by
  intro sz
  obtain ⟨⟨ws', hws⟩, hd, hpl, hmx⟩ := hmd
  refine Met.ofW (cc := cc) (maxL := maxL) (ret := rt) hpl hws ?_
  intro p e s m args below meth c s₁ B hml hv
  obtain ⟨rfl, hsz, hP, hEV⟩ := hv
  subst hsz
  have hts := atoms_spec (ws := ws) B.pre
  have hown : s.vm.findClass y.cls = some m.cls := findClass_of_methodNamed B.named
  have hl := lv_entry as (n := maxL) hlen
  rw [lg_entry_eq]
  exact body (p, e, s, m, as.toArray, below, meth, c, MQ below (va_Qe G.1 (fun r u => o = some (r, u)) (BW G) (FA G s.heap.size)) as.toArray s 0 0 (FA G s.heap.size)) ⟨B.exec, B.bytes, B.returns, hml, hown, hts, B.notSynchronized, hEV⟩ rfl s.heap [] _ hP va_S.rf hl
theorem mem_ix {α : Type} {l : List α} {a : α} (i : Nat) (h : l[i]? = some a) : a ∈ l := List.mem_of_getElem? h
theorem inr_lt {j : Int32} {N x : Nat} (h : ¬ (j < 0 ∨ N ≤ x)) : x < N := Nat.not_le.mp (fun q => h (Or.inr q))
theorem kso {t k : Nat} (h : kd t = k) : ∀ i, some t = some i → kd i = k := fun i e => by cases e; exact h
theorem nar_z {v : Int32} (h : v = 0 ∨ v = 1) : narrow .boolean (.int v) = .int v := by rcases h with rfl | rfl <;> rfl
def onO {β : Type} (t : Option Nat) (a : β) (b : Nat → β) : β := match t with
  | none => a
  | some i => b i
theorem okz {α : Type} {Φ : α → MM → Prop} {a : Option (α × MM)} {b : Nat → Option (α × MM)} (h : Ok Φ (onO none a b)) : Ok Φ a := h
theorem oky {α : Type} {Φ : α → MM → Prop} {a : Option (α × MM)} {b : Nat → Option (α × MM)} {i : Nat} (h : Ok Φ (onO (some i) a b)) : Ok Φ (b i) := h
def lt {α β : Type} (a : α) (k : α → Option β) : Option β := k a
theorem okl {α β : Type} {Φ : β → MM → Prop} {a : α} {k : α → Option (β × MM)} (h : Ok Φ (lt a k)) : ∃ y, y = a ∧ Ok Φ (k y) := ⟨a, rfl, h⟩
def itr {α : Type} (z : α) (f : α → α) : Nat → α
  | 0 => z
  | n + 1 => f (itr z f n)
theorem lk_n {x k32 : Int32} {a o d off : Int} {r : List (Int × Int)} (h : ¬ x = k32) (hk : k32.toInt = a) (hr : Op.lookupswitch.offset r d x.toInt = off) : Op.lookupswitch.offset ((a, o) :: r) d x.toInt = off := by
  rw [Op.lookupswitch.offset_cons, if_neg (fun e => h (Int32.toInt_inj.mp (e.symm.trans hk.symm)))]
  exact hr
theorem lk_out {d v : Int} : ∀ (ps : List (Int × Int)), (∀ q ∈ ps, q.1 ≠ v) → Op.lookupswitch.offset ps d v = d
  | [], _ => rfl
  | (a, o) :: r, h => by
    rw [Op.lookupswitch.offset_cons, if_neg (h (a, o) List.mem_cons_self)]
    exact lk_out r (fun q hq => h q (List.mem_cons_of_mem _ hq))
theorem r_table {l : Launch} {G : GX} {n : Nat} {K : KX} {cc : ByteArray} {own : String} {rt : Option FieldType} {Ts : List Cond} {nL : Nat} {pc : Nat} {lv : List (Nat × Value)} {st : List Value} {σ : MM} (X : FX G K cc own rt Ts nL) {dflt lo hi : Int} {offs : Array Int} {len : Nat} {x : Int32} {off : Int} {tgt : Nat} (ps : List (Int × Int)) (N : Nat) (hdg : decode cc pc = .ok (.tableswitch dflt lo hi offs, len)) (hN : lo + (N : Int) = hi + 1) (hps : (List.range N).all (fun k => offs[k]? == some (Op.lookupswitch.offset ps dflt (lo + (k : Int)))) = true) (hkeys : ps.all (fun q => decide (lo ≤ q.1) && decide (q.1 ≤ hi)) = true) (ho : Op.lookupswitch.offset ps dflt x.toInt = off) (ht : (pc : Int) + off = (tgt : Int)) (k : V l G n K nL tgt lv st σ) : V l G n K nL pc lv (.int x :: st) σ := by
  by_cases h : x.toInt < lo ∨ hi < x.toInt
  · have e : off = dflt := by
      rw [← ho]
      refine lk_out ps (fun q hq e => ?_)
      have h1 := List.all_eq_true.mp hkeys q hq
      simp only [Bool.and_eq_true, decide_eq_true_eq] at h1
      omega
    rw [e] at ht
    exact r_tableOut X hdg h ht k
  · have h1 : ¬ x.toInt < lo := fun q => h (Or.inl q)
    have h2 : ¬ hi < x.toInt := fun q => h (Or.inr q)
    have h3 := List.all_eq_true.mp hps (x.toInt - lo).toNat (List.mem_range.mpr (by omega))
    have h4 : lo + (((x.toInt - lo).toNat : Nat) : Int) = x.toInt := by omega
    rw [h4, ho] at h3
    exact r_tableIn X hdg h1 h2 (by simpa using h3) ht k
theorem r_topi {l : Launch} {G : GX} {n : Nat} {K : KX} {nL pc : Nat} {lv : List (Nat × Value)} {st : List Value} {σ : MM} {x y : Int32} (e : y = x) (k : V l G n K nL pc lv (.int y :: st) σ) : V l G n K nL pc lv (.int x :: st) σ := by subst e; exact k
theorem r_topl {l : Launch} {G : GX} {n : Nat} {K : KX} {nL pc : Nat} {lv : List (Nat × Value)} {st : List Value} {σ : MM} {x y : Int64} (e : y = x) (k : V l G n K nL pc lv (.long y :: st) σ) : V l G n K nL pc lv (.long x :: st) σ := by subst e; exact k
theorem r_sg {l : Launch} {G : GX} {n : Nat} {K : KX} {nL pc : Nat} {lv : List (Nat × Value)} {st : List Value} {σ σ' : MM} (e : σ' = σ) (k : V l G n K nL pc lv st σ') : V l G n K nL pc lv st σ := by subst e; exact k
theorem r_lds0 {l : Launch} {G : GX} {n : Nat} {K : KX} {cc : ByteArray} {own : String} {rt : Option FieldType} {Ts : List Cond} {nL : Nat} {pc : Nat} {lv : List (Nat × Value)} {st : List Value} {σ : MM} (X : FX G K cc own rt Ts nL) (how : own = RX8) (hdg : decode cc pc = .ok (.ldc 161, 2)) (kk : V l G n K nL (pc+2) lv (.ref (G.2.2.2 (2 + (0 : Int32).toNatClampNeg)) :: st) σ) : V l G n K nL pc lv st σ := by
  obtain ⟨p, e, s, m, args, below, meth, c, Q⟩ := K
  obtain ⟨hx, hb, hr, hml, hown, hts, hlk, hEV⟩ := X
  subst how
  intro H locs ls hP hS hl
  exact va_ldcS hx hb hown hEV.2.2.2.1 hdg (kk H locs ls hP hS hl)
theorem r_lds1 {l : Launch} {G : GX} {n : Nat} {K : KX} {cc : ByteArray} {own : String} {rt : Option FieldType} {Ts : List Cond} {nL : Nat} {pc : Nat} {lv : List (Nat × Value)} {st : List Value} {σ : MM} (X : FX G K cc own rt Ts nL) (how : own = RX8) (hdg : decode cc pc = .ok (.ldc 163, 2)) (kk : V l G n K nL (pc+2) lv (.ref (G.2.2.2 (2 + (1 : Int32).toNatClampNeg)) :: st) σ) : V l G n K nL pc lv st σ := by
  obtain ⟨p, e, s, m, args, below, meth, c, Q⟩ := K
  obtain ⟨hx, hb, hr, hml, hown, hts, hlk, hEV⟩ := X
  subst how
  intro H locs ls hP hS hl
  exact va_ldcS hx hb hown hEV.2.2.2.2.1 hdg (kk H locs ls hP hS hl)
theorem lg0 {x y : Int64} : lg_cmp x y = 0 ↔ x = y := by
  unfold lg_cmp
  by_cases h : x > y
  · rw [if_pos h]
    constructor
    · intro q; exact absurd q (by decide)
    · intro q; subst q; exact absurd h (Int64.lt_irrefl)
  · rw [if_neg h]
    by_cases h2 : x = y
    · simp [h2]
    · rw [if_neg h2]
      constructor
      · intro q; exact absurd q (by decide)
      · intro q; exact absurd q h2
theorem r_lcmp {l : Launch} {G : GX} {n : Nat} {K : KX} {cc : ByteArray} {own : String} {rt : Option FieldType} {Ts : List Cond} {nL : Nat} {pc : Nat} {lv : List (Nat × Value)} {st : List Value} {σ : MM} (X : FX G K cc own rt Ts nL) {x y : Int64} (hdg : decode cc pc = .ok (.lcmp, 1)) (k : V l G n K nL (pc+1) lv (.int (lg_cmp x y) :: st) σ) : V l G n K nL pc lv (.long y :: .long x :: st) σ := by
  obtain ⟨p, e, s, m, args, below, meth, c, Q⟩ := K
  obtain ⟨hx, hb, hr, hml, hown, hts, hlk, hEV⟩ := X
  intro H locs ls hP hS hl
  exact W.lcmp hx hb hdg (k H locs ls hP hS hl)
theorem r_lcmp_eq {l : Launch} {G : GX} {n : Nat} {K : KX} {cc : ByteArray} {own : String} {rt : Option FieldType} {Ts : List Cond} {nL : Nat} {pc : Nat} {lv : List (Nat × Value)} {st : List Value} {σ : MM} (X : FX G K cc own rt Ts nL) {x y : Int64} {off : Int} {tgt : Nat} (hdg : decode cc pc = .ok (.lcmp, 1)) (hdg2 : decode cc (pc+1) = .ok (.ifCond .eq off, 3)) (ht : ((pc+1 : Nat) : Int) + off = (tgt : Int)) (kt : x = y → V l G n K nL tgt lv st σ) (kf : ¬ x = y → V l G n K nL (pc+1+3) lv st σ) : V l G n K nL pc lv (.long y :: .long x :: st) σ := r_lcmp X hdg (r_if_eq X hdg2 ht (fun h => kt (lg0.mp h)) (fun h => kf (fun e => h (lg0.mpr e))))
theorem r_lcmp_ne {l : Launch} {G : GX} {n : Nat} {K : KX} {cc : ByteArray} {own : String} {rt : Option FieldType} {Ts : List Cond} {nL : Nat} {pc : Nat} {lv : List (Nat × Value)} {st : List Value} {σ : MM} (X : FX G K cc own rt Ts nL) {x y : Int64} {off : Int} {tgt : Nat} (hdg : decode cc pc = .ok (.lcmp, 1)) (hdg2 : decode cc (pc+1) = .ok (.ifCond .ne off, 3)) (ht : ((pc+1 : Nat) : Int) + off = (tgt : Int)) (kt : ¬ x = y → V l G n K nL tgt lv st σ) (kf : x = y → V l G n K nL (pc+1+3) lv st σ) : V l G n K nL pc lv (.long y :: .long x :: st) σ := r_lcmp X hdg (r_if_ne X hdg2 ht (fun h => kt (fun e => h (lg0.mpr e))) (fun h => kf (lg0.mp h)))
theorem r_lcmp_lt {l : Launch} {G : GX} {n : Nat} {K : KX} {cc : ByteArray} {own : String} {rt : Option FieldType} {Ts : List Cond} {nL : Nat} {pc : Nat} {lv : List (Nat × Value)} {st : List Value} {σ : MM} (X : FX G K cc own rt Ts nL) {x y : Int64} {off : Int} {tgt : Nat} (hdg : decode cc pc = .ok (.lcmp, 1)) (hdg2 : decode cc (pc+1) = .ok (.ifCond .lt off, 3)) (ht : ((pc+1 : Nat) : Int) + off = (tgt : Int)) (kt : x < y → V l G n K nL tgt lv st σ) (kf : ¬ x < y → V l G n K nL (pc+1+3) lv st σ) : V l G n K nL pc lv (.long y :: .long x :: st) σ := r_lcmp X hdg (r_if_lt X hdg2 ht (fun h => kt ((lg_cmp_lt _ _).mp h)) (fun h => kf (fun e => h ((lg_cmp_lt _ _).mpr e))))
theorem r_lcmp_ge {l : Launch} {G : GX} {n : Nat} {K : KX} {cc : ByteArray} {own : String} {rt : Option FieldType} {Ts : List Cond} {nL : Nat} {pc : Nat} {lv : List (Nat × Value)} {st : List Value} {σ : MM} (X : FX G K cc own rt Ts nL) {x y : Int64} {off : Int} {tgt : Nat} (hdg : decode cc pc = .ok (.lcmp, 1)) (hdg2 : decode cc (pc+1) = .ok (.ifCond .ge off, 3)) (ht : ((pc+1 : Nat) : Int) + off = (tgt : Int)) (kt : y ≤ x → V l G n K nL tgt lv st σ) (kf : ¬ y ≤ x → V l G n K nL (pc+1+3) lv st σ) : V l G n K nL pc lv (.long y :: .long x :: st) σ := r_lcmp X hdg (r_if_ge X hdg2 ht (fun h => kt ((lg_cmp_ge _ _).mp h)) (fun h => kf (fun e => h ((lg_cmp_ge _ _).mpr e))))
theorem r_lcmp_gt {l : Launch} {G : GX} {n : Nat} {K : KX} {cc : ByteArray} {own : String} {rt : Option FieldType} {Ts : List Cond} {nL : Nat} {pc : Nat} {lv : List (Nat × Value)} {st : List Value} {σ : MM} (X : FX G K cc own rt Ts nL) {x y : Int64} {off : Int} {tgt : Nat} (hdg : decode cc pc = .ok (.lcmp, 1)) (hdg2 : decode cc (pc+1) = .ok (.ifCond .gt off, 3)) (ht : ((pc+1 : Nat) : Int) + off = (tgt : Int)) (kt : y < x → V l G n K nL tgt lv st σ) (kf : ¬ y < x → V l G n K nL (pc+1+3) lv st σ) : V l G n K nL pc lv (.long y :: .long x :: st) σ := r_lcmp X hdg (r_if_gt X hdg2 ht (fun h => kt ((lg_cmp_gt _ _).mp h)) (fun h => kf (fun e => h ((lg_cmp_gt _ _).mpr e))))
theorem r_lcmp_le {l : Launch} {G : GX} {n : Nat} {K : KX} {cc : ByteArray} {own : String} {rt : Option FieldType} {Ts : List Cond} {nL : Nat} {pc : Nat} {lv : List (Nat × Value)} {st : List Value} {σ : MM} (X : FX G K cc own rt Ts nL) {x y : Int64} {off : Int} {tgt : Nat} (hdg : decode cc pc = .ok (.lcmp, 1)) (hdg2 : decode cc (pc+1) = .ok (.ifCond .le off, 3)) (ht : ((pc+1 : Nat) : Int) + off = (tgt : Int)) (kt : x ≤ y → V l G n K nL tgt lv st σ) (kf : ¬ x ≤ y → V l G n K nL (pc+1+3) lv st σ) : V l G n K nL pc lv (.long y :: .long x :: st) σ := r_lcmp X hdg (r_if_le X hdg2 ht (fun h => kt ((lg_cmp_le _ _).mp h)) (fun h => kf (fun e => h ((lg_cmp_le _ _).mpr e))))
def ixo (s c : Int32) : Int32 := if s = 0 then (if c = 119 then 0 else if c = 115 then 1 else if c = 109 then 2 else -1) else (if c = 98 then 0 else if c = 115 then 1 else if c = 107 then 2 else -1)
def f_indexOf (s c : Int32) (σ : MM) : Option (Int32 × MM) := if s = 0 ∨ s = 1 then (if c < 0 ∨ 65536 ≤ c.toNatClampNeg then none else some (ixo s c, σ)) else none
theorem c_indexOf (l : Launch) (G : GX) (s c : Int32) (σ : MM) (h : (f_indexOf s c σ).isSome = true) : CTi l G yJ0_indexOf_0f7a4 wsJ0_indexOf_0f7a4 12 [.ref (G.2.2.2 (2 + s.toNatClampNeg)), .int c] σ (f_indexOf s c σ) := by
  sorry
theorem md_J0_indexOf_0f7a4 : MD yJ0_indexOf_0f7a4 wsJ0_indexOf_0f7a4 cJ0_indexOf_0f7a4 2 1 (some .int) := ⟨⟨_, rfl⟩, by decide +kernel, by decide +kernel, by decide⟩
theorem r_indexOf {l : Launch} {G : GX} {n : Nat} {K : KX} {cc : ByteArray} {own : String} {rt : Option FieldType} {Ts : List Cond} {nL : Nat} {pc : Nat} {lv : List (Nat × Value)} {st : List Value} {σ : MM} (X : FX G K cc own rt Ts nL) {ix : Nat} {sc ch : Int32} {rest : List Value} (ho : (f_indexOf sc ch σ).isSome = true) (hT : GoodIn Ts (wsV own ix RJ0 yJ0_indexOf_0f7a4 wsJ0_indexOf_0f7a4)) (hn : 12 + 1 ≤ n) (hcat : (rest.map fun v => v.category).sum ≤ 8) (hdg : decode cc pc = .ok (.invokevirtual ix, 3)) (kk : ∀ (r : Int32) (u : MM), f_indexOf sc ch σ = some (r, u) → V l G n K nL (pc + 3) lv (.int r :: rest) u) : V l G n K nL pc lv (.int ch :: .ref (G.2.2.2 (2 + sc.toNatClampNeg)) :: rest) σ := by
  have hs : sc = 0 ∨ sc = 1 := by
    unfold f_indexOf at ho
    by_cases h : sc = 0 ∨ sc = 1
    · exact h
    · rw [if_neg h] at ho; cases ho
  have hM := c_indexOf l G sc ch σ ho
  obtain ⟨p, e, s, m, args, below, meth, c, Q⟩ := K
  obtain ⟨hx, hb, hr, hml, hown, hts, hlk, hEV⟩ := X
  intro H locs ls hP hS hl
  obtain ⟨⟨ws', hws⟩, hmd, -, hmx⟩ := md_J0_indexOf_0f7a4
  have hA : ∀ q, FA G H.size q → FA G s.heap.size q := fun q hq => hq.elim (fun h => Or.inl h) (fun h => Or.inr (Nat.le_trans hS.1 h))
  have hrc : ∃ cell : Cell, H[G.2.2.2 (2 + sc.toNatClampNeg)]? = some cell ∧ cell.vm.isStatics = false ∧ s.vm.findClass RJ0 = some cell.cls := by
    rcases hs with rfl | rfl
    · exact vk_recv (i := 0) hEV.2.2.1.2.2.2.2.2 (by decide) hS
    · exact vk_recv (i := 1) hEV.2.2.1.2.2.2.2.2 (by decide) hS
  refine va_calli (va_runV (As := [.int ch]) (rest := rest) ⟨hx, hb, hml, hown, hts⟩ (hM H.size) (cwV 1 hts hT hws rfl rfl ⟨rfl, hmd⟩ (RM_le hn hmx)) ⟨CP_blind, hrc, fun U hU hW => ⟨rfl, by rw [hU], by rw [hU]; exact hP, hEV.call hS hU hW⟩⟩ rfl rfl hl.1 rfl (lv_room hcat) hdg ⟨Nat.le_refl _, Nat.le_refl _⟩) hS (fun q _ h => hA q h) hA (fun r u t H1 locs1 ht hvm hw hB hz1 hk1 hS1 => ?_)
  have hP1 : va_P G.2.1 vwCl (wl G u) H1 := by rw [← ht]; exact hB
  exact kk r u hw H1 locs1 ls hP1 hS1 hl
def FU : Nat := 1000
end
section
theorem cb_m10 : (Int8.ofInt (-10)).toInt32 = (-10 : Int32) := by decide +kernel
theorem cb_6 : (Int8.ofInt (6)).toInt32 = (6 : Int32) := by decide +kernel
theorem cb_7 : (Int8.ofInt (7)).toInt32 = (7 : Int32) := by decide +kernel
theorem cb_8 : (Int8.ofInt (8)).toInt32 = (8 : Int32) := by decide +kernel
theorem cb_9 : (Int8.ofInt (9)).toInt32 = (9 : Int32) := by decide +kernel
theorem cb_10 : (Int8.ofInt (10)).toInt32 = (10 : Int32) := by decide +kernel
theorem cb_11 : (Int8.ofInt (11)).toInt32 = (11 : Int32) := by decide +kernel
theorem cb_12 : (Int8.ofInt (12)).toInt32 = (12 : Int32) := by decide +kernel
theorem cb_13 : (Int8.ofInt (13)).toInt32 = (13 : Int32) := by decide +kernel
theorem cb_16 : (Int8.ofInt (16)).toInt32 = (16 : Int32) := by decide +kernel
theorem cb_20 : (Int8.ofInt (20)).toInt32 = (20 : Int32) := by decide +kernel
theorem cb_21 : (Int8.ofInt (21)).toInt32 = (21 : Int32) := by decide +kernel
theorem cb_24 : (Int8.ofInt (24)).toInt32 = (24 : Int32) := by decide +kernel
theorem cb_30 : (Int8.ofInt (30)).toInt32 = (30 : Int32) := by decide +kernel
theorem cb_32 : (Int8.ofInt (32)).toInt32 = (32 : Int32) := by decide +kernel
theorem cb_33 : (Int8.ofInt (33)).toInt32 = (33 : Int32) := by decide +kernel
theorem cb_37 : (Int8.ofInt (37)).toInt32 = (37 : Int32) := by decide +kernel
theorem cb_38 : (Int8.ofInt (38)).toInt32 = (38 : Int32) := by decide +kernel
theorem cb_40 : (Int8.ofInt (40)).toInt32 = (40 : Int32) := by decide +kernel
theorem cb_41 : (Int8.ofInt (41)).toInt32 = (41 : Int32) := by decide +kernel
theorem cb_42 : (Int8.ofInt (42)).toInt32 = (42 : Int32) := by decide +kernel
theorem cb_43 : (Int8.ofInt (43)).toInt32 = (43 : Int32) := by decide +kernel
theorem cb_45 : (Int8.ofInt (45)).toInt32 = (45 : Int32) := by decide +kernel
theorem cb_47 : (Int8.ofInt (47)).toInt32 = (47 : Int32) := by decide +kernel
theorem cb_48 : (Int8.ofInt (48)).toInt32 = (48 : Int32) := by decide +kernel
theorem cb_50 : (Int8.ofInt (50)).toInt32 = (50 : Int32) := by decide +kernel
theorem cb_51 : (Int8.ofInt (51)).toInt32 = (51 : Int32) := by decide +kernel
theorem cb_57 : (Int8.ofInt (57)).toInt32 = (57 : Int32) := by decide +kernel
theorem cb_60 : (Int8.ofInt (60)).toInt32 = (60 : Int32) := by decide +kernel
theorem cb_61 : (Int8.ofInt (61)).toInt32 = (61 : Int32) := by decide +kernel
theorem cb_62 : (Int8.ofInt (62)).toInt32 = (62 : Int32) := by decide +kernel
theorem cb_66 : (Int8.ofInt (66)).toInt32 = (66 : Int32) := by decide +kernel
theorem cb_69 : (Int8.ofInt (69)).toInt32 = (69 : Int32) := by decide +kernel
theorem cb_70 : (Int8.ofInt (70)).toInt32 = (70 : Int32) := by decide +kernel
theorem cb_71 : (Int8.ofInt (71)).toInt32 = (71 : Int32) := by decide +kernel
theorem cb_86 : (Int8.ofInt (86)).toInt32 = (86 : Int32) := by decide +kernel
theorem cb_90 : (Int8.ofInt (90)).toInt32 = (90 : Int32) := by decide +kernel
theorem cb_98 : (Int8.ofInt (98)).toInt32 = (98 : Int32) := by decide +kernel
theorem cb_99 : (Int8.ofInt (99)).toInt32 = (99 : Int32) := by decide +kernel
theorem cb_100 : (Int8.ofInt (100)).toInt32 = (100 : Int32) := by decide +kernel
theorem cb_119 : (Int8.ofInt (119)).toInt32 = (119 : Int32) := by decide +kernel
theorem cb_121 : (Int8.ofInt (121)).toInt32 = (121 : Int32) := by decide +kernel
theorem cb_124 : (Int8.ofInt (124)).toInt32 = (124 : Int32) := by decide +kernel
theorem ci_m1 : Int32.ofInt (-1) = (-1 : Int32) := by decide +kernel
theorem ci_0 : Int32.ofInt (0) = (0 : Int32) := by decide +kernel
theorem ci_1 : Int32.ofInt (1) = (1 : Int32) := by decide +kernel
theorem ci_2 : Int32.ofInt (2) = (2 : Int32) := by decide +kernel
theorem ci_3 : Int32.ofInt (3) = (3 : Int32) := by decide +kernel
theorem ci_4 : Int32.ofInt (4) = (4 : Int32) := by decide +kernel
theorem ci_5 : Int32.ofInt (5) = (5 : Int32) := by decide +kernel
theorem cs_128 : (Int16.ofInt (128)).toInt32 = (128 : Int32) := by decide +kernel
theorem cs_146 : (Int16.ofInt (146)).toInt32 = (146 : Int32) := by decide +kernel
theorem cs_170 : (Int16.ofInt (170)).toInt32 = (170 : Int32) := by decide +kernel
theorem cs_255 : (Int16.ofInt (255)).toInt32 = (255 : Int32) := by decide +kernel
theorem cs_412 : (Int16.ofInt (412)).toInt32 = (412 : Int32) := by decide +kernel
theorem cs_999 : (Int16.ofInt (999)).toInt32 = (999 : Int32) := by decide +kernel
theorem cs_9999 : (Int16.ofInt (9999)).toInt32 = (9999 : Int32) := by decide +kernel
theorem cs_10000 : (Int16.ofInt (10000)).toInt32 = (10000 : Int32) := by decide +kernel
theorem cs_10033 : (Int16.ofInt (10033)).toInt32 = (10033 : Int32) := by decide +kernel
theorem cs_12345 : (Int16.ofInt (12345)).toInt32 = (12345 : Int32) := by decide +kernel
theorem kc_0 : kd 0 = 0 := by decide +kernel
theorem kc_9 : kd 9 = 20 := by decide +kernel
theorem kc_10 : kd 10 = 21 := by decide +kernel
theorem kc_36 : kd 36 = 0 := by decide +kernel
theorem kc_72 : kd 72 = 0 := by decide +kernel
theorem kc_108 : kd 108 = 8 := by decide +kernel
theorem kc_109 : kd 109 = 4 := by decide +kernel
theorem kc_110 : kd 110 = 6 := by decide +kernel
theorem kc_113 : kd 113 = 7 := by decide +kernel
theorem kc_114 : kd 114 = 22 := by decide +kernel
theorem kc_115 : kd 115 = 1 := by decide +kernel
theorem kc_116 : kd 116 = 23 := by decide +kernel
theorem kc_117 : kd 117 = 23 := by decide +kernel
theorem kc_118 : kd 118 = 24 := by decide +kernel
theorem kc_119 : kd 119 = 32 := by decide +kernel
theorem kc_128 : kd 128 = 25 := by decide +kernel
theorem kc_129 : kd 129 = 9 := by decide +kernel
theorem kc_130 : kd 130 = 26 := by decide +kernel
theorem kc_131 : kd 131 = 26 := by decide +kernel
theorem kc_132 : kd 132 = 26 := by decide +kernel
theorem kc_133 : kd 133 = 25 := by decide +kernel
theorem kc_134 : kd 134 = 27 := by decide +kernel
theorem kc_135 : kd 135 = 27 := by decide +kernel
theorem kc_136 : kd 136 = 28 := by decide +kernel
theorem kc_137 : kd 137 = 20 := by decide +kernel
theorem kc_138 : kd 138 = 20 := by decide +kernel
theorem kc_139 : kd 139 = 24 := by decide +kernel
theorem kc_140 : kd 140 = 20 := by decide +kernel
theorem kc_141 : kd 141 = 23 := by decide +kernel
theorem kc_142 : kd 142 = 22 := by decide +kernel
end
section
-- X2_copyFrom
theorem in_X2_copyFrom_2 : ∀ w ∈ u_ws RX2 TX2 4, w ∈ wsX2_copyFrom := fun _ h => List.mem_cons_of_mem _ (List.mem_append_right _ h)
def f_X2_copyFrom (t0 : Nat) (t1 : Nat) (σ : MM) : Option (Unit × MM) :=
  lt (mu σ t0 1 (σ t1 1)) (fun σ7 => lt (mu σ7 t0 2 (σ7 t1 2)) (fun σ9 => lt (mu σ9 t0 3 (σ9 t1 3)) (fun σ11 => some ((), σ11))))
set_option maxRecDepth 100000 in
set_option maxHeartbeats 4000000 in
theorem e_X2_copyFrom {l : Launch} {G : GX} {K : KX} (X : FX G K cX2_copyFrom RX2 (none) wsX2_copyFrom 2) {Φ : Unit → MM → Prop} (hR : Rv G K Φ) (t0 : Nat) (t1 : Nat) (hk0 : kd t0 = 2) (hk1 : kd t1 = 2) (σ : MM) (hf : Ok Φ (f_X2_copyFrom t0 t1 σ)) : V l G 3 K 2 0 [(0, .ref (G.1 t0)), (1, .ref (G.1 t1))] [] σ := by
    unfold f_X2_copyFrom at hf
    refine r_aload_n X dX2_copyFrom_0 0 rfl isr_ref ?_
    refine r_aload_n X dX2_copyFrom_1 1 rfl isr_ref ?_
    refine r_get (i := t1) (v := .int (σ t1 1)) X in_X2_copyFrom_2 rfl 1 (by decide) (kd_in hk1 (by decide)) (EE_2 _ hk1) rfl (mem_ix 1 rfl) dX2_copyFrom_2 ?_
    obtain ⟨σ7, e8, hf⟩ := okl hf
    refine r_put (i := t0) (f := upd (σ t0) 1 (σ t1 1)) X in_X2_copyFrom_2 tyX2 tyX2_ok nmX2 rfl 1 (by decide) (kd_in hk0 (by decide)) (EE_2 _ hk0) (EU_2_1 _ _ hk0) rfl (mem_ix 1 rfl) rfl rfl rfl rfl dX2_copyFrom_5 ?_
    refine r_sg e8 ?_
    refine r_aload_n X dX2_copyFrom_8 0 rfl isr_ref ?_
    refine r_aload_n X dX2_copyFrom_9 1 rfl isr_ref ?_
    refine r_get (i := t1) (v := .int (σ7 t1 2)) X in_X2_copyFrom_2 rfl 2 (by decide) (kd_in hk1 (by decide)) (EE_2 _ hk1) rfl (mem_ix 2 rfl) dX2_copyFrom_10 ?_
    obtain ⟨σ9, e10, hf⟩ := okl hf
    refine r_put (i := t0) (f := upd (σ7 t0) 2 (σ7 t1 2)) X in_X2_copyFrom_2 tyX2 tyX2_ok nmX2 rfl 2 (by decide) (kd_in hk0 (by decide)) (EE_2 _ hk0) (EU_2_2 _ _ hk0) rfl (mem_ix 2 rfl) rfl rfl rfl rfl dX2_copyFrom_13 ?_
    refine r_sg e10 ?_
    refine r_aload_n X dX2_copyFrom_16 0 rfl isr_ref ?_
    refine r_aload_n X dX2_copyFrom_17 1 rfl isr_ref ?_
    refine r_get (i := t1) (v := .int (σ9 t1 3)) X in_X2_copyFrom_2 rfl 3 (by decide) (kd_in hk1 (by decide)) (EE_2 _ hk1) rfl (mem_ix 3 rfl) dX2_copyFrom_18 ?_
    obtain ⟨σ11, e12, hf⟩ := okl hf
    refine r_put (i := t0) (f := upd (σ9 t0) 3 (σ9 t1 3)) X in_X2_copyFrom_2 tyX2 tyX2_ok nmX2 rfl 3 (by decide) (kd_in hk0 (by decide)) (EE_2 _ hk0) (EU_2_3 _ _ hk0) rfl (mem_ix 3 rfl) rfl rfl rfl rfl dX2_copyFrom_21 ?_
    refine r_sg e12 ?_
    exact r_vret X rfl hR (ok0 hf) dX2_copyFrom_24
theorem md_X2_copyFrom : MD yX2_copyFrom wsX2_copyFrom cX2_copyFrom 2 1 (none) := ⟨⟨_, rfl⟩, by decide +kernel, by decide +kernel, by decide⟩
theorem c_X2_copyFrom (l : Launch) (G : GX)  (t0 : Nat) (t1 : Nat) (hk0 : kd t0 = 2) (hk1 : kd t1 = 2) (σ : MM) (h : (f_X2_copyFrom t0 t1 σ).isSome = true) : CTv l G yX2_copyFrom wsX2_copyFrom 3 [.ref (G.1 t0), .ref (G.1 t1)] σ (f_X2_copyFrom t0 t1 σ) :=
  CTv_of md_X2_copyFrom (Nat.le_of_ble_eq_true rfl) (fun K X hR => e_X2_copyFrom X hR t0 t1 hk0 hk1 σ (ok_is h))
-- X3_copyFrom
theorem in_X3_copyFrom_3 : ∀ w ∈ u_ws RX3 TX3 4, w ∈ wsX3_copyFrom := fun _ h => List.mem_cons_of_mem _ (List.mem_append_right _ h)
def f_X3_copyFrom (t0 : Nat) (t1 : Nat) (σ : MM) : Option (Unit × MM) :=
  lt (mu σ t0 0 (σ t1 0)) (fun σ9 => lt (mu σ9 t0 1 (σ9 t1 1)) (fun σ11 => lt (mu σ11 t0 2 (σ11 t1 2)) (fun σ13 => lt (mu σ13 t0 3 (σ13 t1 3)) (fun σ15 => some ((), σ15)))))
set_option maxRecDepth 100000 in
set_option maxHeartbeats 4000000 in
theorem e_X3_copyFrom {l : Launch} {G : GX} {K : KX} (X : FX G K cX3_copyFrom RX3 (none) wsX3_copyFrom 2) {Φ : Unit → MM → Prop} (hR : Rv G K Φ) (t0 : Nat) (t1 : Nat) (hk0 : kd t0 = 3) (hk1 : kd t1 = 3) (σ : MM) (hf : Ok Φ (f_X3_copyFrom t0 t1 σ)) : V l G 3 K 2 0 [(0, .ref (G.1 t0)), (1, .ref (G.1 t1))] [] σ := by
    unfold f_X3_copyFrom at hf
    refine r_aload_n X dX3_copyFrom_0 0 rfl isr_ref ?_
    refine r_aload_n X dX3_copyFrom_1 1 rfl isr_ref ?_
    refine r_get (i := t1) (v := .int (σ t1 0)) X in_X3_copyFrom_3 rfl 0 (by decide) (kd_in hk1 (by decide)) (EE_3 _ hk1) rfl (mem_ix 1 rfl) dX3_copyFrom_2 ?_
    obtain ⟨σ9, e10, hf⟩ := okl hf
    refine r_put (i := t0) (f := upd (σ t0) 0 (σ t1 0)) X in_X3_copyFrom_3 tyX3 tyX3_ok nmX3 rfl 0 (by decide) (kd_in hk0 (by decide)) (EE_3 _ hk0) (EU_3_0 _ _ hk0) rfl (mem_ix 1 rfl) rfl rfl rfl rfl dX3_copyFrom_5 ?_
    refine r_sg e10 ?_
    refine r_aload_n X dX3_copyFrom_8 0 rfl isr_ref ?_
    refine r_aload_n X dX3_copyFrom_9 1 rfl isr_ref ?_
    refine r_get (i := t1) (v := .int (σ9 t1 1)) X in_X3_copyFrom_3 rfl 1 (by decide) (kd_in hk1 (by decide)) (EE_3 _ hk1) rfl (mem_ix 2 rfl) dX3_copyFrom_10 ?_
    obtain ⟨σ11, e12, hf⟩ := okl hf
    refine r_put (i := t0) (f := upd (σ9 t0) 1 (σ9 t1 1)) X in_X3_copyFrom_3 tyX3 tyX3_ok nmX3 rfl 1 (by decide) (kd_in hk0 (by decide)) (EE_3 _ hk0) (EU_3_1 _ _ hk0) rfl (mem_ix 2 rfl) rfl rfl rfl rfl dX3_copyFrom_13 ?_
    refine r_sg e12 ?_
    refine r_aload_n X dX3_copyFrom_16 0 rfl isr_ref ?_
    refine r_aload_n X dX3_copyFrom_17 1 rfl isr_ref ?_
    refine r_get (i := t1) (v := .int (σ11 t1 2)) X in_X3_copyFrom_3 rfl 2 (by decide) (kd_in hk1 (by decide)) (EE_3 _ hk1) rfl (mem_ix 3 rfl) dX3_copyFrom_18 ?_
    obtain ⟨σ13, e14, hf⟩ := okl hf
    refine r_put (i := t0) (f := upd (σ11 t0) 2 (σ11 t1 2)) X in_X3_copyFrom_3 tyX3 tyX3_ok nmX3 rfl 2 (by decide) (kd_in hk0 (by decide)) (EE_3 _ hk0) (EU_3_2 _ _ hk0) rfl (mem_ix 3 rfl) rfl rfl rfl rfl dX3_copyFrom_21 ?_
    refine r_sg e14 ?_
    refine r_aload_n X dX3_copyFrom_24 0 rfl isr_ref ?_
    refine r_aload_n X dX3_copyFrom_25 1 rfl isr_ref ?_
    refine r_get (i := t1) (v := .int (σ13 t1 3)) X in_X3_copyFrom_3 rfl 3 (by decide) (kd_in hk1 (by decide)) (EE_3 _ hk1) rfl (mem_ix 4 rfl) dX3_copyFrom_26 ?_
    obtain ⟨σ15, e16, hf⟩ := okl hf
    refine r_put (i := t0) (f := upd (σ13 t0) 3 (σ13 t1 3)) X in_X3_copyFrom_3 tyX3 tyX3_ok nmX3 rfl 3 (by decide) (kd_in hk0 (by decide)) (EE_3 _ hk0) (EU_3_3 _ _ hk0) rfl (mem_ix 4 rfl) rfl rfl rfl rfl dX3_copyFrom_29 ?_
    refine r_sg e16 ?_
    exact r_vret X rfl hR (ok0 hf) dX3_copyFrom_32
theorem md_X3_copyFrom : MD yX3_copyFrom wsX3_copyFrom cX3_copyFrom 2 1 (none) := ⟨⟨_, rfl⟩, by decide +kernel, by decide +kernel, by decide⟩
theorem c_X3_copyFrom (l : Launch) (G : GX)  (t0 : Nat) (t1 : Nat) (hk0 : kd t0 = 3) (hk1 : kd t1 = 3) (σ : MM) (h : (f_X3_copyFrom t0 t1 σ).isSome = true) : CTv l G yX3_copyFrom wsX3_copyFrom 3 [.ref (G.1 t0), .ref (G.1 t1)] σ (f_X3_copyFrom t0 t1 σ) :=
  CTv_of md_X3_copyFrom (Nat.le_of_ble_eq_true rfl) (fun K X hR => e_X3_copyFrom X hR t0 t1 hk0 hk1 σ (ok_is h))
-- X0_judgeOn
theorem in_X0_judgeOn_0 : ∀ w ∈ u_ws RX0 TX0 12, w ∈ wsX0_judgeOn := fun _ h => List.mem_cons_of_mem _ (List.mem_append_right _ h)
def f_X0_judgeOn (t0 : Nat) (a1 : Int32) (σ : MM) : Option (Option Nat × MM) :=
  if a1 < 0 then some ((none : Option Nat), σ) else if (σ t0 1) ≤ a1 then some ((none : Option Nat), σ) else if (20 : Int32) ≤ a1 then some ((none : Option Nat), σ) else if a1 < 0 ∨ 20 ≤ a1.toNatClampNeg then none else some ((some ((t0 + 1) + 10 + a1.toNatClampNeg) : Option Nat), σ)
set_option maxRecDepth 100000 in
set_option maxHeartbeats 4000000 in
theorem e_X0_judgeOn {l : Launch} {G : GX} {K : KX} (X : FX G K cX0_judgeOn RX0 (some (.object "StairCourt$Judge")) wsX0_judgeOn 2) {Φ : Option Nat → MM → Prop} (hR : Rq G K Φ) (t0 : Nat) (a1 : Int32) (hk0 : kd t0 = 0) (σ : MM) (hf : Ok Φ (f_X0_judgeOn t0 a1 σ)) : V l G 3 K 2 0 [(0, .ref (G.1 t0)), (1, .int a1)] [] σ := by
    unfold f_X0_judgeOn at hf
    refine r_iload_n X dX0_judgeOn_0 1 rfl ?_
    refine r_if_lt (tgt := 30) X dX0_judgeOn_1 (by decide) (fun h5 => ?_) (fun h5 => ?_)
    · replace hf := okt h5 hf
      refine r_null X dX0_judgeOn_30 ?_
      exact r_qret (r := none) X rfl hR rfl (ok0 hf) dX0_judgeOn_31
    · replace hf := okf h5 hf
      refine r_iload_n X dX0_judgeOn_4 1 rfl ?_
      refine r_aload_n X dX0_judgeOn_5 0 rfl isr_ref ?_
      refine r_get (i := t0) (v := .int (σ t0 1)) X in_X0_judgeOn_0 rfl 1 (by decide) (kd_in hk0 (by decide)) (EE_0 _ hk0) rfl (mem_ix 1 rfl) dX0_judgeOn_6 ?_
      refine r_icmp_ge (tgt := 30) X dX0_judgeOn_9 (by decide) (fun h6 => ?_) (fun h6 => ?_)
      · replace hf := okt h6 hf
        refine r_null X dX0_judgeOn_30 ?_
        exact r_qret (r := none) X rfl hR rfl (ok0 hf) dX0_judgeOn_31
      · replace hf := okf h6 hf
        refine r_iload_n X dX0_judgeOn_12 1 rfl ?_
        refine r_aload_n X dX0_judgeOn_13 0 rfl isr_ref ?_
        refine r_get (i := t0) (v := .ref (G.1 (t0 + 1))) X in_X0_judgeOn_0 rfl 0 (by decide) (kd_in hk0 (by decide)) (EE_0 _ hk0) rfl (mem_ix 2 rfl) dX0_judgeOn_14 ?_
        refine r_alen (i := (t0 + 1)) (t := 1) (v := (20 : Int32)) X (kd_in (kf_0_1 hk0) (by decide)) (EE_30 _ (kf_0_1 hk0)) rfl (by decide) dX0_judgeOn_17 ?_
        refine r_icmp_ge (tgt := 30) X dX0_judgeOn_18 (by decide) (fun h7 => ?_) (fun h7 => ?_)
        · replace hf := okt h7 hf
          refine r_null X dX0_judgeOn_30 ?_
          exact r_qret (r := none) X rfl hR rfl (ok0 hf) dX0_judgeOn_31
        · replace hf := okf h7 hf
          refine r_aload_n X dX0_judgeOn_21 0 rfl isr_ref ?_
          refine r_get (i := t0) (v := .ref (G.1 (t0 + 1))) X in_X0_judgeOn_0 rfl 0 (by decide) (kd_in hk0 (by decide)) (EE_0 _ hk0) rfl (mem_ix 2 rfl) dX0_judgeOn_22 ?_
          refine r_iload_n X dX0_judgeOn_25 1 rfl ?_
          obtain ⟨g8, hf⟩ := okg hf
          refine r_aald (i := (t0 + 1)) (t := 1) (d := 10) (jn := a1.toNatClampNeg) X (kd_in (kf_0_1 hk0) (by decide)) (EE_30 _ (kf_0_1 hk0)) rfl rfl g8 dX0_judgeOn_26 ?_
          refine r_goto (tgt := 31) X dX0_judgeOn_27 (by decide) ?_
          exact r_qret (r := some ((t0 + 1) + 10 + a1.toNatClampNeg)) X rfl hR rfl (ok0 hf) dX0_judgeOn_31
theorem md_X0_judgeOn : MD yX0_judgeOn wsX0_judgeOn cX0_judgeOn 2 1 (some (.object "StairCourt$Judge")) := ⟨⟨_, rfl⟩, by decide +kernel, by decide +kernel, by decide⟩
theorem c_X0_judgeOn (l : Launch) (G : GX)  (t0 : Nat) (a1 : Int32) (hk0 : kd t0 = 0) (σ : MM) (h : (f_X0_judgeOn t0 a1 σ).isSome = true) : CTq l G yX0_judgeOn wsX0_judgeOn 3 [.ref (G.1 t0), .int a1] σ (f_X0_judgeOn t0 a1 σ) :=
  CTq_of md_X0_judgeOn (Nat.le_of_ble_eq_true rfl) (fun K X hR => e_X0_judgeOn X hR t0 a1 hk0 σ (ok_is h))
-- X0_personOf
theorem in_X0_personOf_0 : ∀ w ∈ u_ws RX0 TX0 12, w ∈ wsX0_personOf := fun _ h => List.mem_cons_of_mem _ (List.mem_append_right _ h)
def f_X0_personOf (t0 : Nat) (a1 : Int32) (σ : MM) : Option (Option Nat × MM) :=
  if a1 < 0 then some ((none : Option Nat), σ) else if (σ t0 3) ≤ a1 then some ((none : Option Nat), σ) else if (5 : Int32) ≤ a1 then some ((none : Option Nat), σ) else if a1 < 0 ∨ 5 ≤ a1.toNatClampNeg then none else some ((some ((t0 + 2) + 29 + a1.toNatClampNeg) : Option Nat), σ)
set_option maxRecDepth 100000 in
set_option maxHeartbeats 4000000 in
theorem e_X0_personOf {l : Launch} {G : GX} {K : KX} (X : FX G K cX0_personOf RX0 (some (.object "StairCourt$Person")) wsX0_personOf 2) {Φ : Option Nat → MM → Prop} (hR : Rq G K Φ) (t0 : Nat) (a1 : Int32) (hk0 : kd t0 = 0) (σ : MM) (hf : Ok Φ (f_X0_personOf t0 a1 σ)) : V l G 3 K 2 0 [(0, .ref (G.1 t0)), (1, .int a1)] [] σ := by
    unfold f_X0_personOf at hf
    refine r_iload_n X dX0_personOf_0 1 rfl ?_
    refine r_if_lt (tgt := 30) X dX0_personOf_1 (by decide) (fun h5 => ?_) (fun h5 => ?_)
    · replace hf := okt h5 hf
      refine r_null X dX0_personOf_30 ?_
      exact r_qret (r := none) X rfl hR rfl (ok0 hf) dX0_personOf_31
    · replace hf := okf h5 hf
      refine r_iload_n X dX0_personOf_4 1 rfl ?_
      refine r_aload_n X dX0_personOf_5 0 rfl isr_ref ?_
      refine r_get (i := t0) (v := .int (σ t0 3)) X in_X0_personOf_0 rfl 3 (by decide) (kd_in hk0 (by decide)) (EE_0 _ hk0) rfl (mem_ix 1 rfl) dX0_personOf_6 ?_
      refine r_icmp_ge (tgt := 30) X dX0_personOf_9 (by decide) (fun h6 => ?_) (fun h6 => ?_)
      · replace hf := okt h6 hf
        refine r_null X dX0_personOf_30 ?_
        exact r_qret (r := none) X rfl hR rfl (ok0 hf) dX0_personOf_31
      · replace hf := okf h6 hf
        refine r_iload_n X dX0_personOf_12 1 rfl ?_
        refine r_aload_n X dX0_personOf_13 0 rfl isr_ref ?_
        refine r_get (i := t0) (v := .ref (G.1 (t0 + 2))) X in_X0_personOf_0 rfl 2 (by decide) (kd_in hk0 (by decide)) (EE_0 _ hk0) rfl (mem_ix 2 rfl) dX0_personOf_14 ?_
        refine r_alen (i := (t0 + 2)) (t := 2) (v := (5 : Int32)) X (kd_in (kf_0_2 hk0) (by decide)) (EE_31 _ (kf_0_2 hk0)) rfl (by decide) dX0_personOf_17 ?_
        refine r_icmp_ge (tgt := 30) X dX0_personOf_18 (by decide) (fun h7 => ?_) (fun h7 => ?_)
        · replace hf := okt h7 hf
          refine r_null X dX0_personOf_30 ?_
          exact r_qret (r := none) X rfl hR rfl (ok0 hf) dX0_personOf_31
        · replace hf := okf h7 hf
          refine r_aload_n X dX0_personOf_21 0 rfl isr_ref ?_
          refine r_get (i := t0) (v := .ref (G.1 (t0 + 2))) X in_X0_personOf_0 rfl 2 (by decide) (kd_in hk0 (by decide)) (EE_0 _ hk0) rfl (mem_ix 2 rfl) dX0_personOf_22 ?_
          refine r_iload_n X dX0_personOf_25 1 rfl ?_
          obtain ⟨g8, hf⟩ := okg hf
          refine r_aald (i := (t0 + 2)) (t := 2) (d := 29) (jn := a1.toNatClampNeg) X (kd_in (kf_0_2 hk0) (by decide)) (EE_31 _ (kf_0_2 hk0)) rfl rfl g8 dX0_personOf_26 ?_
          refine r_goto (tgt := 31) X dX0_personOf_27 (by decide) ?_
          exact r_qret (r := some ((t0 + 2) + 29 + a1.toNatClampNeg)) X rfl hR rfl (ok0 hf) dX0_personOf_31
theorem md_X0_personOf : MD yX0_personOf wsX0_personOf cX0_personOf 2 1 (some (.object "StairCourt$Person")) := ⟨⟨_, rfl⟩, by decide +kernel, by decide +kernel, by decide⟩
theorem c_X0_personOf (l : Launch) (G : GX)  (t0 : Nat) (a1 : Int32) (hk0 : kd t0 = 0) (σ : MM) (h : (f_X0_personOf t0 a1 σ).isSome = true) : CTq l G yX0_personOf wsX0_personOf 3 [.ref (G.1 t0), .int a1] σ (f_X0_personOf t0 a1 σ) :=
  CTq_of md_X0_personOf (Nat.le_of_ble_eq_true rfl) (fun K X hR => e_X0_personOf X hR t0 a1 hk0 σ (ok_is h))
-- X0_textOf
theorem in_X0_textOf_0 : ∀ w ∈ u_ws RX0 TX0 12, w ∈ wsX0_textOf := fun _ h => List.mem_cons_of_mem _ (List.mem_append_right _ h)
def f_X0_textOf (t0 : Nat) (a1 : Int32) (σ : MM) : Option (Option Nat × MM) :=
  if a1 = 0 then some ((some (t0 + 3) : Option Nat), σ) else if a1 = (1 : Int32) then some ((some (t0 + 6) : Option Nat), σ) else some ((none : Option Nat), σ)
set_option maxRecDepth 100000 in
set_option maxHeartbeats 4000000 in
theorem e_X0_textOf {l : Launch} {G : GX} {K : KX} (X : FX G K cX0_textOf RX0 (some (.object "StairCourt$Text")) wsX0_textOf 2) {Φ : Option Nat → MM → Prop} (hR : Rq G K Φ) (t0 : Nat) (a1 : Int32) (hk0 : kd t0 = 0) (σ : MM) (hf : Ok Φ (f_X0_textOf t0 a1 σ)) : V l G 3 K 2 0 [(0, .ref (G.1 t0)), (1, .int a1)] [] σ := by
    unfold f_X0_textOf at hf
    refine r_iload_n X dX0_textOf_0 1 rfl ?_
    refine r_if_ne (tgt := 9) X dX0_textOf_1 (by decide) (fun h3 => ?_) (fun h3 => ?_)
    · replace hf := okf h3 hf
      refine r_iload_n X dX0_textOf_9 1 rfl ?_
      refine r_iconst X dX0_textOf_10 ci_1 ?_
      refine r_icmp_ne (tgt := 21) X dX0_textOf_11 (by decide) (fun h4 => ?_) (fun h4 => ?_)
      · replace hf := okf h4 hf
        refine r_null X dX0_textOf_21 ?_
        exact r_qret (r := none) X rfl hR rfl (ok0 hf) dX0_textOf_22
      · replace hf := okt h4 hf
        refine r_aload_n X dX0_textOf_14 0 rfl isr_ref ?_
        refine r_get (i := t0) (v := .ref (G.1 (t0 + 6))) X in_X0_textOf_0 rfl 5 (by decide) (kd_in hk0 (by decide)) (EE_0 _ hk0) rfl (mem_ix 2 rfl) dX0_textOf_15 ?_
        refine r_goto (tgt := 22) X dX0_textOf_18 (by decide) ?_
        exact r_qret (r := some (t0 + 6)) X rfl hR rfl (ok0 hf) dX0_textOf_22
    · replace hf := okt h3 hf
      refine r_aload_n X dX0_textOf_4 0 rfl isr_ref ?_
      refine r_get (i := t0) (v := .ref (G.1 (t0 + 3))) X in_X0_textOf_0 rfl 4 (by decide) (kd_in hk0 (by decide)) (EE_0 _ hk0) rfl (mem_ix 1 rfl) dX0_textOf_5 ?_
      exact r_qret (r := some (t0 + 3)) X rfl hR rfl (ok0 hf) dX0_textOf_8
theorem md_X0_textOf : MD yX0_textOf wsX0_textOf cX0_textOf 2 1 (some (.object "StairCourt$Text")) := ⟨⟨_, rfl⟩, by decide +kernel, by decide +kernel, by decide⟩
theorem c_X0_textOf (l : Launch) (G : GX)  (t0 : Nat) (a1 : Int32) (hk0 : kd t0 = 0) (σ : MM) (h : (f_X0_textOf t0 a1 σ).isSome = true) : CTq l G yX0_textOf wsX0_textOf 3 [.ref (G.1 t0), .int a1] σ (f_X0_textOf t0 a1 σ) :=
  CTq_of md_X0_textOf (Nat.le_of_ble_eq_true rfl) (fun K X hR => e_X0_textOf X hR t0 a1 hk0 σ (ok_is h))
-- X0_addStep
theorem in_X0_addStep_0 : ∀ w ∈ u_ws RX0 TX0 12, w ∈ wsX0_addStep := fun _ h => List.mem_cons_of_mem _ (List.mem_append_left _ (List.mem_append_right _ h))
theorem in_X0_addStep_2 : ∀ w ∈ u_ws RX2 TX2 4, w ∈ wsX0_addStep := fun _ h => List.mem_cons_of_mem _ (List.mem_append_right _ h)
def f_X0_addStep (t0 : Nat) (a1 : Int32) (a2 : Int32) (σ : MM) : Option (Int32 × MM) :=
  if (σ t0 1) < 0 then some ((σ t0 1), σ) else if (20 : Int32) ≤ (σ t0 1) then some ((σ t0 1), σ) else if (σ t0 1) < 0 ∨ 20 ≤ (σ t0 1).toNatClampNeg then none else lt (mu σ ((t0 + 1) + 10 + (σ t0 1).toNatClampNeg) 1 a1) (fun σ15 => lt (mu σ15 ((t0 + 1) + 10 + (σ t0 1).toNatClampNeg) 2 a2) (fun σ17 => lt (mu σ17 ((t0 + 1) + 10 + (σ t0 1).toNatClampNeg) 3 (0 : Int32)) (fun σ19 => lt (mu σ19 t0 1 ((σ19 t0 1) + (1 : Int32))) (fun σ21 => some ((σ t0 1), σ21)))))
set_option maxRecDepth 100000 in
set_option maxHeartbeats 4000000 in
theorem e_X0_addStep {l : Launch} {G : GX} {K : KX} (X : FX G K cX0_addStep RX0 (some .int) wsX0_addStep 5) {Φ : Int32 → MM → Prop} (hR : Ri G K Φ) (t0 : Nat) (a1 : Int32) (a2 : Int32) (hk0 : kd t0 = 0) (σ : MM) (hf : Ok Φ (f_X0_addStep t0 a1 a2 σ)) : V l G 3 K 5 0 [(0, .ref (G.1 t0)), (1, .int a1), (2, .int a2)] [] σ := by
    unfold f_X0_addStep at hf
    refine r_aload_n X dX0_addStep_0 0 rfl isr_ref ?_
    refine r_get (i := t0) (v := .int (σ t0 1)) X in_X0_addStep_0 rfl 1 (by decide) (kd_in hk0 (by decide)) (EE_0 _ hk0) rfl (mem_ix 1 rfl) dX0_addStep_1 ?_
    refine r_istore_n X dX0_addStep_4 (i := 3) rfl (by decide) (lv' := [(3, .int (σ t0 1)), (0, .ref (G.1 t0)), (1, .int a1), (2, .int a2)]) rfl ?_
    refine r_iload_n X dX0_addStep_5 0 rfl ?_
    refine r_if_lt (tgt := 54) X dX0_addStep_6 (by decide) (fun h12 => ?_) (fun h12 => ?_)
    · replace hf := okt h12 hf
      refine r_iload_n X dX0_addStep_54 0 rfl ?_
      exact r_iret X rfl hR (ok0 hf) dX0_addStep_55
    · replace hf := okf h12 hf
      refine r_iload_n X dX0_addStep_9 0 rfl ?_
      refine r_aload_n X dX0_addStep_10 1 rfl isr_ref ?_
      refine r_get (i := t0) (v := .ref (G.1 (t0 + 1))) X in_X0_addStep_0 rfl 0 (by decide) (kd_in hk0 (by decide)) (EE_0 _ hk0) rfl (mem_ix 2 rfl) dX0_addStep_11 ?_
      refine r_alen (i := (t0 + 1)) (t := 1) (v := (20 : Int32)) X (kd_in (kf_0_1 hk0) (by decide)) (EE_30 _ (kf_0_1 hk0)) rfl (by decide) dX0_addStep_14 ?_
      refine r_icmp_ge (tgt := 54) X dX0_addStep_15 (by decide) (fun h13 => ?_) (fun h13 => ?_)
      · replace hf := okt h13 hf
        refine r_iload_n X dX0_addStep_54 0 rfl ?_
        exact r_iret X rfl hR (ok0 hf) dX0_addStep_55
      · replace hf := okf h13 hf
        refine r_aload_n X dX0_addStep_18 1 rfl isr_ref ?_
        refine r_get (i := t0) (v := .ref (G.1 (t0 + 1))) X in_X0_addStep_0 rfl 0 (by decide) (kd_in hk0 (by decide)) (EE_0 _ hk0) rfl (mem_ix 2 rfl) dX0_addStep_19 ?_
        refine r_iload_n X dX0_addStep_22 0 rfl ?_
        obtain ⟨g14, hf⟩ := okg hf
        refine r_aald (i := (t0 + 1)) (t := 1) (d := 10) (jn := (σ t0 1).toNatClampNeg) X (kd_in (kf_0_1 hk0) (by decide)) (EE_30 _ (kf_0_1 hk0)) rfl rfl g14 dX0_addStep_23 ?_
        refine r_astore X dX0_addStep_24 (by decide) isr_ref (lv' := [(4, .ref (G.1 ((t0 + 1) + 10 + (σ t0 1).toNatClampNeg))), (3, .int (σ t0 1)), (0, .ref (G.1 t0)), (1, .int a1), (2, .int a2)]) rfl ?_
        refine r_aload X dX0_addStep_26 0 rfl isr_ref ?_
        refine r_iload_n X dX0_addStep_28 3 rfl ?_
        obtain ⟨σ15, e16, hf⟩ := okl hf
        refine r_put (i := ((t0 + 1) + 10 + (σ t0 1).toNatClampNeg)) (f := upd (σ ((t0 + 1) + 10 + (σ t0 1).toNatClampNeg)) 1 a1) X in_X0_addStep_2 tyX2 tyX2_ok nmX2 rfl 1 (by decide) (kd_in (ke_30 (kf_0_1 hk0) (inr_lt g14)) (by decide)) (EE_2 _ (ke_30 (kf_0_1 hk0) (inr_lt g14))) (EU_2_1 _ _ (ke_30 (kf_0_1 hk0) (inr_lt g14))) rfl (mem_ix 3 rfl) rfl rfl rfl rfl dX0_addStep_29 ?_
        refine r_sg e16 ?_
        refine r_aload X dX0_addStep_32 0 rfl isr_ref ?_
        refine r_iload_n X dX0_addStep_34 4 rfl ?_
        obtain ⟨σ17, e18, hf⟩ := okl hf
        refine r_put (i := ((t0 + 1) + 10 + (σ t0 1).toNatClampNeg)) (f := upd (σ15 ((t0 + 1) + 10 + (σ t0 1).toNatClampNeg)) 2 a2) X in_X0_addStep_2 tyX2 tyX2_ok nmX2 rfl 2 (by decide) (kd_in (ke_30 (kf_0_1 hk0) (inr_lt g14)) (by decide)) (EE_2 _ (ke_30 (kf_0_1 hk0) (inr_lt g14))) (EU_2_2 _ _ (ke_30 (kf_0_1 hk0) (inr_lt g14))) rfl (mem_ix 4 rfl) rfl rfl rfl rfl dX0_addStep_35 ?_
        refine r_sg e18 ?_
        refine r_aload X dX0_addStep_38 0 rfl isr_ref ?_
        refine r_iconst X dX0_addStep_40 ci_0 ?_
        obtain ⟨σ19, e20, hf⟩ := okl hf
        refine r_put (i := ((t0 + 1) + 10 + (σ t0 1).toNatClampNeg)) (f := upd (σ17 ((t0 + 1) + 10 + (σ t0 1).toNatClampNeg)) 3 (0 : Int32)) X in_X0_addStep_2 tyX2 tyX2_ok nmX2 rfl 3 (by decide) (kd_in (ke_30 (kf_0_1 hk0) (inr_lt g14)) (by decide)) (EE_2 _ (ke_30 (kf_0_1 hk0) (inr_lt g14))) (EU_2_3 _ _ (ke_30 (kf_0_1 hk0) (inr_lt g14))) rfl (mem_ix 5 rfl) rfl rfl rfl rfl dX0_addStep_41 ?_
        refine r_sg e20 ?_
        refine r_aload_n X dX0_addStep_44 2 rfl isr_ref ?_
        refine r_dup X dX0_addStep_45 rfl ?_
        refine r_get (i := t0) (v := .int (σ19 t0 1)) X in_X0_addStep_0 rfl 1 (by decide) (kd_in hk0 (by decide)) (EE_0 _ hk0) rfl (mem_ix 1 rfl) dX0_addStep_46 ?_
        refine r_iconst X dX0_addStep_49 ci_1 ?_
        refine r_iadd X dX0_addStep_50 ?_
        obtain ⟨σ21, e22, hf⟩ := okl hf
        refine r_put (i := t0) (f := upd (σ19 t0) 1 ((σ19 t0 1) + (1 : Int32))) X in_X0_addStep_0 tyX0 tyX0_ok nmX0 rfl 1 (by decide) (kd_in hk0 (by decide)) (EE_0 _ hk0) (EU_0_1 _ _ hk0) rfl (mem_ix 1 rfl) rfl rfl rfl rfl dX0_addStep_51 ?_
        refine r_sg e22 ?_
        refine r_iload_n X dX0_addStep_54 1 rfl ?_
        exact r_iret X rfl hR (ok0 hf) dX0_addStep_55
theorem md_X0_addStep : MD yX0_addStep wsX0_addStep cX0_addStep 5 2 (some .int) := ⟨⟨_, rfl⟩, by decide +kernel, by decide +kernel, by decide⟩
theorem c_X0_addStep (l : Launch) (G : GX)  (t0 : Nat) (a1 : Int32) (a2 : Int32) (hk0 : kd t0 = 0) (σ : MM) (h : (f_X0_addStep t0 a1 a2 σ).isSome = true) : CTi l G yX0_addStep wsX0_addStep 3 [.ref (G.1 t0), .int a1, .int a2] σ (f_X0_addStep t0 a1 a2 σ) :=
  CTi_of md_X0_addStep (Nat.le_of_ble_eq_true rfl) (fun K X hR => e_X0_addStep X hR t0 a1 a2 hk0 σ (ok_is h))
-- X0_addPerson
theorem in_X0_addPerson_0 : ∀ w ∈ u_ws RX0 TX0 12, w ∈ wsX0_addPerson := fun _ h => List.mem_cons_of_mem _ (List.mem_append_left _ (List.mem_append_right _ h))
theorem in_X0_addPerson_3 : ∀ w ∈ u_ws RX3 TX3 4, w ∈ wsX0_addPerson := fun _ h => List.mem_cons_of_mem _ (List.mem_append_right _ h)
def f_X0_addPerson (t0 : Nat) (a1 : Int32) (σ : MM) : Option (Int32 × MM) :=
  if (σ t0 3) < 0 then some ((σ t0 3), σ) else if (5 : Int32) ≤ (σ t0 3) then some ((σ t0 3), σ) else if (σ t0 3) < 0 ∨ 5 ≤ (σ t0 3).toNatClampNeg then none else lt (mu σ ((t0 + 2) + 29 + (σ t0 3).toNatClampNeg) 0 (0 : Int32)) (fun σ17 => lt (mu σ17 ((t0 + 2) + 29 + (σ t0 3).toNatClampNeg) 1 a1) (fun σ19 => lt (mu σ19 ((t0 + 2) + 29 + (σ t0 3).toNatClampNeg) 2 (0 : Int32)) (fun σ21 => lt (mu σ21 ((t0 + 2) + 29 + (σ t0 3).toNatClampNeg) 3 (0 : Int32)) (fun σ23 => lt (mu σ23 t0 3 ((σ23 t0 3) + (1 : Int32))) (fun σ25 => some ((σ t0 3), σ25))))))
set_option maxRecDepth 100000 in
set_option maxHeartbeats 4000000 in
theorem e_X0_addPerson {l : Launch} {G : GX} {K : KX} (X : FX G K cX0_addPerson RX0 (some .int) wsX0_addPerson 4) {Φ : Int32 → MM → Prop} (hR : Ri G K Φ) (t0 : Nat) (a1 : Int32) (hk0 : kd t0 = 0) (σ : MM) (hf : Ok Φ (f_X0_addPerson t0 a1 σ)) : V l G 3 K 4 0 [(0, .ref (G.1 t0)), (1, .int a1)] [] σ := by
    unfold f_X0_addPerson at hf
    refine r_aload_n X dX0_addPerson_0 0 rfl isr_ref ?_
    refine r_get (i := t0) (v := .int (σ t0 3)) X in_X0_addPerson_0 rfl 3 (by decide) (kd_in hk0 (by decide)) (EE_0 _ hk0) rfl (mem_ix 1 rfl) dX0_addPerson_1 ?_
    refine r_istore_n X dX0_addPerson_4 (i := 2) rfl (by decide) (lv' := [(2, .int (σ t0 3)), (0, .ref (G.1 t0)), (1, .int a1)]) rfl ?_
    refine r_iload_n X dX0_addPerson_5 0 rfl ?_
    refine r_if_lt (tgt := 55) X dX0_addPerson_6 (by decide) (fun h14 => ?_) (fun h14 => ?_)
    · replace hf := okt h14 hf
      refine r_iload_n X dX0_addPerson_55 0 rfl ?_
      exact r_iret X rfl hR (ok0 hf) dX0_addPerson_56
    · replace hf := okf h14 hf
      refine r_iload_n X dX0_addPerson_9 0 rfl ?_
      refine r_aload_n X dX0_addPerson_10 1 rfl isr_ref ?_
      refine r_get (i := t0) (v := .ref (G.1 (t0 + 2))) X in_X0_addPerson_0 rfl 2 (by decide) (kd_in hk0 (by decide)) (EE_0 _ hk0) rfl (mem_ix 2 rfl) dX0_addPerson_11 ?_
      refine r_alen (i := (t0 + 2)) (t := 2) (v := (5 : Int32)) X (kd_in (kf_0_2 hk0) (by decide)) (EE_31 _ (kf_0_2 hk0)) rfl (by decide) dX0_addPerson_14 ?_
      refine r_icmp_ge (tgt := 55) X dX0_addPerson_15 (by decide) (fun h15 => ?_) (fun h15 => ?_)
      · replace hf := okt h15 hf
        refine r_iload_n X dX0_addPerson_55 0 rfl ?_
        exact r_iret X rfl hR (ok0 hf) dX0_addPerson_56
      · replace hf := okf h15 hf
        refine r_aload_n X dX0_addPerson_18 1 rfl isr_ref ?_
        refine r_get (i := t0) (v := .ref (G.1 (t0 + 2))) X in_X0_addPerson_0 rfl 2 (by decide) (kd_in hk0 (by decide)) (EE_0 _ hk0) rfl (mem_ix 2 rfl) dX0_addPerson_19 ?_
        refine r_iload_n X dX0_addPerson_22 0 rfl ?_
        obtain ⟨g16, hf⟩ := okg hf
        refine r_aald (i := (t0 + 2)) (t := 2) (d := 29) (jn := (σ t0 3).toNatClampNeg) X (kd_in (kf_0_2 hk0) (by decide)) (EE_31 _ (kf_0_2 hk0)) rfl rfl g16 dX0_addPerson_23 ?_
        refine r_astore_n X dX0_addPerson_24 (i := 3) rfl (by decide) isr_ref (lv' := [(3, .ref (G.1 ((t0 + 2) + 29 + (σ t0 3).toNatClampNeg))), (2, .int (σ t0 3)), (0, .ref (G.1 t0)), (1, .int a1)]) rfl ?_
        refine r_aload_n X dX0_addPerson_25 0 rfl isr_ref ?_
        refine r_iconst X dX0_addPerson_26 ci_0 ?_
        obtain ⟨σ17, e18, hf⟩ := okl hf
        refine r_put (i := ((t0 + 2) + 29 + (σ t0 3).toNatClampNeg)) (f := upd (σ ((t0 + 2) + 29 + (σ t0 3).toNatClampNeg)) 0 (0 : Int32)) X in_X0_addPerson_3 tyX3 tyX3_ok nmX3 rfl 0 (by decide) (kd_in (ke_31 (kf_0_2 hk0) (inr_lt g16)) (by decide)) (EE_3 _ (ke_31 (kf_0_2 hk0) (inr_lt g16))) (EU_3_0 _ _ (ke_31 (kf_0_2 hk0) (inr_lt g16))) rfl (mem_ix 3 rfl) rfl rfl rfl rfl dX0_addPerson_27 ?_
        refine r_sg e18 ?_
        refine r_aload_n X dX0_addPerson_30 0 rfl isr_ref ?_
        refine r_iload_n X dX0_addPerson_31 3 rfl ?_
        obtain ⟨σ19, e20, hf⟩ := okl hf
        refine r_put (i := ((t0 + 2) + 29 + (σ t0 3).toNatClampNeg)) (f := upd (σ17 ((t0 + 2) + 29 + (σ t0 3).toNatClampNeg)) 1 a1) X in_X0_addPerson_3 tyX3 tyX3_ok nmX3 rfl 1 (by decide) (kd_in (ke_31 (kf_0_2 hk0) (inr_lt g16)) (by decide)) (EE_3 _ (ke_31 (kf_0_2 hk0) (inr_lt g16))) (EU_3_1 _ _ (ke_31 (kf_0_2 hk0) (inr_lt g16))) rfl (mem_ix 4 rfl) rfl rfl rfl rfl dX0_addPerson_32 ?_
        refine r_sg e20 ?_
        refine r_aload_n X dX0_addPerson_35 0 rfl isr_ref ?_
        refine r_iconst X dX0_addPerson_36 ci_0 ?_
        obtain ⟨σ21, e22, hf⟩ := okl hf
        refine r_put (i := ((t0 + 2) + 29 + (σ t0 3).toNatClampNeg)) (f := upd (σ19 ((t0 + 2) + 29 + (σ t0 3).toNatClampNeg)) 2 (0 : Int32)) X in_X0_addPerson_3 tyX3 tyX3_ok nmX3 rfl 2 (by decide) (kd_in (ke_31 (kf_0_2 hk0) (inr_lt g16)) (by decide)) (EE_3 _ (ke_31 (kf_0_2 hk0) (inr_lt g16))) (EU_3_2 _ _ (ke_31 (kf_0_2 hk0) (inr_lt g16))) rfl (mem_ix 5 rfl) rfl rfl rfl rfl dX0_addPerson_37 ?_
        refine r_sg e22 ?_
        refine r_aload_n X dX0_addPerson_40 0 rfl isr_ref ?_
        refine r_iconst X dX0_addPerson_41 ci_0 ?_
        obtain ⟨σ23, e24, hf⟩ := okl hf
        refine r_put (i := ((t0 + 2) + 29 + (σ t0 3).toNatClampNeg)) (f := upd (σ21 ((t0 + 2) + 29 + (σ t0 3).toNatClampNeg)) 3 (0 : Int32)) X in_X0_addPerson_3 tyX3 tyX3_ok nmX3 rfl 3 (by decide) (kd_in (ke_31 (kf_0_2 hk0) (inr_lt g16)) (by decide)) (EE_3 _ (ke_31 (kf_0_2 hk0) (inr_lt g16))) (EU_3_3 _ _ (ke_31 (kf_0_2 hk0) (inr_lt g16))) rfl (mem_ix 6 rfl) rfl rfl rfl rfl dX0_addPerson_42 ?_
        refine r_sg e24 ?_
        refine r_aload_n X dX0_addPerson_45 2 rfl isr_ref ?_
        refine r_dup X dX0_addPerson_46 rfl ?_
        refine r_get (i := t0) (v := .int (σ23 t0 3)) X in_X0_addPerson_0 rfl 3 (by decide) (kd_in hk0 (by decide)) (EE_0 _ hk0) rfl (mem_ix 1 rfl) dX0_addPerson_47 ?_
        refine r_iconst X dX0_addPerson_50 ci_1 ?_
        refine r_iadd X dX0_addPerson_51 ?_
        obtain ⟨σ25, e26, hf⟩ := okl hf
        refine r_put (i := t0) (f := upd (σ23 t0) 3 ((σ23 t0 3) + (1 : Int32))) X in_X0_addPerson_0 tyX0 tyX0_ok nmX0 rfl 3 (by decide) (kd_in hk0 (by decide)) (EE_0 _ hk0) (EU_0_3 _ _ hk0) rfl (mem_ix 1 rfl) rfl rfl rfl rfl dX0_addPerson_52 ?_
        refine r_sg e26 ?_
        refine r_iload_n X dX0_addPerson_55 1 rfl ?_
        exact r_iret X rfl hR (ok0 hf) dX0_addPerson_56
theorem md_X0_addPerson : MD yX0_addPerson wsX0_addPerson cX0_addPerson 4 1 (some .int) := ⟨⟨_, rfl⟩, by decide +kernel, by decide +kernel, by decide⟩
theorem c_X0_addPerson (l : Launch) (G : GX)  (t0 : Nat) (a1 : Int32) (hk0 : kd t0 = 0) (σ : MM) (h : (f_X0_addPerson t0 a1 σ).isSome = true) : CTi l G yX0_addPerson wsX0_addPerson 3 [.ref (G.1 t0), .int a1] σ (f_X0_addPerson t0 a1 σ) :=
  CTi_of md_X0_addPerson (Nat.le_of_ble_eq_true rfl) (fun K X hR => e_X0_addPerson X hR t0 a1 hk0 σ (ok_is h))
-- X0_isUp
theorem in_X0_isUp_3 : ∀ w ∈ u_ws RX3 TX3 4, w ∈ wsX0_isUp := fun _ h => List.mem_cons_of_mem _ (List.mem_append_left _ (List.mem_append_right _ h))
theorem in_X0_isUp_0 : ∀ w ∈ u_ws RX0 TX0 12, w ∈ wsX0_isUp := fun _ h => List.mem_cons_of_mem _ (List.mem_append_right _ h)
def f_X0_isUp (t0 : Nat) (t1 : Nat) (σ : MM) : Option (Int32 × MM) :=
  if (σ t1 0) < (σ t0 1) then some ((0 : Int32), σ) else some ((1 : Int32), σ)
set_option maxRecDepth 100000 in
set_option maxHeartbeats 4000000 in
theorem e_X0_isUp {l : Launch} {G : GX} {K : KX} (X : FX G K cX0_isUp RX0 (some .boolean) wsX0_isUp 2) {Φ : Int32 → MM → Prop} (hR : Ri G K Φ) (t0 : Nat) (t1 : Nat) (hk0 : kd t0 = 0) (hk1 : kd t1 = 3) (σ : MM) (hf : Ok Φ (f_X0_isUp t0 t1 σ)) : V l G 3 K 2 0 [(0, .ref (G.1 t0)), (1, .ref (G.1 t1))] [] σ := by
    unfold f_X0_isUp at hf
    refine r_aload_n X dX0_isUp_0 1 rfl isr_ref ?_
    refine r_get (i := t1) (v := .int (σ t1 0)) X in_X0_isUp_3 rfl 0 (by decide) (kd_in hk1 (by decide)) (EE_3 _ hk1) rfl (mem_ix 1 rfl) dX0_isUp_1 ?_
    refine r_aload_n X dX0_isUp_4 0 rfl isr_ref ?_
    refine r_get (i := t0) (v := .int (σ t0 1)) X in_X0_isUp_0 rfl 1 (by decide) (kd_in hk0 (by decide)) (EE_0 _ hk0) rfl (mem_ix 2 rfl) dX0_isUp_5 ?_
    refine r_icmp_lt (tgt := 15) X dX0_isUp_8 (by decide) (fun h2 => ?_) (fun h2 => ?_)
    · replace hf := okt h2 hf
      refine r_iconst X dX0_isUp_15 ci_0 ?_
      exact r_zret X rfl hR (by decide) (ok0 hf) dX0_isUp_16
    · replace hf := okf h2 hf
      refine r_iconst X dX0_isUp_11 ci_1 ?_
      refine r_goto (tgt := 16) X dX0_isUp_12 (by decide) ?_
      exact r_zret X rfl hR (by decide) (ok0 hf) dX0_isUp_16
theorem md_X0_isUp : MD yX0_isUp wsX0_isUp cX0_isUp 2 1 (some .boolean) := ⟨⟨_, rfl⟩, by decide +kernel, by decide +kernel, by decide⟩
theorem c_X0_isUp (l : Launch) (G : GX)  (t0 : Nat) (t1 : Nat) (hk0 : kd t0 = 0) (hk1 : kd t1 = 3) (σ : MM) (h : (f_X0_isUp t0 t1 σ).isSome = true) : CTi l G yX0_isUp wsX0_isUp 3 [.ref (G.1 t0), .ref (G.1 t1)] σ (f_X0_isUp t0 t1 σ) :=
  CTi_of md_X0_isUp (Nat.le_of_ble_eq_true rfl) (fun K X hR => e_X0_isUp X hR t0 t1 hk0 hk1 σ (ok_is h))
-- X0_canGo
theorem in_X0_canGo_3 : ∀ w ∈ u_ws RX3 TX3 4, w ∈ wsX0_canGo := fun _ h => List.mem_cons_of_mem _ (List.mem_append_left _ (List.mem_append_right _ h))
theorem in_X0_canGo_0 : ∀ w ∈ u_ws RX0 TX0 12, w ∈ wsX0_canGo := fun _ h => List.mem_cons_of_mem _ (List.mem_append_right _ h)
def f_X0_canGo (t0 : Nat) (t1 : Nat) (σ : MM) : Option (Int32 × MM) :=
  bd (f_X0_isUp t0 t1 σ) (fun r6 σ7 => if r6 = 0 then if (σ7 t1 1) ≤ 0 then some ((0 : Int32), σ7) else some ((1 : Int32), σ7) else some ((0 : Int32), σ7))
set_option maxRecDepth 100000 in
set_option maxHeartbeats 4000000 in
theorem e_X0_canGo {l : Launch} {G : GX} {K : KX} (X : FX G K cX0_canGo RX0 (some .boolean) wsX0_canGo 2) {Φ : Int32 → MM → Prop} (hR : Ri G K Φ) (t0 : Nat) (t1 : Nat) (hk0 : kd t0 = 0) (hk1 : kd t1 = 3) (σ : MM) (hf : Ok Φ (f_X0_canGo t0 t1 σ)) : V l G 4 K 2 0 [(0, .ref (G.1 t0)), (1, .ref (G.1 t1))] [] σ := by
    unfold f_X0_canGo at hf
    refine r_aload_n X dX0_canGo_0 0 rfl isr_ref ?_
    refine r_aload_n X dX0_canGo_1 1 rfl isr_ref ?_
    refine r_callVi (rest := []) X (c_X0_isUp l G t0 t1 hk0 hk1 σ (oks hf)) md_X0_isUp gX0_canGo_X0_isUp (by decide) rfl rfl (kd_in hk0 (by decide)) (EE_0 _ hk0) rfl rfl (Nat.le_of_ble_eq_true rfl) dX0_canGo_2 (fun r6 σ7 e8 => ?_)
    replace hf := okn e8 hf
    refine r_if_ne (tgt := 19) X dX0_canGo_5 (by decide) (fun h9 => ?_) (fun h9 => ?_)
    · replace hf := okf h9 hf
      refine r_iconst X dX0_canGo_19 ci_0 ?_
      exact r_zret X rfl hR (by decide) (ok0 hf) dX0_canGo_20
    · replace hf := okt h9 hf
      refine r_aload_n X dX0_canGo_8 1 rfl isr_ref ?_
      refine r_get (i := t1) (v := .int (σ7 t1 1)) X in_X0_canGo_3 rfl 1 (by decide) (kd_in hk1 (by decide)) (EE_3 _ hk1) rfl (mem_ix 1 rfl) dX0_canGo_9 ?_
      refine r_if_le (tgt := 19) X dX0_canGo_12 (by decide) (fun h10 => ?_) (fun h10 => ?_)
      · replace hf := okt h10 hf
        refine r_iconst X dX0_canGo_19 ci_0 ?_
        exact r_zret X rfl hR (by decide) (ok0 hf) dX0_canGo_20
      · replace hf := okf h10 hf
        refine r_iconst X dX0_canGo_15 ci_1 ?_
        refine r_goto (tgt := 20) X dX0_canGo_16 (by decide) ?_
        exact r_zret X rfl hR (by decide) (ok0 hf) dX0_canGo_20
theorem md_X0_canGo : MD yX0_canGo wsX0_canGo cX0_canGo 2 1 (some .boolean) := ⟨⟨_, rfl⟩, by decide +kernel, by decide +kernel, by decide⟩
theorem c_X0_canGo (l : Launch) (G : GX)  (t0 : Nat) (t1 : Nat) (hk0 : kd t0 = 0) (hk1 : kd t1 = 3) (σ : MM) (h : (f_X0_canGo t0 t1 σ).isSome = true) : CTi l G yX0_canGo wsX0_canGo 4 [.ref (G.1 t0), .ref (G.1 t1)] σ (f_X0_canGo t0 t1 σ) :=
  CTi_of md_X0_canGo (Nat.le_of_ble_eq_true rfl) (fun K X hR => e_X0_canGo X hR t0 t1 hk0 hk1 σ (ok_is h))
-- X2_nodsPlainly
theorem in_X2_nodsPlainly_2 : ∀ w ∈ u_ws RX2 TX2 4, w ∈ wsX2_nodsPlainly := fun _ h => List.mem_cons_of_mem _ (List.mem_append_right _ h)
def f_X2_nodsPlainly (t0 : Nat) (a1 : Int32) (σ : MM) : Option (Int32 × MM) :=
  if a1 < ((5 : Int32) * (σ t0 2)) then some ((0 : Int32), σ) else some ((1 : Int32), σ)
set_option maxRecDepth 100000 in
set_option maxHeartbeats 4000000 in
theorem e_X2_nodsPlainly {l : Launch} {G : GX} {K : KX} (X : FX G K cX2_nodsPlainly RX2 (some .boolean) wsX2_nodsPlainly 2) {Φ : Int32 → MM → Prop} (hR : Ri G K Φ) (t0 : Nat) (a1 : Int32) (hk0 : kd t0 = 2) (σ : MM) (hf : Ok Φ (f_X2_nodsPlainly t0 a1 σ)) : V l G 3 K 2 0 [(0, .ref (G.1 t0)), (1, .int a1)] [] σ := by
    unfold f_X2_nodsPlainly at hf
    refine r_iload_n X dX2_nodsPlainly_0 1 rfl ?_
    refine r_iconst X dX2_nodsPlainly_1 ci_5 ?_
    refine r_aload_n X dX2_nodsPlainly_2 0 rfl isr_ref ?_
    refine r_get (i := t0) (v := .int (σ t0 2)) X in_X2_nodsPlainly_2 rfl 2 (by decide) (kd_in hk0 (by decide)) (EE_2 _ hk0) rfl (mem_ix 1 rfl) dX2_nodsPlainly_3 ?_
    refine r_imul X dX2_nodsPlainly_6 ?_
    refine r_icmp_lt (tgt := 14) X dX2_nodsPlainly_7 (by decide) (fun h2 => ?_) (fun h2 => ?_)
    · replace hf := okt h2 hf
      refine r_iconst X dX2_nodsPlainly_14 ci_0 ?_
      exact r_zret X rfl hR (by decide) (ok0 hf) dX2_nodsPlainly_15
    · replace hf := okf h2 hf
      refine r_iconst X dX2_nodsPlainly_10 ci_1 ?_
      refine r_goto (tgt := 15) X dX2_nodsPlainly_11 (by decide) ?_
      exact r_zret X rfl hR (by decide) (ok0 hf) dX2_nodsPlainly_15
theorem md_X2_nodsPlainly : MD yX2_nodsPlainly wsX2_nodsPlainly cX2_nodsPlainly 2 1 (some .boolean) := ⟨⟨_, rfl⟩, by decide +kernel, by decide +kernel, by decide⟩
theorem c_X2_nodsPlainly (l : Launch) (G : GX)  (t0 : Nat) (a1 : Int32) (hk0 : kd t0 = 2) (σ : MM) (h : (f_X2_nodsPlainly t0 a1 σ).isSome = true) : CTi l G yX2_nodsPlainly wsX2_nodsPlainly 3 [.ref (G.1 t0), .int a1] σ (f_X2_nodsPlainly t0 a1 σ) :=
  CTi_of md_X2_nodsPlainly (Nat.le_of_ble_eq_true rfl) (fun K X hR => e_X2_nodsPlainly X hR t0 a1 hk0 σ (ok_is h))
-- X2_nodsStrictly
theorem in_X2_nodsStrictly_2 : ∀ w ∈ u_ws RX2 TX2 4, w ∈ wsX2_nodsStrictly := fun _ h => List.mem_cons_of_mem _ (List.mem_append_right _ h)
def f_X2_nodsStrictly (t0 : Nat) (a1 : Int32) (σ : MM) : Option (Int32 × MM) :=
  bd (f_X2_nodsPlainly t0 a1 σ) (fun r6 σ7 => if r6 = 0 then some ((0 : Int32), σ7) else if (a1 - a1 / (3 : Int32) * (3 : Int32)) = ((σ7 t0 2) - (σ7 t0 2) / (3 : Int32) * (3 : Int32)) then some ((1 : Int32), σ7) else some ((0 : Int32), σ7))
set_option maxRecDepth 100000 in
set_option maxHeartbeats 4000000 in
theorem e_X2_nodsStrictly {l : Launch} {G : GX} {K : KX} (X : FX G K cX2_nodsStrictly RX2 (some .boolean) wsX2_nodsStrictly 2) {Φ : Int32 → MM → Prop} (hR : Ri G K Φ) (t0 : Nat) (a1 : Int32) (hk0 : kd t0 = 2) (σ : MM) (hf : Ok Φ (f_X2_nodsStrictly t0 a1 σ)) : V l G 4 K 2 0 [(0, .ref (G.1 t0)), (1, .int a1)] [] σ := by
    unfold f_X2_nodsStrictly at hf
    refine r_aload_n X dX2_nodsStrictly_0 0 rfl isr_ref ?_
    refine r_iload_n X dX2_nodsStrictly_1 1 rfl ?_
    refine r_callVi (rest := []) X (c_X2_nodsPlainly l G t0 a1 hk0 σ (oks hf)) md_X2_nodsPlainly gX2_nodsStrictly_X2_nodsPlainly (by decide) rfl rfl (kd_in hk0 (by decide)) (EE_2 _ hk0) rfl rfl (Nat.le_of_ble_eq_true rfl) dX2_nodsStrictly_2 (fun r6 σ7 e8 => ?_)
    replace hf := okn e8 hf
    refine r_if_eq (tgt := 24) X dX2_nodsStrictly_5 (by decide) (fun h9 => ?_) (fun h9 => ?_)
    · replace hf := okt h9 hf
      refine r_iconst X dX2_nodsStrictly_24 ci_0 ?_
      exact r_zret X rfl hR (by decide) (ok0 hf) dX2_nodsStrictly_25
    · replace hf := okf h9 hf
      refine r_iload_n X dX2_nodsStrictly_8 1 rfl ?_
      refine r_iconst X dX2_nodsStrictly_9 ci_3 ?_
      refine r_irem X dX2_nodsStrictly_10 (by decide) ?_
      refine r_aload_n X dX2_nodsStrictly_11 0 rfl isr_ref ?_
      refine r_get (i := t0) (v := .int (σ7 t0 2)) X in_X2_nodsStrictly_2 rfl 2 (by decide) (kd_in hk0 (by decide)) (EE_2 _ hk0) rfl (mem_ix 1 rfl) dX2_nodsStrictly_12 ?_
      refine r_iconst X dX2_nodsStrictly_15 ci_3 ?_
      refine r_irem X dX2_nodsStrictly_16 (by decide) ?_
      refine r_icmp_ne (tgt := 24) X dX2_nodsStrictly_17 (by decide) (fun h10 => ?_) (fun h10 => ?_)
      · replace hf := okf h10 hf
        refine r_iconst X dX2_nodsStrictly_24 ci_0 ?_
        exact r_zret X rfl hR (by decide) (ok0 hf) dX2_nodsStrictly_25
      · replace hf := okt h10 hf
        refine r_iconst X dX2_nodsStrictly_20 ci_1 ?_
        refine r_goto (tgt := 25) X dX2_nodsStrictly_21 (by decide) ?_
        exact r_zret X rfl hR (by decide) (ok0 hf) dX2_nodsStrictly_25
theorem md_X2_nodsStrictly : MD yX2_nodsStrictly wsX2_nodsStrictly cX2_nodsStrictly 2 1 (some .boolean) := ⟨⟨_, rfl⟩, by decide +kernel, by decide +kernel, by decide⟩
theorem c_X2_nodsStrictly (l : Launch) (G : GX)  (t0 : Nat) (a1 : Int32) (hk0 : kd t0 = 2) (σ : MM) (h : (f_X2_nodsStrictly t0 a1 σ).isSome = true) : CTi l G yX2_nodsStrictly wsX2_nodsStrictly 4 [.ref (G.1 t0), .int a1] σ (f_X2_nodsStrictly t0 a1 σ) :=
  CTi_of md_X2_nodsStrictly (Nat.le_of_ble_eq_true rfl) (fun K X hR => e_X2_nodsStrictly X hR t0 a1 hk0 σ (ok_is h))
-- X2_nodsMildly
theorem in_X2_nodsMildly_2 : ∀ w ∈ u_ws RX2 TX2 4, w ∈ wsX2_nodsMildly := fun _ h => List.mem_cons_of_mem _ (List.mem_append_right _ h)
def f_X2_nodsMildly (t0 : Nat) (a1 : Int32) (σ : MM) : Option (Int32 × MM) :=
  bd (f_X2_nodsPlainly t0 a1 σ) (fun r6 σ7 => if r6 = 0 then if (a1 - a1 / (10 : Int32) * (10 : Int32)) = (σ7 t0 2) then some ((1 : Int32), σ7) else some ((0 : Int32), σ7) else some ((1 : Int32), σ7))
set_option maxRecDepth 100000 in
set_option maxHeartbeats 4000000 in
theorem e_X2_nodsMildly {l : Launch} {G : GX} {K : KX} (X : FX G K cX2_nodsMildly RX2 (some .boolean) wsX2_nodsMildly 2) {Φ : Int32 → MM → Prop} (hR : Ri G K Φ) (t0 : Nat) (a1 : Int32) (hk0 : kd t0 = 2) (σ : MM) (hf : Ok Φ (f_X2_nodsMildly t0 a1 σ)) : V l G 4 K 2 0 [(0, .ref (G.1 t0)), (1, .int a1)] [] σ := by
    unfold f_X2_nodsMildly at hf
    refine r_aload_n X dX2_nodsMildly_0 0 rfl isr_ref ?_
    refine r_iload_n X dX2_nodsMildly_1 1 rfl ?_
    refine r_callVi (rest := []) X (c_X2_nodsPlainly l G t0 a1 hk0 σ (oks hf)) md_X2_nodsPlainly gX2_nodsMildly_X2_nodsPlainly (by decide) rfl rfl (kd_in hk0 (by decide)) (EE_2 _ hk0) rfl rfl (Nat.le_of_ble_eq_true rfl) dX2_nodsMildly_2 (fun r6 σ7 e8 => ?_)
    replace hf := okn e8 hf
    refine r_if_ne (tgt := 19) X dX2_nodsMildly_5 (by decide) (fun h9 => ?_) (fun h9 => ?_)
    · replace hf := okf h9 hf
      refine r_iconst X dX2_nodsMildly_19 ci_1 ?_
      refine r_goto (tgt := 24) X dX2_nodsMildly_20 (by decide) ?_
      exact r_zret X rfl hR (by decide) (ok0 hf) dX2_nodsMildly_24
    · replace hf := okt h9 hf
      refine r_iload_n X dX2_nodsMildly_8 1 rfl ?_
      refine r_bipush X dX2_nodsMildly_9 cb_10 ?_
      refine r_irem X dX2_nodsMildly_11 (by decide) ?_
      refine r_aload_n X dX2_nodsMildly_12 0 rfl isr_ref ?_
      refine r_get (i := t0) (v := .int (σ7 t0 2)) X in_X2_nodsMildly_2 rfl 2 (by decide) (kd_in hk0 (by decide)) (EE_2 _ hk0) rfl (mem_ix 1 rfl) dX2_nodsMildly_13 ?_
      refine r_icmp_ne (tgt := 23) X dX2_nodsMildly_16 (by decide) (fun h10 => ?_) (fun h10 => ?_)
      · replace hf := okf h10 hf
        refine r_iconst X dX2_nodsMildly_23 ci_0 ?_
        exact r_zret X rfl hR (by decide) (ok0 hf) dX2_nodsMildly_24
      · replace hf := okt h10 hf
        refine r_iconst X dX2_nodsMildly_19 ci_1 ?_
        refine r_goto (tgt := 24) X dX2_nodsMildly_20 (by decide) ?_
        exact r_zret X rfl hR (by decide) (ok0 hf) dX2_nodsMildly_24
theorem md_X2_nodsMildly : MD yX2_nodsMildly wsX2_nodsMildly cX2_nodsMildly 2 1 (some .boolean) := ⟨⟨_, rfl⟩, by decide +kernel, by decide +kernel, by decide⟩
theorem c_X2_nodsMildly (l : Launch) (G : GX)  (t0 : Nat) (a1 : Int32) (hk0 : kd t0 = 2) (σ : MM) (h : (f_X2_nodsMildly t0 a1 σ).isSome = true) : CTi l G yX2_nodsMildly wsX2_nodsMildly 4 [.ref (G.1 t0), .int a1] σ (f_X2_nodsMildly t0 a1 σ) :=
  CTi_of md_X2_nodsMildly (Nat.le_of_ble_eq_true rfl) (fun K X hR => e_X2_nodsMildly X hR t0 a1 hk0 σ (ok_is h))
-- X2_nods
theorem in_X2_nods_2 : ∀ w ∈ u_ws RX2 TX2 4, w ∈ wsX2_nods := fun _ h => List.mem_cons_of_mem _ (List.mem_append_right _ h)
def f_X2_nods (t0 : Nat) (a1 : Int32) (a2 : Int32) (σ : MM) : Option (Int32 × MM) :=
  if (σ t0 1) = (1 : Int32) then bd (f_X2_nodsStrictly t0 a1 σ) (fun r38 σ39 => if r38 = 0 ∨ r38 = 1 then some (r38, σ39) else none) else if (σ t0 1) = (2 : Int32) then bd (f_X2_nodsMildly t0 a1 σ) (fun r42 σ43 => if r42 = 0 ∨ r42 = 1 then some (r42, σ43) else none) else if (σ t0 1) = (3 : Int32) then if a1 = ((7 : Int32) * (σ t0 2)) then some ((1 : Int32), σ) else some ((0 : Int32), σ) else if (σ t0 1) = (4 : Int32) then bd (f_X2_nodsStrictly t0 a1 σ) (fun r47 σ48 => if r47 = 0 then some ((0 : Int32), σ48) else if (a2 - a2 / (24 : Int32) * (24 : Int32)) < (12 : Int32) then some ((0 : Int32), σ48) else some ((1 : Int32), σ48)) else if (σ t0 1) = (5 : Int32) then bd (f_X2_nodsMildly t0 a1 σ) (fun r52 σ53 => if r52 = 0 then some ((0 : Int32), σ53) else if ((90 : Int32) - (σ53 t0 0)) ≤ a1 then some ((0 : Int32), σ53) else some ((1 : Int32), σ53)) else if (σ t0 1) = (6 : Int32) then bd (f_X2_nodsPlainly t0 a1 σ) (fun r57 σ58 => if r57 = 0 then some ((0 : Int32), σ58) else if ((σ58 t0 3) - (σ58 t0 3) / (2 : Int32) * (2 : Int32)) = 0 then some ((1 : Int32), σ58) else some ((0 : Int32), σ58)) else bd (f_X2_nodsPlainly t0 a1 σ) (fun r62 σ63 => if r62 = 0 ∨ r62 = 1 then some (r62, σ63) else none)
set_option maxRecDepth 100000 in
set_option maxHeartbeats 4000000 in
theorem e_X2_nods {l : Launch} {G : GX} {K : KX} (X : FX G K cX2_nods RX2 (some .boolean) wsX2_nods 3) {Φ : Int32 → MM → Prop} (hR : Ri G K Φ) (t0 : Nat) (a1 : Int32) (a2 : Int32) (hk0 : kd t0 = 2) (σ : MM) (hf : Ok Φ (f_X2_nods t0 a1 a2 σ)) : V l G 5 K 3 0 [(0, .ref (G.1 t0)), (1, .int a1), (2, .int a2)] [] σ := by
    unfold f_X2_nods at hf
    refine r_aload_n X dX2_nods_0 0 rfl isr_ref ?_
    refine r_get (i := t0) (v := .int (σ t0 1)) X in_X2_nods_2 rfl 1 (by decide) (kd_in hk0 (by decide)) (EE_2 _ hk0) rfl (mem_ix 1 rfl) dX2_nods_1 ?_
    by_cases h32 : (σ t0 1) = (1 : Int32)
    · replace hf := okt h32 hf
      refine r_table (off := 40) (tgt := 44) X [(1, 40), (2, 46), (3, 52), (4, 69), (5, 92), (6, 117)] 6 dX2_nods_4 (by decide) (by decide +kernel) (by decide +kernel) (by rw [h32]; rfl) (by decide) ?_
      refine r_aload_n X dX2_nods_44 0 rfl isr_ref ?_
      refine r_iload_n X dX2_nods_45 1 rfl ?_
      refine r_callVi (rest := []) X (c_X2_nodsStrictly l G t0 a1 hk0 σ (oks hf)) md_X2_nodsStrictly gX2_nods_X2_nodsStrictly (by decide) rfl rfl (kd_in hk0 (by decide)) (EE_2 _ hk0) rfl rfl (Nat.le_of_ble_eq_true rfl) dX2_nods_46 (fun r38 σ39 e40 => ?_)
      replace hf := okn e40 hf
      obtain ⟨g41, hf⟩ := okp hf
      exact r_zret X rfl hR g41 (ok0 hf) dX2_nods_49
    replace hf := okf h32 hf
    by_cases h33 : (σ t0 1) = (2 : Int32)
    · replace hf := okt h33 hf
      refine r_table (off := 46) (tgt := 50) X [(1, 40), (2, 46), (3, 52), (4, 69), (5, 92), (6, 117)] 6 dX2_nods_4 (by decide) (by decide +kernel) (by decide +kernel) (by rw [h33]; rfl) (by decide) ?_
      refine r_aload_n X dX2_nods_50 0 rfl isr_ref ?_
      refine r_iload_n X dX2_nods_51 1 rfl ?_
      refine r_callVi (rest := []) X (c_X2_nodsMildly l G t0 a1 hk0 σ (oks hf)) md_X2_nodsMildly gX2_nods_X2_nodsMildly (by decide) rfl rfl (kd_in hk0 (by decide)) (EE_2 _ hk0) rfl rfl (Nat.le_of_ble_eq_true rfl) dX2_nods_52 (fun r42 σ43 e44 => ?_)
      replace hf := okn e44 hf
      obtain ⟨g45, hf⟩ := okp hf
      exact r_zret X rfl hR g45 (ok0 hf) dX2_nods_55
    replace hf := okf h33 hf
    by_cases h34 : (σ t0 1) = (3 : Int32)
    · replace hf := okt h34 hf
      refine r_table (off := 52) (tgt := 56) X [(1, 40), (2, 46), (3, 52), (4, 69), (5, 92), (6, 117)] 6 dX2_nods_4 (by decide) (by decide +kernel) (by decide +kernel) (by rw [h34]; rfl) (by decide) ?_
      refine r_iload_n X dX2_nods_56 1 rfl ?_
      refine r_bipush X dX2_nods_57 cb_7 ?_
      refine r_aload_n X dX2_nods_59 0 rfl isr_ref ?_
      refine r_get (i := t0) (v := .int (σ t0 2)) X in_X2_nods_2 rfl 2 (by decide) (kd_in hk0 (by decide)) (EE_2 _ hk0) rfl (mem_ix 2 rfl) dX2_nods_60 ?_
      refine r_imul X dX2_nods_63 ?_
      refine r_icmp_ne (tgt := 71) X dX2_nods_64 (by decide) (fun h46 => ?_) (fun h46 => ?_)
      · replace hf := okf h46 hf
        refine r_iconst X dX2_nods_71 ci_0 ?_
        exact r_zret X rfl hR (by decide) (ok0 hf) dX2_nods_72
      · replace hf := okt h46 hf
        refine r_iconst X dX2_nods_67 ci_1 ?_
        refine r_goto (tgt := 72) X dX2_nods_68 (by decide) ?_
        exact r_zret X rfl hR (by decide) (ok0 hf) dX2_nods_72
    replace hf := okf h34 hf
    by_cases h35 : (σ t0 1) = (4 : Int32)
    · replace hf := okt h35 hf
      refine r_table (off := 69) (tgt := 73) X [(1, 40), (2, 46), (3, 52), (4, 69), (5, 92), (6, 117)] 6 dX2_nods_4 (by decide) (by decide +kernel) (by decide +kernel) (by rw [h35]; rfl) (by decide) ?_
      refine r_aload_n X dX2_nods_73 0 rfl isr_ref ?_
      refine r_iload_n X dX2_nods_74 1 rfl ?_
      refine r_callVi (rest := []) X (c_X2_nodsStrictly l G t0 a1 hk0 σ (oks hf)) md_X2_nodsStrictly gX2_nods_X2_nodsStrictly (by decide) rfl rfl (kd_in hk0 (by decide)) (EE_2 _ hk0) rfl rfl (Nat.le_of_ble_eq_true rfl) dX2_nods_75 (fun r47 σ48 e49 => ?_)
      replace hf := okn e49 hf
      refine r_if_eq (tgt := 94) X dX2_nods_78 (by decide) (fun h50 => ?_) (fun h50 => ?_)
      · replace hf := okt h50 hf
        refine r_iconst X dX2_nods_94 ci_0 ?_
        exact r_zret X rfl hR (by decide) (ok0 hf) dX2_nods_95
      · replace hf := okf h50 hf
        refine r_iload_n X dX2_nods_81 2 rfl ?_
        refine r_bipush X dX2_nods_82 cb_24 ?_
        refine r_irem X dX2_nods_84 (by decide) ?_
        refine r_bipush X dX2_nods_85 cb_12 ?_
        refine r_icmp_lt (tgt := 94) X dX2_nods_87 (by decide) (fun h51 => ?_) (fun h51 => ?_)
        · replace hf := okt h51 hf
          refine r_iconst X dX2_nods_94 ci_0 ?_
          exact r_zret X rfl hR (by decide) (ok0 hf) dX2_nods_95
        · replace hf := okf h51 hf
          refine r_iconst X dX2_nods_90 ci_1 ?_
          refine r_goto (tgt := 95) X dX2_nods_91 (by decide) ?_
          exact r_zret X rfl hR (by decide) (ok0 hf) dX2_nods_95
    replace hf := okf h35 hf
    by_cases h36 : (σ t0 1) = (5 : Int32)
    · replace hf := okt h36 hf
      refine r_table (off := 92) (tgt := 96) X [(1, 40), (2, 46), (3, 52), (4, 69), (5, 92), (6, 117)] 6 dX2_nods_4 (by decide) (by decide +kernel) (by decide +kernel) (by rw [h36]; rfl) (by decide) ?_
      refine r_aload_n X dX2_nods_96 0 rfl isr_ref ?_
      refine r_iload_n X dX2_nods_97 1 rfl ?_
      refine r_callVi (rest := []) X (c_X2_nodsMildly l G t0 a1 hk0 σ (oks hf)) md_X2_nodsMildly gX2_nods_X2_nodsMildly (by decide) rfl rfl (kd_in hk0 (by decide)) (EE_2 _ hk0) rfl rfl (Nat.le_of_ble_eq_true rfl) dX2_nods_98 (fun r52 σ53 e54 => ?_)
      replace hf := okn e54 hf
      refine r_if_eq (tgt := 119) X dX2_nods_101 (by decide) (fun h55 => ?_) (fun h55 => ?_)
      · replace hf := okt h55 hf
        refine r_iconst X dX2_nods_119 ci_0 ?_
        exact r_zret X rfl hR (by decide) (ok0 hf) dX2_nods_120
      · replace hf := okf h55 hf
        refine r_iload_n X dX2_nods_104 1 rfl ?_
        refine r_bipush X dX2_nods_105 cb_90 ?_
        refine r_aload_n X dX2_nods_107 0 rfl isr_ref ?_
        refine r_get (i := t0) (v := .int (σ53 t0 0)) X in_X2_nods_2 rfl 0 (by decide) (kd_in hk0 (by decide)) (EE_2 _ hk0) rfl (mem_ix 3 rfl) dX2_nods_108 ?_
        refine r_isub X dX2_nods_111 ?_
        refine r_icmp_ge (tgt := 119) X dX2_nods_112 (by decide) (fun h56 => ?_) (fun h56 => ?_)
        · replace hf := okt h56 hf
          refine r_iconst X dX2_nods_119 ci_0 ?_
          exact r_zret X rfl hR (by decide) (ok0 hf) dX2_nods_120
        · replace hf := okf h56 hf
          refine r_iconst X dX2_nods_115 ci_1 ?_
          refine r_goto (tgt := 120) X dX2_nods_116 (by decide) ?_
          exact r_zret X rfl hR (by decide) (ok0 hf) dX2_nods_120
    replace hf := okf h36 hf
    by_cases h37 : (σ t0 1) = (6 : Int32)
    · replace hf := okt h37 hf
      refine r_table (off := 117) (tgt := 121) X [(1, 40), (2, 46), (3, 52), (4, 69), (5, 92), (6, 117)] 6 dX2_nods_4 (by decide) (by decide +kernel) (by decide +kernel) (by rw [h37]; rfl) (by decide) ?_
      refine r_aload_n X dX2_nods_121 0 rfl isr_ref ?_
      refine r_iload_n X dX2_nods_122 1 rfl ?_
      refine r_callVi (rest := []) X (c_X2_nodsPlainly l G t0 a1 hk0 σ (oks hf)) md_X2_nodsPlainly gX2_nods_X2_nodsPlainly (by decide) rfl rfl (kd_in hk0 (by decide)) (EE_2 _ hk0) rfl rfl (Nat.le_of_ble_eq_true rfl) dX2_nods_123 (fun r57 σ58 e59 => ?_)
      replace hf := okn e59 hf
      refine r_if_eq (tgt := 142) X dX2_nods_126 (by decide) (fun h60 => ?_) (fun h60 => ?_)
      · replace hf := okt h60 hf
        refine r_iconst X dX2_nods_142 ci_0 ?_
        exact r_zret X rfl hR (by decide) (ok0 hf) dX2_nods_143
      · replace hf := okf h60 hf
        refine r_aload_n X dX2_nods_129 0 rfl isr_ref ?_
        refine r_get (i := t0) (v := .int (σ58 t0 3)) X in_X2_nods_2 rfl 3 (by decide) (kd_in hk0 (by decide)) (EE_2 _ hk0) rfl (mem_ix 4 rfl) dX2_nods_130 ?_
        refine r_iconst X dX2_nods_133 ci_2 ?_
        refine r_irem X dX2_nods_134 (by decide) ?_
        refine r_if_ne (tgt := 142) X dX2_nods_135 (by decide) (fun h61 => ?_) (fun h61 => ?_)
        · replace hf := okf h61 hf
          refine r_iconst X dX2_nods_142 ci_0 ?_
          exact r_zret X rfl hR (by decide) (ok0 hf) dX2_nods_143
        · replace hf := okt h61 hf
          refine r_iconst X dX2_nods_138 ci_1 ?_
          refine r_goto (tgt := 143) X dX2_nods_139 (by decide) ?_
          exact r_zret X rfl hR (by decide) (ok0 hf) dX2_nods_143
    replace hf := okf h37 hf
    refine r_table (off := 140) (tgt := 144) X [(1, 40), (2, 46), (3, 52), (4, 69), (5, 92), (6, 117)] 6 dX2_nods_4 (by decide) (by decide +kernel) (by decide +kernel) (lk_n h32 (by decide) (lk_n h33 (by decide) (lk_n h34 (by decide) (lk_n h35 (by decide) (lk_n h36 (by decide) (lk_n h37 (by decide) rfl)))))) (by decide) ?_
    refine r_aload_n X dX2_nods_144 0 rfl isr_ref ?_
    refine r_iload_n X dX2_nods_145 1 rfl ?_
    refine r_callVi (rest := []) X (c_X2_nodsPlainly l G t0 a1 hk0 σ (oks hf)) md_X2_nodsPlainly gX2_nods_X2_nodsPlainly (by decide) rfl rfl (kd_in hk0 (by decide)) (EE_2 _ hk0) rfl rfl (Nat.le_of_ble_eq_true rfl) dX2_nods_146 (fun r62 σ63 e64 => ?_)
    replace hf := okn e64 hf
    obtain ⟨g65, hf⟩ := okp hf
    exact r_zret X rfl hR g65 (ok0 hf) dX2_nods_149
theorem md_X2_nods : MD yX2_nods wsX2_nods cX2_nods 3 2 (some .boolean) := ⟨⟨_, rfl⟩, by decide +kernel, by decide +kernel, by decide⟩
theorem c_X2_nods (l : Launch) (G : GX)  (t0 : Nat) (a1 : Int32) (a2 : Int32) (hk0 : kd t0 = 2) (σ : MM) (h : (f_X2_nods t0 a1 a2 σ).isSome = true) : CTi l G yX2_nods wsX2_nods 5 [.ref (G.1 t0), .int a1, .int a2] σ (f_X2_nods t0 a1 a2 σ) :=
  CTi_of md_X2_nods (Nat.le_of_ble_eq_true rfl) (fun K X hR => e_X2_nods X hR t0 a1 a2 hk0 σ (ok_is h))
-- X2_wants
theorem in_X2_wants_2 : ∀ w ∈ u_ws RX2 TX2 4, w ∈ wsX2_wants := fun _ h => List.mem_cons_of_mem _ (List.mem_append_right _ h)
def f_X2_wants (t0 : Nat) (σ : MM) : Option (Int32 × MM) :=
  lt ((10 : Int32) + ((σ t0 3) - (σ t0 3) / (10 : Int32) * (10 : Int32))) (fun y9 => if (σ t0 1) = (1 : Int32) then some ((y9 + (σ t0 2)), σ) else if (σ t0 1) = (2 : Int32) then some ((y9 / (2 : Int32)), σ) else if (σ t0 1) = (3 : Int32) then some ((y9 * (2 : Int32)), σ) else if (σ t0 1) = (4 : Int32) then some (((y9 + (σ t0 2)) + (σ t0 0)), σ) else if (σ t0 1) = (5 : Int32) then some (((y9 / (2 : Int32)) - (1 : Int32)), σ) else if (σ t0 1) = (6 : Int32) then some ((0 : Int32), σ) else some (y9, σ))
set_option maxRecDepth 100000 in
set_option maxHeartbeats 4000000 in
theorem e_X2_wants {l : Launch} {G : GX} {K : KX} (X : FX G K cX2_wants RX2 (some .int) wsX2_wants 2) {Φ : Int32 → MM → Prop} (hR : Ri G K Φ) (t0 : Nat) (hk0 : kd t0 = 2) (σ : MM) (hf : Ok Φ (f_X2_wants t0 σ)) : V l G 3 K 2 0 [(0, .ref (G.1 t0))] [] σ := by
    unfold f_X2_wants at hf
    refine r_bipush X dX2_wants_0 cb_10 ?_
    refine r_aload_n X dX2_wants_2 0 rfl isr_ref ?_
    refine r_get (i := t0) (v := .int (σ t0 3)) X in_X2_wants_2 rfl 3 (by decide) (kd_in hk0 (by decide)) (EE_2 _ hk0) rfl (mem_ix 1 rfl) dX2_wants_3 ?_
    refine r_bipush X dX2_wants_6 cb_10 ?_
    refine r_irem X dX2_wants_8 (by decide) ?_
    refine r_iadd X dX2_wants_9 ?_
    obtain ⟨y9, e10, hf⟩ := okl hf
    refine r_topi e10 ?_
    refine r_istore_n X dX2_wants_10 (i := 1) rfl (by decide) (lv' := [(1, .int y9), (0, .ref (G.1 t0))]) rfl ?_
    refine r_aload_n X dX2_wants_11 1 rfl isr_ref ?_
    refine r_get (i := t0) (v := .int (σ t0 1)) X in_X2_wants_2 rfl 1 (by decide) (kd_in hk0 (by decide)) (EE_2 _ hk0) rfl (mem_ix 2 rfl) dX2_wants_12 ?_
    by_cases h11 : (σ t0 1) = (1 : Int32)
    · replace hf := okt h11 hf
      refine r_table (off := 37) (tgt := 52) X [(1, 37), (2, 44), (3, 48), (4, 52), (5, 64), (6, 70)] 6 dX2_wants_15 (by decide) (by decide +kernel) (by decide +kernel) (by rw [h11]; rfl) (by decide) ?_
      refine r_iload_n X dX2_wants_52 0 rfl ?_
      refine r_aload_n X dX2_wants_53 1 rfl isr_ref ?_
      refine r_get (i := t0) (v := .int (σ t0 2)) X in_X2_wants_2 rfl 2 (by decide) (kd_in hk0 (by decide)) (EE_2 _ hk0) rfl (mem_ix 3 rfl) dX2_wants_54 ?_
      refine r_iadd X dX2_wants_57 ?_
      exact r_iret X rfl hR (ok0 hf) dX2_wants_58
    replace hf := okf h11 hf
    by_cases h12 : (σ t0 1) = (2 : Int32)
    · replace hf := okt h12 hf
      refine r_table (off := 44) (tgt := 59) X [(1, 37), (2, 44), (3, 48), (4, 52), (5, 64), (6, 70)] 6 dX2_wants_15 (by decide) (by decide +kernel) (by decide +kernel) (by rw [h12]; rfl) (by decide) ?_
      refine r_iload_n X dX2_wants_59 0 rfl ?_
      refine r_iconst X dX2_wants_60 ci_2 ?_
      refine r_idiv X dX2_wants_61 (by decide) ?_
      exact r_iret X rfl hR (ok0 hf) dX2_wants_62
    replace hf := okf h12 hf
    by_cases h13 : (σ t0 1) = (3 : Int32)
    · replace hf := okt h13 hf
      refine r_table (off := 48) (tgt := 63) X [(1, 37), (2, 44), (3, 48), (4, 52), (5, 64), (6, 70)] 6 dX2_wants_15 (by decide) (by decide +kernel) (by decide +kernel) (by rw [h13]; rfl) (by decide) ?_
      refine r_iload_n X dX2_wants_63 0 rfl ?_
      refine r_iconst X dX2_wants_64 ci_2 ?_
      refine r_imul X dX2_wants_65 ?_
      exact r_iret X rfl hR (ok0 hf) dX2_wants_66
    replace hf := okf h13 hf
    by_cases h14 : (σ t0 1) = (4 : Int32)
    · replace hf := okt h14 hf
      refine r_table (off := 52) (tgt := 67) X [(1, 37), (2, 44), (3, 48), (4, 52), (5, 64), (6, 70)] 6 dX2_wants_15 (by decide) (by decide +kernel) (by decide +kernel) (by rw [h14]; rfl) (by decide) ?_
      refine r_iload_n X dX2_wants_67 0 rfl ?_
      refine r_aload_n X dX2_wants_68 1 rfl isr_ref ?_
      refine r_get (i := t0) (v := .int (σ t0 2)) X in_X2_wants_2 rfl 2 (by decide) (kd_in hk0 (by decide)) (EE_2 _ hk0) rfl (mem_ix 3 rfl) dX2_wants_69 ?_
      refine r_iadd X dX2_wants_72 ?_
      refine r_aload_n X dX2_wants_73 1 rfl isr_ref ?_
      refine r_get (i := t0) (v := .int (σ t0 0)) X in_X2_wants_2 rfl 0 (by decide) (kd_in hk0 (by decide)) (EE_2 _ hk0) rfl (mem_ix 4 rfl) dX2_wants_74 ?_
      refine r_iadd X dX2_wants_77 ?_
      exact r_iret X rfl hR (ok0 hf) dX2_wants_78
    replace hf := okf h14 hf
    by_cases h15 : (σ t0 1) = (5 : Int32)
    · replace hf := okt h15 hf
      refine r_table (off := 64) (tgt := 79) X [(1, 37), (2, 44), (3, 48), (4, 52), (5, 64), (6, 70)] 6 dX2_wants_15 (by decide) (by decide +kernel) (by decide +kernel) (by rw [h15]; rfl) (by decide) ?_
      refine r_iload_n X dX2_wants_79 0 rfl ?_
      refine r_iconst X dX2_wants_80 ci_2 ?_
      refine r_idiv X dX2_wants_81 (by decide) ?_
      refine r_iconst X dX2_wants_82 ci_1 ?_
      refine r_isub X dX2_wants_83 ?_
      exact r_iret X rfl hR (ok0 hf) dX2_wants_84
    replace hf := okf h15 hf
    by_cases h16 : (σ t0 1) = (6 : Int32)
    · replace hf := okt h16 hf
      refine r_table (off := 70) (tgt := 85) X [(1, 37), (2, 44), (3, 48), (4, 52), (5, 64), (6, 70)] 6 dX2_wants_15 (by decide) (by decide +kernel) (by decide +kernel) (by rw [h16]; rfl) (by decide) ?_
      refine r_iconst X dX2_wants_85 ci_0 ?_
      exact r_iret X rfl hR (ok0 hf) dX2_wants_86
    replace hf := okf h16 hf
    refine r_table (off := 72) (tgt := 87) X [(1, 37), (2, 44), (3, 48), (4, 52), (5, 64), (6, 70)] 6 dX2_wants_15 (by decide) (by decide +kernel) (by decide +kernel) (lk_n h11 (by decide) (lk_n h12 (by decide) (lk_n h13 (by decide) (lk_n h14 (by decide) (lk_n h15 (by decide) (lk_n h16 (by decide) rfl)))))) (by decide) ?_
    refine r_iload_n X dX2_wants_87 0 rfl ?_
    exact r_iret X rfl hR (ok0 hf) dX2_wants_88
theorem md_X2_wants : MD yX2_wants wsX2_wants cX2_wants 2 0 (some .int) := ⟨⟨_, rfl⟩, by decide +kernel, by decide +kernel, by decide⟩
theorem c_X2_wants (l : Launch) (G : GX)  (t0 : Nat) (hk0 : kd t0 = 2) (σ : MM) (h : (f_X2_wants t0 σ).isSome = true) : CTi l G yX2_wants wsX2_wants 3 [.ref (G.1 t0)] σ (f_X2_wants t0 σ) :=
  CTi_of md_X2_wants (Nat.le_of_ble_eq_true rfl) (fun K X hR => e_X2_wants X hR t0 hk0 σ (ok_is h))
-- X0_passHour
theorem in_X0_passHour_0 : ∀ w ∈ u_ws RX0 TX0 12, w ∈ wsX0_passHour := fun _ h => List.mem_cons_of_mem _ (List.mem_append_left _ (List.mem_append_right _ h))
theorem in_X0_passHour_3 : ∀ w ∈ u_ws RX3 TX3 4, w ∈ wsX0_passHour := fun _ h => List.mem_cons_of_mem _ (List.mem_append_right _ h)
def u_X0_passHour_57 (t0 : Nat) (σ : MM) : Option (Unit × MM) :=
  lt (mu σ t0 10 ((σ t0 10) + (1 : Int32))) (fun σ10 => some ((), σ10))
def u_X0_passHour_2 (k2 : Nat → Int32 → MM → Option (Unit × MM)) (t0 : Nat) (v1 : Int32) (σ : MM) : Option (Unit × MM) :=
  if (σ t0 3) ≤ v1 then u_X0_passHour_57 t0 σ else if (5 : Int32) ≤ v1 then u_X0_passHour_57 t0 σ else if v1 < 0 ∨ 5 ≤ v1.toNatClampNeg then none else if ((σ ((t0 + 2) + 29 + v1.toNatClampNeg) 0) - (σ ((t0 + 2) + 29 + v1.toNatClampNeg) 0) / (5 : Int32) * (5 : Int32)) = 0 then lt (mu σ ((t0 + 2) + 29 + v1.toNatClampNeg) 1 (if ((σ ((t0 + 2) + 29 + v1.toNatClampNeg) 1) + (1 : Int32)) < (999 : Int32) then ((σ ((t0 + 2) + 29 + v1.toNatClampNeg) 1) + (1 : Int32)) else (999 : Int32))) (fun σ15 => k2 t0 (v1 + (1 : Int32)) σ15) else k2 t0 (v1 + (1 : Int32)) σ
def l_X0_passHour_2 (t0 : Nat) (v1 : Int32) (σ : MM) : Option (Unit × MM) :=
  itr (fun _ _ _ => none) (u_X0_passHour_2) FU t0 v1 σ
def f_X0_passHour (t0 : Nat) (σ : MM) : Option (Unit × MM) :=
  l_X0_passHour_2 t0 (0 : Int32) σ
set_option maxRecDepth 100000 in
set_option maxHeartbeats 4000000 in
theorem t_X0_passHour_57 {l : Launch} {G : GX} {K : KX} (X : FX G K cX0_passHour RX0 (none) wsX0_passHour 3) {Φ : Unit → MM → Prop} (hR : Rv G K Φ) (t0 : Nat) (hk0 : kd t0 = 0) (σ : MM) (hf : Ok Φ (u_X0_passHour_57 t0 σ)) : V l G 3 K 3 57 [(0, .ref (G.1 t0))] [] σ := by
    unfold u_X0_passHour_57 at hf
    refine r_aload_n X dX0_passHour_57 0 rfl isr_ref ?_
    refine r_dup X dX0_passHour_58 rfl ?_
    refine r_get (i := t0) (v := .int (σ t0 10)) X in_X0_passHour_0 rfl 10 (by decide) (kd_in hk0 (by decide)) (EE_0 _ hk0) rfl (mem_ix 9 rfl) dX0_passHour_59 ?_
    refine r_iconst X dX0_passHour_62 ci_1 ?_
    refine r_iadd X dX0_passHour_63 ?_
    obtain ⟨σ10, e11, hf⟩ := okl hf
    refine r_put (i := t0) (f := upd (σ t0) 10 ((σ t0 10) + (1 : Int32))) X in_X0_passHour_0 tyX0 tyX0_ok nmX0 rfl 10 (by decide) (kd_in hk0 (by decide)) (EE_0 _ hk0) (EU_0_10 _ _ hk0) rfl (mem_ix 9 rfl) rfl rfl rfl rfl dX0_passHour_64 ?_
    refine r_sg e11 ?_
    exact r_vret X rfl hR (ok0 hf) dX0_passHour_67
set_option maxRecDepth 100000 in
set_option maxHeartbeats 4000000 in
theorem t_X0_passHour_2 {l : Launch} {G : GX} {K : KX} (X : FX G K cX0_passHour RX0 (none) wsX0_passHour 3) {Φ : Unit → MM → Prop} (hR : Rv G K Φ) (k2 : Nat → Int32 → MM → Option (Unit × MM)) (hk2c : ∀ (t0 : Nat) (v1 : Int32) (hk0 : kd t0 = 0) (σ : MM), Ok Φ (k2 t0 v1 σ) → V l G 3 K 3 2 [(0, .ref (G.1 t0)), (1, .int v1)] [] σ) (t0 : Nat) (v1 : Int32) (hk0 : kd t0 = 0) (σ : MM) (hf : Ok Φ (u_X0_passHour_2 k2 t0 v1 σ)) : V l G 3 K 3 2 [(0, .ref (G.1 t0)), (1, .int v1)] [] σ := by
    unfold u_X0_passHour_2 at hf
    refine r_iload_n X dX0_passHour_2 1 rfl ?_
    refine r_aload_n X dX0_passHour_3 0 rfl isr_ref ?_
    refine r_get (i := t0) (v := .int (σ t0 3)) X in_X0_passHour_0 rfl 3 (by decide) (kd_in hk0 (by decide)) (EE_0 _ hk0) rfl (mem_ix 1 rfl) dX0_passHour_4 ?_
    refine r_icmp_ge (tgt := 57) X dX0_passHour_7 (by decide) (fun h9 => ?_) (fun h9 => ?_)
    · replace hf := okt h9 hf
      refine r_sub [0] rfl ?_
      exact t_X0_passHour_57 X hR t0 hk0 σ hf
    · replace hf := okf h9 hf
      refine r_iload_n X dX0_passHour_10 1 rfl ?_
      refine r_aload_n X dX0_passHour_11 0 rfl isr_ref ?_
      refine r_get (i := t0) (v := .ref (G.1 (t0 + 2))) X in_X0_passHour_0 rfl 2 (by decide) (kd_in hk0 (by decide)) (EE_0 _ hk0) rfl (mem_ix 2 rfl) dX0_passHour_12 ?_
      refine r_alen (i := (t0 + 2)) (t := 2) (v := (5 : Int32)) X (kd_in (kf_0_2 hk0) (by decide)) (EE_31 _ (kf_0_2 hk0)) rfl (by decide) dX0_passHour_15 ?_
      refine r_icmp_ge (tgt := 57) X dX0_passHour_16 (by decide) (fun h12 => ?_) (fun h12 => ?_)
      · replace hf := okt h12 hf
        refine r_sub [0] rfl ?_
        exact t_X0_passHour_57 X hR t0 hk0 σ hf
      · replace hf := okf h12 hf
        refine r_aload_n X dX0_passHour_19 0 rfl isr_ref ?_
        refine r_get (i := t0) (v := .ref (G.1 (t0 + 2))) X in_X0_passHour_0 rfl 2 (by decide) (kd_in hk0 (by decide)) (EE_0 _ hk0) rfl (mem_ix 2 rfl) dX0_passHour_20 ?_
        refine r_iload_n X dX0_passHour_23 1 rfl ?_
        obtain ⟨g13, hf⟩ := okg hf
        refine r_aald (i := (t0 + 2)) (t := 2) (d := 29) (jn := v1.toNatClampNeg) X (kd_in (kf_0_2 hk0) (by decide)) (EE_31 _ (kf_0_2 hk0)) rfl rfl g13 dX0_passHour_24 ?_
        refine r_astore_n X dX0_passHour_25 (i := 2) rfl (by decide) isr_ref (lv' := [(2, .ref (G.1 ((t0 + 2) + 29 + v1.toNatClampNeg))), (0, .ref (G.1 t0)), (1, .int v1)]) rfl ?_
        refine r_aload_n X dX0_passHour_26 0 rfl isr_ref ?_
        refine r_get (i := ((t0 + 2) + 29 + v1.toNatClampNeg)) (v := .int (σ ((t0 + 2) + 29 + v1.toNatClampNeg) 0)) X in_X0_passHour_3 rfl 0 (by decide) (kd_in (ke_31 (kf_0_2 hk0) (inr_lt g13)) (by decide)) (EE_3 _ (ke_31 (kf_0_2 hk0) (inr_lt g13))) rfl (mem_ix 3 rfl) dX0_passHour_27 ?_
        refine r_iconst X dX0_passHour_30 ci_5 ?_
        refine r_irem X dX0_passHour_31 (by decide) ?_
        refine r_if_ne (tgt := 51) X dX0_passHour_32 (by decide) (fun h14 => ?_) (fun h14 => ?_)
        · replace hf := okf h14 hf
          refine r_iinc (v := (v1 + (1 : Int32))) X dX0_passHour_51 2 rfl (congrArg _ ci_1) (by decide) (lv' := [(1, .int (v1 + (1 : Int32))), (2, .ref (G.1 ((t0 + 2) + 29 + v1.toNatClampNeg))), (0, .ref (G.1 t0))]) rfl ?_
          refine r_goto (tgt := 2) X dX0_passHour_54 (by decide) ?_
          refine r_sub [2, 0] rfl ?_
          exact hk2c t0 (v1 + (1 : Int32)) hk0 σ hf
        · replace hf := okt h14 hf
          refine r_aload_n X dX0_passHour_35 0 rfl isr_ref ?_
          refine r_sipush X dX0_passHour_36 cs_999 ?_
          refine r_aload_n X dX0_passHour_39 0 rfl isr_ref ?_
          refine r_get (i := ((t0 + 2) + 29 + v1.toNatClampNeg)) (v := .int (σ ((t0 + 2) + 29 + v1.toNatClampNeg) 1)) X in_X0_passHour_3 rfl 1 (by decide) (kd_in (ke_31 (kf_0_2 hk0) (inr_lt g13)) (by decide)) (EE_3 _ (ke_31 (kf_0_2 hk0) (inr_lt g13))) rfl (mem_ix 4 rfl) dX0_passHour_40 ?_
          refine r_iconst X dX0_passHour_43 ci_1 ?_
          refine r_iadd X dX0_passHour_44 ?_
          refine r_mmin X (mem_ix 5 rfl) (mem_ix 6 rfl) (mem_ix 7 rfl) (mem_ix 8 rfl) (Nat.le_of_ble_eq_true rfl) (by decide) dX0_passHour_45 ?_
          obtain ⟨σ15, e16, hf⟩ := okl hf
          refine r_put (i := ((t0 + 2) + 29 + v1.toNatClampNeg)) (f := upd (σ ((t0 + 2) + 29 + v1.toNatClampNeg)) 1 (if ((σ ((t0 + 2) + 29 + v1.toNatClampNeg) 1) + (1 : Int32)) < (999 : Int32) then ((σ ((t0 + 2) + 29 + v1.toNatClampNeg) 1) + (1 : Int32)) else (999 : Int32))) X in_X0_passHour_3 tyX3 tyX3_ok nmX3 rfl 1 (by decide) (kd_in (ke_31 (kf_0_2 hk0) (inr_lt g13)) (by decide)) (EE_3 _ (ke_31 (kf_0_2 hk0) (inr_lt g13))) (EU_3_1 _ _ (ke_31 (kf_0_2 hk0) (inr_lt g13))) rfl (mem_ix 4 rfl) rfl rfl rfl rfl dX0_passHour_48 ?_
          refine r_sg e16 ?_
          refine r_iinc (v := (v1 + (1 : Int32))) X dX0_passHour_51 2 rfl (congrArg _ ci_1) (by decide) (lv' := [(1, .int (v1 + (1 : Int32))), (2, .ref (G.1 ((t0 + 2) + 29 + v1.toNatClampNeg))), (0, .ref (G.1 t0))]) rfl ?_
          refine r_goto (tgt := 2) X dX0_passHour_54 (by decide) ?_
          refine r_sub [2, 0] rfl ?_
          exact hk2c t0 (v1 + (1 : Int32)) hk0 σ15 hf
theorem tl_X0_passHour_2 {l : Launch} {G : GX} {K : KX} (X : FX G K cX0_passHour RX0 (none) wsX0_passHour 3) {Φ : Unit → MM → Prop} (hR : Rv G K Φ) : ∀ (m : Nat) (t0 : Nat) (v1 : Int32) (hk0 : kd t0 = 0) (σ : MM), Ok Φ (itr (fun _ _ _ => none) (u_X0_passHour_2) m t0 v1 σ) → V l G 3 K 3 2 [(0, .ref (G.1 t0)), (1, .int v1)] [] σ := by
  intro m
  induction m with
  | zero => intro t0 v1 hk0 σ hf; exact hf.elim
  | succ m ih => intro t0 v1 hk0 σ hf; exact t_X0_passHour_2 X hR _ ih t0 v1 hk0 σ hf
set_option maxRecDepth 100000 in
set_option maxHeartbeats 4000000 in
theorem e_X0_passHour {l : Launch} {G : GX} {K : KX} (X : FX G K cX0_passHour RX0 (none) wsX0_passHour 3) {Φ : Unit → MM → Prop} (hR : Rv G K Φ) (t0 : Nat) (hk0 : kd t0 = 0) (σ : MM) (hf : Ok Φ (f_X0_passHour t0 σ)) : V l G 3 K 3 0 [(0, .ref (G.1 t0))] [] σ := by
    unfold f_X0_passHour at hf
    refine r_iconst X dX0_passHour_0 ci_0 ?_
    refine r_istore_n X dX0_passHour_1 (i := 1) rfl (by decide) (lv' := [(1, .int (0 : Int32)), (0, .ref (G.1 t0))]) rfl ?_
    refine r_sub [1, 0] rfl ?_
    exact tl_X0_passHour_2 X hR FU t0 (0 : Int32) hk0 σ hf
theorem md_X0_passHour : MD yX0_passHour wsX0_passHour cX0_passHour 3 0 (none) := ⟨⟨_, rfl⟩, by decide +kernel, by decide +kernel, by decide⟩
theorem c_X0_passHour (l : Launch) (G : GX)  (t0 : Nat) (hk0 : kd t0 = 0) (σ : MM) (h : (f_X0_passHour t0 σ).isSome = true) : CTv l G yX0_passHour wsX0_passHour 3 [.ref (G.1 t0)] σ (f_X0_passHour t0 σ) :=
  CTv_of md_X0_passHour (Nat.le_of_ble_eq_true rfl) (fun K X hR => e_X0_passHour X hR t0 hk0 σ (ok_is h))
-- X0_draw
theorem in_X0_draw_0 : ∀ w ∈ u_ws RX0 TX0 12, w ∈ wsX0_draw := fun _ h => List.mem_cons_of_mem _ (List.mem_append_right _ h)
def f_X0_draw (t0 : Nat) (σ : MM) : Option (Int32 × MM) :=
  lt (mu σ t0 11 (((σ t0 11) * (1103515245 : Int32)) + (12345 : Int32))) (fun σ3 => some ((((σ3 t0 11).toUInt32 >>> ((8 : Int32).toUInt32 &&& Int32.toUInt32 31)).toInt32), σ3))
set_option maxRecDepth 100000 in
set_option maxHeartbeats 4000000 in
theorem e_X0_draw {l : Launch} {G : GX} {K : KX} (X : FX G K cX0_draw RX0 (some .int) wsX0_draw 1) {Φ : Int32 → MM → Prop} (hR : Ri G K Φ) (t0 : Nat) (hk0 : kd t0 = 0) (σ : MM) (hf : Ok Φ (f_X0_draw t0 σ)) : V l G 3 K 1 0 [(0, .ref (G.1 t0))] [] σ := by
    unfold f_X0_draw at hf
    refine r_aload_n X dX0_draw_0 0 rfl isr_ref ?_
    refine r_aload_n X dX0_draw_1 0 rfl isr_ref ?_
    refine r_get (i := t0) (v := .int (σ t0 11)) X in_X0_draw_0 rfl 11 (by decide) (kd_in hk0 (by decide)) (EE_0 _ hk0) rfl (mem_ix 1 rfl) dX0_draw_2 ?_
    refine r_ldc (v := (1103515245 : Int32)) X (mem_ix 2 rfl) dX0_draw_5 ?_
    refine r_imul X dX0_draw_7 ?_
    refine r_sipush X dX0_draw_8 cs_12345 ?_
    refine r_iadd X dX0_draw_11 ?_
    obtain ⟨σ3, e4, hf⟩ := okl hf
    refine r_put (i := t0) (f := upd (σ t0) 11 (((σ t0 11) * (1103515245 : Int32)) + (12345 : Int32))) X in_X0_draw_0 tyX0 tyX0_ok nmX0 rfl 11 (by decide) (kd_in hk0 (by decide)) (EE_0 _ hk0) (EU_0_11 _ _ hk0) rfl (mem_ix 1 rfl) rfl rfl rfl rfl dX0_draw_12 ?_
    refine r_sg e4 ?_
    refine r_aload_n X dX0_draw_15 0 rfl isr_ref ?_
    refine r_get (i := t0) (v := .int (σ3 t0 11)) X in_X0_draw_0 rfl 11 (by decide) (kd_in hk0 (by decide)) (EE_0 _ hk0) rfl (mem_ix 1 rfl) dX0_draw_16 ?_
    refine r_bipush X dX0_draw_19 cb_8 ?_
    refine r_iushr X dX0_draw_21 ?_
    exact r_iret X rfl hR (ok0 hf) dX0_draw_22
theorem md_X0_draw : MD yX0_draw wsX0_draw cX0_draw 1 0 (some .int) := ⟨⟨_, rfl⟩, by decide +kernel, by decide +kernel, by decide⟩
theorem c_X0_draw (l : Launch) (G : GX)  (t0 : Nat) (hk0 : kd t0 = 0) (σ : MM) (h : (f_X0_draw t0 σ).isSome = true) : CTi l G yX0_draw wsX0_draw 3 [.ref (G.1 t0)] σ (f_X0_draw t0 σ) :=
  CTi_of md_X0_draw (Nat.le_of_ble_eq_true rfl) (fun K X hR => e_X0_draw X hR t0 hk0 σ (ok_is h))
-- X4_next
theorem in_X4_next_4 : ∀ w ∈ u_ws RX4 TX4 5, w ∈ wsX4_next := fun _ h => List.mem_cons_of_mem _ (List.mem_append_right _ h)
def f_X4_next  (σ : MM) : Option (Int32 × MM) :=
  if (σ 109 1) < 0 then some ((-1 : Int32), σ) else if (σ 109 3) ≤ (σ 109 1) then some ((-1 : Int32), σ) else if (60 : Int32) ≤ (σ 109 1) then some ((-1 : Int32), σ) else if (σ 109 1) < 0 ∨ 60 ≤ (σ 109 1).toNatClampNeg then none else some ((σ 9 ((σ 109 1).toNatClampNeg)), σ)
set_option maxRecDepth 100000 in
set_option maxHeartbeats 4000000 in
theorem e_X4_next {l : Launch} {G : GX} {K : KX} (X : FX G K cX4_next RX4 (some .int) wsX4_next 1) {Φ : Int32 → MM → Prop} (hR : Ri G K Φ)  (σ : MM) (hf : Ok Φ (f_X4_next  σ)) : V l G 3 K 1 0 [(0, .ref (G.1 109))] [] σ := by
    unfold f_X4_next at hf
    refine r_aload_n X dX4_next_0 0 rfl isr_ref ?_
    refine r_get (i := 109) (v := .int (σ 109 1)) X in_X4_next_4 rfl 1 (by decide) (kd_in kc_109 (by decide)) (EE_4 _ kc_109) rfl (mem_ix 1 rfl) dX4_next_1 ?_
    refine r_if_lt (tgt := 42) X dX4_next_4 (by decide) (fun h5 => ?_) (fun h5 => ?_)
    · replace hf := okt h5 hf
      refine r_iconst X dX4_next_42 ci_m1 ?_
      exact r_iret X rfl hR (ok0 hf) dX4_next_43
    · replace hf := okf h5 hf
      refine r_aload_n X dX4_next_7 0 rfl isr_ref ?_
      refine r_get (i := 109) (v := .int (σ 109 1)) X in_X4_next_4 rfl 1 (by decide) (kd_in kc_109 (by decide)) (EE_4 _ kc_109) rfl (mem_ix 1 rfl) dX4_next_8 ?_
      refine r_aload_n X dX4_next_11 0 rfl isr_ref ?_
      refine r_get (i := 109) (v := .int (σ 109 3)) X in_X4_next_4 rfl 3 (by decide) (kd_in kc_109 (by decide)) (EE_4 _ kc_109) rfl (mem_ix 2 rfl) dX4_next_12 ?_
      refine r_icmp_ge (tgt := 42) X dX4_next_15 (by decide) (fun h6 => ?_) (fun h6 => ?_)
      · replace hf := okt h6 hf
        refine r_iconst X dX4_next_42 ci_m1 ?_
        exact r_iret X rfl hR (ok0 hf) dX4_next_43
      · replace hf := okf h6 hf
        refine r_aload_n X dX4_next_18 0 rfl isr_ref ?_
        refine r_get (i := 109) (v := .int (σ 109 1)) X in_X4_next_4 rfl 1 (by decide) (kd_in kc_109 (by decide)) (EE_4 _ kc_109) rfl (mem_ix 1 rfl) dX4_next_19 ?_
        refine r_aload_n X dX4_next_22 0 rfl isr_ref ?_
        refine r_get (i := 109) (v := .ref (G.1 9)) X in_X4_next_4 rfl 2 (by decide) (kd_in kc_109 (by decide)) (EE_4 _ kc_109) rfl (mem_ix 3 rfl) dX4_next_23 ?_
        refine r_alen (i := 9) (t := 0) (v := (60 : Int32)) X (kd_in kc_9 (by decide)) (EE_20 _ kc_9) rfl (by decide) dX4_next_26 ?_
        refine r_icmp_ge (tgt := 42) X dX4_next_27 (by decide) (fun h7 => ?_) (fun h7 => ?_)
        · replace hf := okt h7 hf
          refine r_iconst X dX4_next_42 ci_m1 ?_
          exact r_iret X rfl hR (ok0 hf) dX4_next_43
        · replace hf := okf h7 hf
          refine r_aload_n X dX4_next_30 0 rfl isr_ref ?_
          refine r_get (i := 109) (v := .ref (G.1 9)) X in_X4_next_4 rfl 2 (by decide) (kd_in kc_109 (by decide)) (EE_4 _ kc_109) rfl (mem_ix 3 rfl) dX4_next_31 ?_
          refine r_aload_n X dX4_next_34 0 rfl isr_ref ?_
          refine r_get (i := 109) (v := .int (σ 109 1)) X in_X4_next_4 rfl 1 (by decide) (kd_in kc_109 (by decide)) (EE_4 _ kc_109) rfl (mem_ix 1 rfl) dX4_next_35 ?_
          obtain ⟨g8, hf⟩ := okg hf
          refine r_iald (i := 9) (jn := (σ 109 1).toNatClampNeg) X (kd_in kc_9 (by decide)) (EE_20 _ kc_9) rfl g8 dX4_next_38 ?_
          refine r_goto (tgt := 43) X dX4_next_39 (by decide) ?_
          exact r_iret X rfl hR (ok0 hf) dX4_next_43
theorem md_X4_next : MD yX4_next wsX4_next cX4_next 1 0 (some .int) := ⟨⟨_, rfl⟩, by decide +kernel, by decide +kernel, by decide⟩
theorem c_X4_next (l : Launch) (G : GX)   (σ : MM) (h : (f_X4_next  σ).isSome = true) : CTi l G yX4_next wsX4_next 3 [.ref (G.1 109)] σ (f_X4_next  σ) :=
  CTi_of md_X4_next (Nat.le_of_ble_eq_true rfl) (fun K X hR => e_X4_next X hR  σ (ok_is h))
-- X4_isDigit
def f_X4_isDigit (a0 : Int32) (σ : MM) : Option (Int32 × MM) :=
  if a0 < (48 : Int32) then some ((0 : Int32), σ) else if (57 : Int32) < a0 then some ((0 : Int32), σ) else some ((1 : Int32), σ)
set_option maxRecDepth 100000 in
set_option maxHeartbeats 4000000 in
theorem e_X4_isDigit {l : Launch} {G : GX} {K : KX} (X : FX G K cX4_isDigit RX4 (some .boolean) wsX4_isDigit 1) {Φ : Int32 → MM → Prop} (hR : Ri G K Φ) (a0 : Int32) (σ : MM) (hf : Ok Φ (f_X4_isDigit a0 σ)) : V l G 3 K 1 0 [(0, .int a0)] [] σ := by
    unfold f_X4_isDigit at hf
    refine r_iload_n X dX4_isDigit_0 0 rfl ?_
    refine r_bipush X dX4_isDigit_1 cb_48 ?_
    refine r_icmp_lt (tgt := 16) X dX4_isDigit_3 (by decide) (fun h3 => ?_) (fun h3 => ?_)
    · replace hf := okt h3 hf
      refine r_iconst X dX4_isDigit_16 ci_0 ?_
      exact r_zret X rfl hR (by decide) (ok0 hf) dX4_isDigit_17
    · replace hf := okf h3 hf
      refine r_iload_n X dX4_isDigit_6 0 rfl ?_
      refine r_bipush X dX4_isDigit_7 cb_57 ?_
      refine r_icmp_gt (tgt := 16) X dX4_isDigit_9 (by decide) (fun h4 => ?_) (fun h4 => ?_)
      · replace hf := okt h4 hf
        refine r_iconst X dX4_isDigit_16 ci_0 ?_
        exact r_zret X rfl hR (by decide) (ok0 hf) dX4_isDigit_17
      · replace hf := okf h4 hf
        refine r_iconst X dX4_isDigit_12 ci_1 ?_
        refine r_goto (tgt := 17) X dX4_isDigit_13 (by decide) ?_
        exact r_zret X rfl hR (by decide) (ok0 hf) dX4_isDigit_17
theorem md_X4_isDigit : MD yX4_isDigit wsX4_isDigit cX4_isDigit 1 1 (some .boolean) := ⟨⟨_, rfl⟩, by decide +kernel, by decide +kernel, by decide⟩
theorem c_X4_isDigit (l : Launch) (G : GX)  (a0 : Int32) (σ : MM) (h : (f_X4_isDigit a0 σ).isSome = true) : CTi l G yX4_isDigit wsX4_isDigit 3 [.int a0] σ (f_X4_isDigit a0 σ) :=
  CTi_of md_X4_isDigit (Nat.le_of_ble_eq_true rfl) (fun K X hR => e_X4_isDigit X hR a0 σ (ok_is h))
-- X4_levelOf
def f_X4_levelOf (a0 : Int32) (σ : MM) : Option (Int32 × MM) :=
  if a0 = (37 : Int32) then some ((4 : Int32), σ) else if a0 = (38 : Int32) then some ((1 : Int32), σ) else if a0 = (42 : Int32) then some ((4 : Int32), σ) else if a0 = (43 : Int32) then some ((3 : Int32), σ) else if a0 = (45 : Int32) then some ((3 : Int32), σ) else if a0 = (47 : Int32) then some ((4 : Int32), σ) else if a0 = (60 : Int32) then some ((2 : Int32), σ) else if a0 = (61 : Int32) then some ((2 : Int32), σ) else if a0 = (62 : Int32) then some ((2 : Int32), σ) else if a0 = (124 : Int32) then some ((0 : Int32), σ) else some ((-1 : Int32), σ)
set_option maxRecDepth 100000 in
set_option maxHeartbeats 4000000 in
theorem e_X4_levelOf {l : Launch} {G : GX} {K : KX} (X : FX G K cX4_levelOf RX4 (some .int) wsX4_levelOf 1) {Φ : Int32 → MM → Prop} (hR : Ri G K Φ) (a0 : Int32) (σ : MM) (hf : Ok Φ (f_X4_levelOf a0 σ)) : V l G 3 K 1 0 [(0, .int a0)] [] σ := by
    unfold f_X4_levelOf at hf
    refine r_iload_n X dX4_levelOf_0 0 rfl ?_
    by_cases h11 : a0 = (37 : Int32)
    · replace hf := okt h11 hf
      refine r_lookup (off := 99) (tgt := 100) X dX4_levelOf_1 (by decide +kernel) (by rw [h11]; rfl) (by decide) ?_
      refine r_iconst X dX4_levelOf_100 ci_4 ?_
      exact r_iret X rfl hR (ok0 hf) dX4_levelOf_101
    replace hf := okf h11 hf
    by_cases h12 : a0 = (38 : Int32)
    · replace hf := okt h12 hf
      refine r_lookup (off := 93) (tgt := 94) X dX4_levelOf_1 (by decide +kernel) (by rw [h12]; rfl) (by decide) ?_
      refine r_iconst X dX4_levelOf_94 ci_1 ?_
      exact r_iret X rfl hR (ok0 hf) dX4_levelOf_95
    replace hf := okf h12 hf
    by_cases h13 : a0 = (42 : Int32)
    · replace hf := okt h13 hf
      refine r_lookup (off := 99) (tgt := 100) X dX4_levelOf_1 (by decide +kernel) (by rw [h13]; rfl) (by decide) ?_
      refine r_iconst X dX4_levelOf_100 ci_4 ?_
      exact r_iret X rfl hR (ok0 hf) dX4_levelOf_101
    replace hf := okf h13 hf
    by_cases h14 : a0 = (43 : Int32)
    · replace hf := okt h14 hf
      refine r_lookup (off := 97) (tgt := 98) X dX4_levelOf_1 (by decide +kernel) (by rw [h14]; rfl) (by decide) ?_
      refine r_iconst X dX4_levelOf_98 ci_3 ?_
      exact r_iret X rfl hR (ok0 hf) dX4_levelOf_99
    replace hf := okf h14 hf
    by_cases h15 : a0 = (45 : Int32)
    · replace hf := okt h15 hf
      refine r_lookup (off := 97) (tgt := 98) X dX4_levelOf_1 (by decide +kernel) (by rw [h15]; rfl) (by decide) ?_
      refine r_iconst X dX4_levelOf_98 ci_3 ?_
      exact r_iret X rfl hR (ok0 hf) dX4_levelOf_99
    replace hf := okf h15 hf
    by_cases h16 : a0 = (47 : Int32)
    · replace hf := okt h16 hf
      refine r_lookup (off := 99) (tgt := 100) X dX4_levelOf_1 (by decide +kernel) (by rw [h16]; rfl) (by decide) ?_
      refine r_iconst X dX4_levelOf_100 ci_4 ?_
      exact r_iret X rfl hR (ok0 hf) dX4_levelOf_101
    replace hf := okf h16 hf
    by_cases h17 : a0 = (60 : Int32)
    · replace hf := okt h17 hf
      refine r_lookup (off := 95) (tgt := 96) X dX4_levelOf_1 (by decide +kernel) (by rw [h17]; rfl) (by decide) ?_
      refine r_iconst X dX4_levelOf_96 ci_2 ?_
      exact r_iret X rfl hR (ok0 hf) dX4_levelOf_97
    replace hf := okf h17 hf
    by_cases h18 : a0 = (61 : Int32)
    · replace hf := okt h18 hf
      refine r_lookup (off := 95) (tgt := 96) X dX4_levelOf_1 (by decide +kernel) (by rw [h18]; rfl) (by decide) ?_
      refine r_iconst X dX4_levelOf_96 ci_2 ?_
      exact r_iret X rfl hR (ok0 hf) dX4_levelOf_97
    replace hf := okf h18 hf
    by_cases h19 : a0 = (62 : Int32)
    · replace hf := okt h19 hf
      refine r_lookup (off := 95) (tgt := 96) X dX4_levelOf_1 (by decide +kernel) (by rw [h19]; rfl) (by decide) ?_
      refine r_iconst X dX4_levelOf_96 ci_2 ?_
      exact r_iret X rfl hR (ok0 hf) dX4_levelOf_97
    replace hf := okf h19 hf
    by_cases h20 : a0 = (124 : Int32)
    · replace hf := okt h20 hf
      refine r_lookup (off := 91) (tgt := 92) X dX4_levelOf_1 (by decide +kernel) (by rw [h20]; rfl) (by decide) ?_
      refine r_iconst X dX4_levelOf_92 ci_0 ?_
      exact r_iret X rfl hR (ok0 hf) dX4_levelOf_93
    replace hf := okf h20 hf
    refine r_lookup (off := 101) (tgt := 102) X dX4_levelOf_1 (by decide +kernel) (lk_n h11 (by decide) (lk_n h12 (by decide) (lk_n h13 (by decide) (lk_n h14 (by decide) (lk_n h15 (by decide) (lk_n h16 (by decide) (lk_n h17 (by decide) (lk_n h18 (by decide) (lk_n h19 (by decide) (lk_n h20 (by decide) rfl)))))))))) (by decide) ?_
    refine r_iconst X dX4_levelOf_102 ci_m1 ?_
    exact r_iret X rfl hR (ok0 hf) dX4_levelOf_103
theorem md_X4_levelOf : MD yX4_levelOf wsX4_levelOf cX4_levelOf 1 1 (some .int) := ⟨⟨_, rfl⟩, by decide +kernel, by decide +kernel, by decide⟩
theorem c_X4_levelOf (l : Launch) (G : GX)  (a0 : Int32) (σ : MM) (h : (f_X4_levelOf a0 σ).isSome = true) : CTi l G yX4_levelOf wsX4_levelOf 3 [.int a0] σ (f_X4_levelOf a0 σ) :=
  CTi_of md_X4_levelOf (Nat.le_of_ble_eq_true rfl) (fun K X hR => e_X4_levelOf X hR a0 σ (ok_is h))
end
