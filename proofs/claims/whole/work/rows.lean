section
-- ===== PART A: goes FIRST, ahead of the names: the tables' words, and 'selects' of the private methods out of them =====
/-- a private method of a class that the tables say can be made, by its rows of tables_1 -/
def lw_okq (q : MethodName × Nat) : Prop := (q.1.cls ≠ "java/lang/invoke/MethodHandle" ∧ q.1.cls ≠ "java/lang/invoke/VarHandle") ∧ Cond.instantiable q.1.cls q.2 ∈ tables_1 ∧ Cond.privateMethod q.1 ∈ tables_1 ∧ Cond.instanceMethod q.1 ∈ tables_1
theorem lw_p0 : lw_okq (⟨"HalfGames", "found", "(I)J"⟩, 12) := ⟨⟨by decide +kernel, by decide +kernel⟩, List.mem_of_getElem? (i := 19) (by decide +kernel), List.mem_of_getElem? (i := 322) (by decide +kernel), List.mem_of_getElem? (i := 323) (by decide +kernel)⟩
theorem lw_p1 : lw_okq (⟨"HalfGames", "fine", "(J)J"⟩, 12) := ⟨⟨by decide +kernel, by decide +kernel⟩, List.mem_of_getElem? (i := 19) (by decide +kernel), List.mem_of_getElem? (i := 331) (by decide +kernel), List.mem_of_getElem? (i := 332) (by decide +kernel)⟩
theorem lw_p2 : lw_okq (⟨"HalfGames$Tape", "stepOverName", "()V"⟩, 6) := ⟨⟨by decide +kernel, by decide +kernel⟩, List.mem_of_getElem? (i := 49) (by decide +kernel), List.mem_of_getElem? (i := 402) (by decide +kernel), List.mem_of_getElem? (i := 403) (by decide +kernel)⟩
theorem lw_p3 : lw_okq (⟨"HalfGames$Tape", "isName", "(Ljava/lang/String;)Z"⟩, 6) := ⟨⟨by decide +kernel, by decide +kernel⟩, List.mem_of_getElem? (i := 49) (by decide +kernel), List.mem_of_getElem? (i := 407) (by decide +kernel), List.mem_of_getElem? (i := 408) (by decide +kernel)⟩
theorem lw_p4 : lw_okq (⟨"HalfGames$Tape", "stepOverNumber", "()V"⟩, 6) := ⟨⟨by decide +kernel, by decide +kernel⟩, List.mem_of_getElem? (i := 49) (by decide +kernel), List.mem_of_getElem? (i := 465) (by decide +kernel), List.mem_of_getElem? (i := 466) (by decide +kernel)⟩
theorem lw_p5 : lw_okq (⟨"HalfGames$Reader", "readPlace", "(LHalfGames$Tape;LHalfGames$Game;III)Z"⟩, 2) := ⟨⟨by decide +kernel, by decide +kernel⟩, List.mem_of_getElem? (i := 79) (by decide +kernel), List.mem_of_getElem? (i := 470) (by decide +kernel), List.mem_of_getElem? (i := 471) (by decide +kernel)⟩
theorem lw_p6 : lw_okq (⟨"HalfGames$Reader", "fail", "(LHalfGames$Tape;I)Z"⟩, 2) := ⟨⟨by decide +kernel, by decide +kernel⟩, List.mem_of_getElem? (i := 79) (by decide +kernel), List.mem_of_getElem? (i := 474) (by decide +kernel), List.mem_of_getElem? (i := 475) (by decide +kernel)⟩
theorem lw_p7 : lw_okq (⟨"HalfGames$Reader", "readPay", "(LHalfGames$Tape;LHalfGames$Game;I)Z"⟩, 2) := ⟨⟨by decide +kernel, by decide +kernel⟩, List.mem_of_getElem? (i := 79) (by decide +kernel), List.mem_of_getElem? (i := 483) (by decide +kernel), List.mem_of_getElem? (i := 484) (by decide +kernel)⟩
theorem lw_p8 : lw_okq (⟨"HalfGames$Reader", "readDeal", "(LHalfGames$Tape;LHalfGames$Game;I)Z"⟩, 2) := ⟨⟨by decide +kernel, by decide +kernel⟩, List.mem_of_getElem? (i := 79) (by decide +kernel), List.mem_of_getElem? (i := 487) (by decide +kernel), List.mem_of_getElem? (i := 488) (by decide +kernel)⟩
theorem lw_p9 : lw_okq (⟨"HalfGames$Reader", "readHeld", "(LHalfGames$Tape;LHalfGames$Game;I)Z"⟩, 2) := ⟨⟨by decide +kernel, by decide +kernel⟩, List.mem_of_getElem? (i := 79) (by decide +kernel), List.mem_of_getElem? (i := 491) (by decide +kernel), List.mem_of_getElem? (i := 492) (by decide +kernel)⟩
theorem lw_p10 : lw_okq (⟨"HalfGames$Game", "tellPast", "(I)V"⟩, 18) := ⟨⟨by decide +kernel, by decide +kernel⟩, List.mem_of_getElem? (i := 177) (by decide +kernel), List.mem_of_getElem? (i := 511) (by decide +kernel), List.mem_of_getElem? (i := 512) (by decide +kernel)⟩
theorem lw_p11 : lw_okq (⟨"HalfGames", "isPlace", "(I)Z"⟩, 12) := ⟨⟨by decide +kernel, by decide +kernel⟩, List.mem_of_getElem? (i := 19) (by decide +kernel), List.mem_of_getElem? (i := 548) (by decide +kernel), List.mem_of_getElem? (i := 549) (by decide +kernel)⟩
theorem lw_p12 : lw_okq (⟨"HalfGames", "isSet", "(I)Z"⟩, 12) := ⟨⟨by decide +kernel, by decide +kernel⟩, List.mem_of_getElem? (i := 19) (by decide +kernel), List.mem_of_getElem? (i := 567) (by decide +kernel), List.mem_of_getElem? (i := 568) (by decide +kernel)⟩
theorem lw_p13 : lw_okq (⟨"HalfGames", "isAct", "(II)Z"⟩, 12) := ⟨⟨by decide +kernel, by decide +kernel⟩, List.mem_of_getElem? (i := 19) (by decide +kernel), List.mem_of_getElem? (i := 585) (by decide +kernel), List.mem_of_getElem? (i := 586) (by decide +kernel)⟩
theorem lw_p14 : lw_okq (⟨"HalfGames", "hasGame", "()Z"⟩, 12) := ⟨⟨by decide +kernel, by decide +kernel⟩, List.mem_of_getElem? (i := 19) (by decide +kernel), List.mem_of_getElem? (i := 597) (by decide +kernel), List.mem_of_getElem? (i := 598) (by decide +kernel)⟩
theorem lw_p15 : lw_okq (⟨"HalfGames", "valueOfPlan", "()J"⟩, 12) := ⟨⟨by decide +kernel, by decide +kernel⟩, List.mem_of_getElem? (i := 19) (by decide +kernel), List.mem_of_getElem? (i := 601) (by decide +kernel), List.mem_of_getElem? (i := 602) (by decide +kernel)⟩
def lw_privs_1 : List (MethodName × Nat) := [(⟨"HalfGames", "found", "(I)J"⟩, 12), (⟨"HalfGames", "fine", "(J)J"⟩, 12), (⟨"HalfGames$Tape", "stepOverName", "()V"⟩, 6), (⟨"HalfGames$Tape", "isName", "(Ljava/lang/String;)Z"⟩, 6), (⟨"HalfGames$Tape", "stepOverNumber", "()V"⟩, 6), (⟨"HalfGames$Reader", "readPlace", "(LHalfGames$Tape;LHalfGames$Game;III)Z"⟩, 2), (⟨"HalfGames$Reader", "fail", "(LHalfGames$Tape;I)Z"⟩, 2), (⟨"HalfGames$Reader", "readPay", "(LHalfGames$Tape;LHalfGames$Game;I)Z"⟩, 2), (⟨"HalfGames$Reader", "readDeal", "(LHalfGames$Tape;LHalfGames$Game;I)Z"⟩, 2), (⟨"HalfGames$Reader", "readHeld", "(LHalfGames$Tape;LHalfGames$Game;I)Z"⟩, 2), (⟨"HalfGames$Game", "tellPast", "(I)V"⟩, 18), (⟨"HalfGames", "isPlace", "(I)Z"⟩, 12), (⟨"HalfGames", "isSet", "(I)Z"⟩, 12), (⟨"HalfGames", "isAct", "(II)Z"⟩, 12), (⟨"HalfGames", "hasGame", "()Z"⟩, 12), (⟨"HalfGames", "valueOfPlan", "()J"⟩, 12)]
theorem lw_r1 : ∀ q ∈ lw_privs_1, lw_okq q := List.forall_mem_cons.mpr ⟨lw_p0, List.forall_mem_cons.mpr ⟨lw_p1, List.forall_mem_cons.mpr ⟨lw_p2, List.forall_mem_cons.mpr ⟨lw_p3, List.forall_mem_cons.mpr ⟨lw_p4, List.forall_mem_cons.mpr ⟨lw_p5, List.forall_mem_cons.mpr ⟨lw_p6, List.forall_mem_cons.mpr ⟨lw_p7, List.forall_mem_cons.mpr ⟨lw_p8, List.forall_mem_cons.mpr ⟨lw_p9, List.forall_mem_cons.mpr ⟨lw_p10, List.forall_mem_cons.mpr ⟨lw_p11, List.forall_mem_cons.mpr ⟨lw_p12, List.forall_mem_cons.mpr ⟨lw_p13, List.forall_mem_cons.mpr ⟨lw_p14, List.forall_mem_cons.mpr ⟨lw_p15, fun _ h => absurd h List.not_mem_nil⟩⟩⟩⟩⟩⟩⟩⟩⟩⟩⟩⟩⟩⟩⟩⟩
theorem lw_p16 : lw_okq (⟨"HalfGames", "valueOfAnswer", "(I)J"⟩, 12) := ⟨⟨by decide +kernel, by decide +kernel⟩, List.mem_of_getElem? (i := 19) (by decide +kernel), List.mem_of_getElem? (i := 622) (by decide +kernel), List.mem_of_getElem? (i := 623) (by decide +kernel)⟩
theorem lw_p17 : lw_okq (⟨"HalfGames$Solver", "tellGroups", "(LHalfGames$Game;I)V"⟩, 7) := ⟨⟨by decide +kernel, by decide +kernel⟩, List.mem_of_getElem? (i := 104) (by decide +kernel), List.mem_of_getElem? (i := 630) (by decide +kernel), List.mem_of_getElem? (i := 631) (by decide +kernel)⟩
theorem lw_p18 : lw_okq (⟨"HalfGames$Solver", "leastAlike", "(LHalfGames$Game;I)I"⟩, 7) := ⟨⟨by decide +kernel, by decide +kernel⟩, List.mem_of_getElem? (i := 104) (by decide +kernel), List.mem_of_getElem? (i := 635) (by decide +kernel), List.mem_of_getElem? (i := 636) (by decide +kernel)⟩
theorem lw_p19 : lw_okq (⟨"HalfGames$Solver", "addUp", "(LHalfGames$Game;II)V"⟩, 7) := ⟨⟨by decide +kernel, by decide +kernel⟩, List.mem_of_getElem? (i := 104) (by decide +kernel), List.mem_of_getElem? (i := 650) (by decide +kernel), List.mem_of_getElem? (i := 651) (by decide +kernel)⟩
theorem lw_p20 : lw_okq (⟨"HalfGames$Solver", "chooseActs", "(LHalfGames$Game;II)V"⟩, 7) := ⟨⟨by decide +kernel, by decide +kernel⟩, List.mem_of_getElem? (i := 104) (by decide +kernel), List.mem_of_getElem? (i := 662) (by decide +kernel), List.mem_of_getElem? (i := 663) (by decide +kernel)⟩
theorem lw_p21 : lw_okq (⟨"HalfGames$Solver", "chooseAct", "(LHalfGames$Game;II)I"⟩, 7) := ⟨⟨by decide +kernel, by decide +kernel⟩, List.mem_of_getElem? (i := 104) (by decide +kernel), List.mem_of_getElem? (i := 666) (by decide +kernel), List.mem_of_getElem? (i := 667) (by decide +kernel)⟩
theorem lw_p22 : lw_okq (⟨"HalfGames$Solver", "isBarred", "(LHalfGames$Game;II)Z"⟩, 7) := ⟨⟨by decide +kernel, by decide +kernel⟩, List.mem_of_getElem? (i := 104) (by decide +kernel), List.mem_of_getElem? (i := 670) (by decide +kernel), List.mem_of_getElem? (i := 671) (by decide +kernel)⟩
theorem lw_p23 : lw_okq (⟨"HalfGames$Solver", "weigh", "(LHalfGames$Game;II[J)V"⟩, 7) := ⟨⟨by decide +kernel, by decide +kernel⟩, List.mem_of_getElem? (i := 104) (by decide +kernel), List.mem_of_getElem? (i := 677) (by decide +kernel), List.mem_of_getElem? (i := 678) (by decide +kernel)⟩
theorem lw_p24 : lw_okq (⟨"HalfGames$Solver", "worthOf", "(LHalfGames$Game;IIJ)J"⟩, 7) := ⟨⟨by decide +kernel, by decide +kernel⟩, List.mem_of_getElem? (i := 104) (by decide +kernel), List.mem_of_getElem? (i := 681) (by decide +kernel), List.mem_of_getElem? (i := 682) (by decide +kernel)⟩
theorem lw_p25 : lw_okq (⟨"HalfGames$History", "noteAnswer", "(LHalfGames$Game;LHalfGames$Solver;I)V"⟩, 6) := ⟨⟨by decide +kernel, by decide +kernel⟩, List.mem_of_getElem? (i := 134) (by decide +kernel), List.mem_of_getElem? (i := 723) (by decide +kernel), List.mem_of_getElem? (i := 724) (by decide +kernel)⟩
theorem lw_p26 : lw_okq (⟨"HalfGames$History", "addReach", "(LHalfGames$Game;I)V"⟩, 6) := ⟨⟨by decide +kernel, by decide +kernel⟩, List.mem_of_getElem? (i := 134) (by decide +kernel), List.mem_of_getElem? (i := 739) (by decide +kernel), List.mem_of_getElem? (i := 740) (by decide +kernel)⟩
theorem lw_p27 : lw_okq (⟨"HalfGames$Asker", "runBody", "(LHalfGames$Game;III)J"⟩, 2) := ⟨⟨by decide +kernel, by decide +kernel⟩, List.mem_of_getElem? (i := 162) (by decide +kernel), List.mem_of_getElem? (i := 791) (by decide +kernel), List.mem_of_getElem? (i := 792) (by decide +kernel)⟩
theorem lw_p28 : lw_okq (⟨"HalfGames$Asker", "leave", "(I)V"⟩, 2) := ⟨⟨by decide +kernel, by decide +kernel⟩, List.mem_of_getElem? (i := 162) (by decide +kernel), List.mem_of_getElem? (i := 795) (by decide +kernel), List.mem_of_getElem? (i := 796) (by decide +kernel)⟩
theorem lw_p29 : lw_okq (⟨"HalfGamesModel", "found", "(I)J"⟩, 40) := ⟨⟨by decide +kernel, by decide +kernel⟩, List.mem_of_getElem? (i := 833) (by decide +kernel), List.mem_of_getElem? (i := 973) (by decide +kernel), List.mem_of_getElem? (i := 974) (by decide +kernel)⟩
theorem lw_p30 : lw_okq (⟨"HalfGamesModel", "taken", "(J)J"⟩, 40) := ⟨⟨by decide +kernel, by decide +kernel⟩, List.mem_of_getElem? (i := 833) (by decide +kernel), List.mem_of_getElem? (i := 978) (by decide +kernel), List.mem_of_getElem? (i := 979) (by decide +kernel)⟩
theorem lw_p31 : lw_okq (⟨"HalfGamesModel", "readsAll", "()I"⟩, 40) := ⟨⟨by decide +kernel, by decide +kernel⟩, List.mem_of_getElem? (i := 833) (by decide +kernel), List.mem_of_getElem? (i := 1005) (by decide +kernel), List.mem_of_getElem? (i := 1006) (by decide +kernel)⟩
def lw_privs_2 : List (MethodName × Nat) := [(⟨"HalfGames", "valueOfAnswer", "(I)J"⟩, 12), (⟨"HalfGames$Solver", "tellGroups", "(LHalfGames$Game;I)V"⟩, 7), (⟨"HalfGames$Solver", "leastAlike", "(LHalfGames$Game;I)I"⟩, 7), (⟨"HalfGames$Solver", "addUp", "(LHalfGames$Game;II)V"⟩, 7), (⟨"HalfGames$Solver", "chooseActs", "(LHalfGames$Game;II)V"⟩, 7), (⟨"HalfGames$Solver", "chooseAct", "(LHalfGames$Game;II)I"⟩, 7), (⟨"HalfGames$Solver", "isBarred", "(LHalfGames$Game;II)Z"⟩, 7), (⟨"HalfGames$Solver", "weigh", "(LHalfGames$Game;II[J)V"⟩, 7), (⟨"HalfGames$Solver", "worthOf", "(LHalfGames$Game;IIJ)J"⟩, 7), (⟨"HalfGames$History", "noteAnswer", "(LHalfGames$Game;LHalfGames$Solver;I)V"⟩, 6), (⟨"HalfGames$History", "addReach", "(LHalfGames$Game;I)V"⟩, 6), (⟨"HalfGames$Asker", "runBody", "(LHalfGames$Game;III)J"⟩, 2), (⟨"HalfGames$Asker", "leave", "(I)V"⟩, 2), (⟨"HalfGamesModel", "found", "(I)J"⟩, 40), (⟨"HalfGamesModel", "taken", "(J)J"⟩, 40), (⟨"HalfGamesModel", "readsAll", "()I"⟩, 40)]
theorem lw_r2 : ∀ q ∈ lw_privs_2, lw_okq q := List.forall_mem_cons.mpr ⟨lw_p16, List.forall_mem_cons.mpr ⟨lw_p17, List.forall_mem_cons.mpr ⟨lw_p18, List.forall_mem_cons.mpr ⟨lw_p19, List.forall_mem_cons.mpr ⟨lw_p20, List.forall_mem_cons.mpr ⟨lw_p21, List.forall_mem_cons.mpr ⟨lw_p22, List.forall_mem_cons.mpr ⟨lw_p23, List.forall_mem_cons.mpr ⟨lw_p24, List.forall_mem_cons.mpr ⟨lw_p25, List.forall_mem_cons.mpr ⟨lw_p26, List.forall_mem_cons.mpr ⟨lw_p27, List.forall_mem_cons.mpr ⟨lw_p28, List.forall_mem_cons.mpr ⟨lw_p29, List.forall_mem_cons.mpr ⟨lw_p30, List.forall_mem_cons.mpr ⟨lw_p31, fun _ h => absurd h List.not_mem_nil⟩⟩⟩⟩⟩⟩⟩⟩⟩⟩⟩⟩⟩⟩⟩⟩
theorem lw_p32 : lw_okq (⟨"HalfGamesModel", "readsShare", "()I"⟩, 40) := ⟨⟨by decide +kernel, by decide +kernel⟩, List.mem_of_getElem? (i := 833) (by decide +kernel), List.mem_of_getElem? (i := 1009) (by decide +kernel), List.mem_of_getElem? (i := 1010) (by decide +kernel)⟩
theorem lw_p33 : lw_okq (⟨"HalfGamesModel", "token", "()V"⟩, 40) := ⟨⟨by decide +kernel, by decide +kernel⟩, List.mem_of_getElem? (i := 833) (by decide +kernel), List.mem_of_getElem? (i := 1013) (by decide +kernel), List.mem_of_getElem? (i := 1014) (by decide +kernel)⟩
theorem lw_p34 : lw_okq (⟨"HalfGamesModel", "readsPlace", "()I"⟩, 40) := ⟨⟨by decide +kernel, by decide +kernel⟩, List.mem_of_getElem? (i := 833) (by decide +kernel), List.mem_of_getElem? (i := 1022) (by decide +kernel), List.mem_of_getElem? (i := 1023) (by decide +kernel)⟩
theorem lw_p35 : lw_okq (⟨"HalfGamesModel", "wordNow", "()I"⟩, 40) := ⟨⟨by decide +kernel, by decide +kernel⟩, List.mem_of_getElem? (i := 833) (by decide +kernel), List.mem_of_getElem? (i := 1026) (by decide +kernel), List.mem_of_getElem? (i := 1027) (by decide +kernel)⟩
theorem lw_p36 : lw_okq (⟨"HalfGamesModel", "isWord", "(IIII)Z"⟩, 40) := ⟨⟨by decide +kernel, by decide +kernel⟩, List.mem_of_getElem? (i := 833) (by decide +kernel), List.mem_of_getElem? (i := 1030) (by decide +kernel), List.mem_of_getElem? (i := 1031) (by decide +kernel)⟩
theorem lw_p37 : lw_okq (⟨"HalfGamesModel", "readsDeal", "(I)I"⟩, 40) := ⟨⟨by decide +kernel, by decide +kernel⟩, List.mem_of_getElem? (i := 833) (by decide +kernel), List.mem_of_getElem? (i := 1035) (by decide +kernel), List.mem_of_getElem? (i := 1036) (by decide +kernel)⟩
theorem lw_p38 : lw_okq (⟨"HalfGamesModel", "readsHeld", "(II)I"⟩, 40) := ⟨⟨by decide +kernel, by decide +kernel⟩, List.mem_of_getElem? (i := 833) (by decide +kernel), List.mem_of_getElem? (i := 1040) (by decide +kernel), List.mem_of_getElem? (i := 1041) (by decide +kernel)⟩
theorem lw_p39 : lw_okq (⟨"HalfGamesModel", "isPlace", "(I)Z"⟩, 40) := ⟨⟨by decide +kernel, by decide +kernel⟩, List.mem_of_getElem? (i := 833) (by decide +kernel), List.mem_of_getElem? (i := 1054) (by decide +kernel), List.mem_of_getElem? (i := 1055) (by decide +kernel)⟩
theorem lw_p40 : lw_okq (⟨"HalfGamesModel", "placesIn", "(I)I"⟩, 40) := ⟨⟨by decide +kernel, by decide +kernel⟩, List.mem_of_getElem? (i := 833) (by decide +kernel), List.mem_of_getElem? (i := 1064) (by decide +kernel), List.mem_of_getElem? (i := 1065) (by decide +kernel)⟩
theorem lw_p41 : lw_okq (⟨"HalfGamesModel", "isForgetful", "(I)Z"⟩, 40) := ⟨⟨by decide +kernel, by decide +kernel⟩, List.mem_of_getElem? (i := 833) (by decide +kernel), List.mem_of_getElem? (i := 1072) (by decide +kernel), List.mem_of_getElem? (i := 1073) (by decide +kernel)⟩
theorem lw_p42 : lw_okq (⟨"HalfGamesModel", "isOf", "(II)Z"⟩, 40) := ⟨⟨by decide +kernel, by decide +kernel⟩, List.mem_of_getElem? (i := 833) (by decide +kernel), List.mem_of_getElem? (i := 1076) (by decide +kernel), List.mem_of_getElem? (i := 1077) (by decide +kernel)⟩
theorem lw_p43 : lw_okq (⟨"HalfGamesModel", "areAlike", "(III)Z"⟩, 40) := ⟨⟨by decide +kernel, by decide +kernel⟩, List.mem_of_getElem? (i := 833) (by decide +kernel), List.mem_of_getElem? (i := 1080) (by decide +kernel), List.mem_of_getElem? (i := 1081) (by decide +kernel)⟩
theorem lw_p44 : lw_okq (⟨"HalfGamesModel", "ownAbove", "(II)I"⟩, 40) := ⟨⟨by decide +kernel, by decide +kernel⟩, List.mem_of_getElem? (i := 833) (by decide +kernel), List.mem_of_getElem? (i := 1084) (by decide +kernel), List.mem_of_getElem? (i := 1085) (by decide +kernel)⟩
theorem lw_p45 : lw_okq (⟨"HalfGamesModel", "wayTo", "(II)I"⟩, 40) := ⟨⟨by decide +kernel, by decide +kernel⟩, List.mem_of_getElem? (i := 833) (by decide +kernel), List.mem_of_getElem? (i := 1088) (by decide +kernel), List.mem_of_getElem? (i := 1089) (by decide +kernel)⟩
theorem lw_p46 : lw_okq (⟨"HalfGamesModel", "isSet", "(I)Z"⟩, 40) := ⟨⟨by decide +kernel, by decide +kernel⟩, List.mem_of_getElem? (i := 833) (by decide +kernel), List.mem_of_getElem? (i := 1096) (by decide +kernel), List.mem_of_getElem? (i := 1097) (by decide +kernel)⟩
theorem lw_p47 : lw_okq (⟨"HalfGamesModel", "valueNow", "()J"⟩, 40) := ⟨⟨by decide +kernel, by decide +kernel⟩, List.mem_of_getElem? (i := 833) (by decide +kernel), List.mem_of_getElem? (i := 1110) (by decide +kernel), List.mem_of_getElem? (i := 1111) (by decide +kernel)⟩
def lw_privs_3 : List (MethodName × Nat) := [(⟨"HalfGamesModel", "readsShare", "()I"⟩, 40), (⟨"HalfGamesModel", "token", "()V"⟩, 40), (⟨"HalfGamesModel", "readsPlace", "()I"⟩, 40), (⟨"HalfGamesModel", "wordNow", "()I"⟩, 40), (⟨"HalfGamesModel", "isWord", "(IIII)Z"⟩, 40), (⟨"HalfGamesModel", "readsDeal", "(I)I"⟩, 40), (⟨"HalfGamesModel", "readsHeld", "(II)I"⟩, 40), (⟨"HalfGamesModel", "isPlace", "(I)Z"⟩, 40), (⟨"HalfGamesModel", "placesIn", "(I)I"⟩, 40), (⟨"HalfGamesModel", "isForgetful", "(I)Z"⟩, 40), (⟨"HalfGamesModel", "isOf", "(II)Z"⟩, 40), (⟨"HalfGamesModel", "areAlike", "(III)Z"⟩, 40), (⟨"HalfGamesModel", "ownAbove", "(II)I"⟩, 40), (⟨"HalfGamesModel", "wayTo", "(II)I"⟩, 40), (⟨"HalfGamesModel", "isSet", "(I)Z"⟩, 40), (⟨"HalfGamesModel", "valueNow", "()J"⟩, 40)]
theorem lw_r3 : ∀ q ∈ lw_privs_3, lw_okq q := List.forall_mem_cons.mpr ⟨lw_p32, List.forall_mem_cons.mpr ⟨lw_p33, List.forall_mem_cons.mpr ⟨lw_p34, List.forall_mem_cons.mpr ⟨lw_p35, List.forall_mem_cons.mpr ⟨lw_p36, List.forall_mem_cons.mpr ⟨lw_p37, List.forall_mem_cons.mpr ⟨lw_p38, List.forall_mem_cons.mpr ⟨lw_p39, List.forall_mem_cons.mpr ⟨lw_p40, List.forall_mem_cons.mpr ⟨lw_p41, List.forall_mem_cons.mpr ⟨lw_p42, List.forall_mem_cons.mpr ⟨lw_p43, List.forall_mem_cons.mpr ⟨lw_p44, List.forall_mem_cons.mpr ⟨lw_p45, List.forall_mem_cons.mpr ⟨lw_p46, List.forall_mem_cons.mpr ⟨lw_p47, fun _ h => absurd h List.not_mem_nil⟩⟩⟩⟩⟩⟩⟩⟩⟩⟩⟩⟩⟩⟩⟩⟩
theorem lw_p48 : lw_okq (⟨"HalfGamesModel", "layReach", "(II)V"⟩, 40) := ⟨⟨by decide +kernel, by decide +kernel⟩, List.mem_of_getElem? (i := 833) (by decide +kernel), List.mem_of_getElem? (i := 1114) (by decide +kernel), List.mem_of_getElem? (i := 1115) (by decide +kernel)⟩
theorem lw_p49 : lw_okq (⟨"HalfGamesModel", "shareTo", "(III)I"⟩, 40) := ⟨⟨by decide +kernel, by decide +kernel⟩, List.mem_of_getElem? (i := 833) (by decide +kernel), List.mem_of_getElem? (i := 1119) (by decide +kernel), List.mem_of_getElem? (i := 1120) (by decide +kernel)⟩
theorem lw_p50 : lw_okq (⟨"HalfGamesModel", "answerOf", "(I)J"⟩, 40) := ⟨⟨by decide +kernel, by decide +kernel⟩, List.mem_of_getElem? (i := 833) (by decide +kernel), List.mem_of_getElem? (i := 1131) (by decide +kernel), List.mem_of_getElem? (i := 1132) (by decide +kernel)⟩
theorem lw_p51 : lw_okq (⟨"HalfGamesModel", "layGroups", "()V"⟩, 40) := ⟨⟨by decide +kernel, by decide +kernel⟩, List.mem_of_getElem? (i := 833) (by decide +kernel), List.mem_of_getElem? (i := 1135) (by decide +kernel), List.mem_of_getElem? (i := 1136) (by decide +kernel)⟩
theorem lw_p52 : lw_okq (⟨"HalfGamesModel", "layCounts", "(I)V"⟩, 40) := ⟨⟨by decide +kernel, by decide +kernel⟩, List.mem_of_getElem? (i := 833) (by decide +kernel), List.mem_of_getElem? (i := 1139) (by decide +kernel), List.mem_of_getElem? (i := 1140) (by decide +kernel)⟩
theorem lw_p53 : lw_okq (⟨"HalfGamesModel", "answerBy", "(I)J"⟩, 40) := ⟨⟨by decide +kernel, by decide +kernel⟩, List.mem_of_getElem? (i := 833) (by decide +kernel), List.mem_of_getElem? (i := 1143) (by decide +kernel), List.mem_of_getElem? (i := 1144) (by decide +kernel)⟩
theorem lw_p54 : lw_okq (⟨"HalfGamesModel", "layWorth", "(I)V"⟩, 40) := ⟨⟨by decide +kernel, by decide +kernel⟩, List.mem_of_getElem? (i := 833) (by decide +kernel), List.mem_of_getElem? (i := 1147) (by decide +kernel), List.mem_of_getElem? (i := 1148) (by decide +kernel)⟩
theorem lw_p55 : lw_okq (⟨"HalfGamesModel", "ownDeep", "(II)I"⟩, 40) := ⟨⟨by decide +kernel, by decide +kernel⟩, List.mem_of_getElem? (i := 833) (by decide +kernel), List.mem_of_getElem? (i := 1151) (by decide +kernel), List.mem_of_getElem? (i := 1152) (by decide +kernel)⟩
theorem lw_p56 : lw_okq (⟨"HalfGamesModel", "bestAct", "(III)I"⟩, 40) := ⟨⟨by decide +kernel, by decide +kernel⟩, List.mem_of_getElem? (i := 833) (by decide +kernel), List.mem_of_getElem? (i := 1155) (by decide +kernel), List.mem_of_getElem? (i := 1156) (by decide +kernel)⟩
theorem lw_p57 : lw_okq (⟨"HalfGamesModel", "worthOf", "(III)J"⟩, 40) := ⟨⟨by decide +kernel, by decide +kernel⟩, List.mem_of_getElem? (i := 833) (by decide +kernel), List.mem_of_getElem? (i := 1159) (by decide +kernel), List.mem_of_getElem? (i := 1160) (by decide +kernel)⟩
theorem lw_p58 : lw_okq (⟨"HalfGamesModel", "gainOf", "(I)J"⟩, 40) := ⟨⟨by decide +kernel, by decide +kernel⟩, List.mem_of_getElem? (i := 833) (by decide +kernel), List.mem_of_getElem? (i := 1163) (by decide +kernel), List.mem_of_getElem? (i := 1164) (by decide +kernel)⟩
theorem lw_p59 : lw_okq (⟨"HalfGamesModel", "through", "(II)I"⟩, 40) := ⟨⟨by decide +kernel, by decide +kernel⟩, List.mem_of_getElem? (i := 833) (by decide +kernel), List.mem_of_getElem? (i := 1179) (by decide +kernel), List.mem_of_getElem? (i := 1180) (by decide +kernel)⟩
theorem lw_p60 : lw_okq (⟨"HalfGamesModel", "againstRounds", "(I)J"⟩, 40) := ⟨⟨by decide +kernel, by decide +kernel⟩, List.mem_of_getElem? (i := 833) (by decide +kernel), List.mem_of_getElem? (i := 1192) (by decide +kernel), List.mem_of_getElem? (i := 1193) (by decide +kernel)⟩
theorem lw_p61 : lw_okq (⟨"HalfGamesModel", "kindOf", "(I)I"⟩, 40) := ⟨⟨by decide +kernel, by decide +kernel⟩, List.mem_of_getElem? (i := 833) (by decide +kernel), List.mem_of_getElem? (i := 1212) (by decide +kernel), List.mem_of_getElem? (i := 1213) (by decide +kernel)⟩
theorem lw_p62 : lw_okq (⟨"HalfGamesModel", "size11", "(I)J"⟩, 40) := ⟨⟨by decide +kernel, by decide +kernel⟩, List.mem_of_getElem? (i := 833) (by decide +kernel), List.mem_of_getElem? (i := 1225) (by decide +kernel), List.mem_of_getElem? (i := 1226) (by decide +kernel)⟩
theorem lw_p63 : lw_okq (⟨"HalfGamesModel", "note", "(I)V"⟩, 40) := ⟨⟨by decide +kernel, by decide +kernel⟩, List.mem_of_getElem? (i := 833) (by decide +kernel), List.mem_of_getElem? (i := 1229) (by decide +kernel), List.mem_of_getElem? (i := 1230) (by decide +kernel)⟩
def lw_privs_4 : List (MethodName × Nat) := [(⟨"HalfGamesModel", "layReach", "(II)V"⟩, 40), (⟨"HalfGamesModel", "shareTo", "(III)I"⟩, 40), (⟨"HalfGamesModel", "answerOf", "(I)J"⟩, 40), (⟨"HalfGamesModel", "layGroups", "()V"⟩, 40), (⟨"HalfGamesModel", "layCounts", "(I)V"⟩, 40), (⟨"HalfGamesModel", "answerBy", "(I)J"⟩, 40), (⟨"HalfGamesModel", "layWorth", "(I)V"⟩, 40), (⟨"HalfGamesModel", "ownDeep", "(II)I"⟩, 40), (⟨"HalfGamesModel", "bestAct", "(III)I"⟩, 40), (⟨"HalfGamesModel", "worthOf", "(III)J"⟩, 40), (⟨"HalfGamesModel", "gainOf", "(I)J"⟩, 40), (⟨"HalfGamesModel", "through", "(II)I"⟩, 40), (⟨"HalfGamesModel", "againstRounds", "(I)J"⟩, 40), (⟨"HalfGamesModel", "kindOf", "(I)I"⟩, 40), (⟨"HalfGamesModel", "size11", "(I)J"⟩, 40), (⟨"HalfGamesModel", "note", "(I)V"⟩, 40)]
theorem lw_r4 : ∀ q ∈ lw_privs_4, lw_okq q := List.forall_mem_cons.mpr ⟨lw_p48, List.forall_mem_cons.mpr ⟨lw_p49, List.forall_mem_cons.mpr ⟨lw_p50, List.forall_mem_cons.mpr ⟨lw_p51, List.forall_mem_cons.mpr ⟨lw_p52, List.forall_mem_cons.mpr ⟨lw_p53, List.forall_mem_cons.mpr ⟨lw_p54, List.forall_mem_cons.mpr ⟨lw_p55, List.forall_mem_cons.mpr ⟨lw_p56, List.forall_mem_cons.mpr ⟨lw_p57, List.forall_mem_cons.mpr ⟨lw_p58, List.forall_mem_cons.mpr ⟨lw_p59, List.forall_mem_cons.mpr ⟨lw_p60, List.forall_mem_cons.mpr ⟨lw_p61, List.forall_mem_cons.mpr ⟨lw_p62, List.forall_mem_cons.mpr ⟨lw_p63, fun _ h => absurd h List.not_mem_nil⟩⟩⟩⟩⟩⟩⟩⟩⟩⟩⟩⟩⟩⟩⟩⟩
theorem lw_p64 : lw_okq (⟨"HalfGamesModel", "size10", "(I)J"⟩, 40) := ⟨⟨by decide +kernel, by decide +kernel⟩, List.mem_of_getElem? (i := 833) (by decide +kernel), List.mem_of_getElem? (i := 1233) (by decide +kernel), List.mem_of_getElem? (i := 1234) (by decide +kernel)⟩
theorem lw_p65 : lw_okq (⟨"HalfGamesModel", "size12", "(I)J"⟩, 40) := ⟨⟨by decide +kernel, by decide +kernel⟩, List.mem_of_getElem? (i := 833) (by decide +kernel), List.mem_of_getElem? (i := 1237) (by decide +kernel), List.mem_of_getElem? (i := 1238) (by decide +kernel)⟩
theorem lw_p66 : lw_okq (⟨"HalfGamesModel", "mark21", "(I)J"⟩, 40) := ⟨⟨by decide +kernel, by decide +kernel⟩, List.mem_of_getElem? (i := 833) (by decide +kernel), List.mem_of_getElem? (i := 1241) (by decide +kernel), List.mem_of_getElem? (i := 1242) (by decide +kernel)⟩
theorem lw_p67 : lw_okq (⟨"HalfGamesModel", "mark20", "(I)J"⟩, 40) := ⟨⟨by decide +kernel, by decide +kernel⟩, List.mem_of_getElem? (i := 833) (by decide +kernel), List.mem_of_getElem? (i := 1245) (by decide +kernel), List.mem_of_getElem? (i := 1246) (by decide +kernel)⟩
theorem lw_p68 : lw_okq (⟨"HalfGamesModel", "size13", "(I)J"⟩, 40) := ⟨⟨by decide +kernel, by decide +kernel⟩, List.mem_of_getElem? (i := 833) (by decide +kernel), List.mem_of_getElem? (i := 1250) (by decide +kernel), List.mem_of_getElem? (i := 1251) (by decide +kernel)⟩
theorem lw_p69 : lw_okq (⟨"HalfGamesModel", "size14", "(I)J"⟩, 40) := ⟨⟨by decide +kernel, by decide +kernel⟩, List.mem_of_getElem? (i := 833) (by decide +kernel), List.mem_of_getElem? (i := 1254) (by decide +kernel), List.mem_of_getElem? (i := 1255) (by decide +kernel)⟩
theorem lw_p70 : lw_okq (⟨"HalfGamesModel", "size15", "(I)J"⟩, 40) := ⟨⟨by decide +kernel, by decide +kernel⟩, List.mem_of_getElem? (i := 833) (by decide +kernel), List.mem_of_getElem? (i := 1258) (by decide +kernel), List.mem_of_getElem? (i := 1259) (by decide +kernel)⟩
theorem lw_p71 : lw_okq (⟨"HalfGamesModel", "mark22", "(I)J"⟩, 40) := ⟨⟨by decide +kernel, by decide +kernel⟩, List.mem_of_getElem? (i := 833) (by decide +kernel), List.mem_of_getElem? (i := 1262) (by decide +kernel), List.mem_of_getElem? (i := 1263) (by decide +kernel)⟩
def lw_privs_5 : List (MethodName × Nat) := [(⟨"HalfGamesModel", "size10", "(I)J"⟩, 40), (⟨"HalfGamesModel", "size12", "(I)J"⟩, 40), (⟨"HalfGamesModel", "mark21", "(I)J"⟩, 40), (⟨"HalfGamesModel", "mark20", "(I)J"⟩, 40), (⟨"HalfGamesModel", "size13", "(I)J"⟩, 40), (⟨"HalfGamesModel", "size14", "(I)J"⟩, 40), (⟨"HalfGamesModel", "size15", "(I)J"⟩, 40), (⟨"HalfGamesModel", "mark22", "(I)J"⟩, 40)]
theorem lw_r5 : ∀ q ∈ lw_privs_5, lw_okq q := List.forall_mem_cons.mpr ⟨lw_p64, List.forall_mem_cons.mpr ⟨lw_p65, List.forall_mem_cons.mpr ⟨lw_p66, List.forall_mem_cons.mpr ⟨lw_p67, List.forall_mem_cons.mpr ⟨lw_p68, List.forall_mem_cons.mpr ⟨lw_p69, List.forall_mem_cons.mpr ⟨lw_p70, List.forall_mem_cons.mpr ⟨lw_p71, fun _ h => absurd h List.not_mem_nil⟩⟩⟩⟩⟩⟩⟩⟩
def lw_privs : List (MethodName × Nat) := lw_privs_1 ++ (lw_privs_2 ++ (lw_privs_3 ++ (lw_privs_4 ++ (lw_privs_5))))
def lw_tbl : List Cond := k2_sels lw_privs ++ tables_1
theorem lw_privs_ok : ∀ q ∈ lw_privs, lw_okq q := by
  show ∀ q ∈ lw_privs_1 ++ (lw_privs_2 ++ (lw_privs_3 ++ (lw_privs_4 ++ (lw_privs_5)))), lw_okq q
  exact List.forall_mem_append.mpr ⟨lw_r1, List.forall_mem_append.mpr ⟨lw_r2, List.forall_mem_append.mpr ⟨lw_r3, List.forall_mem_append.mpr ⟨lw_r4, lw_r5⟩⟩⟩⟩
/-- the words that a call carries over -/
def gT : List Cond := lw_tbl.filter goodWord
theorem gT_sub : ∀ w ∈ gT, w ∈ lw_tbl := fun w h => (List.mem_filter.mp h).1
theorem gT_good : ∀ w ∈ gT, goodWord w = true := fun w h => (List.mem_filter.mp h).2
theorem gT_mem {w : Cond} (h : w ∈ lw_tbl) (hg : goodWord w = true) : w ∈ gT := List.mem_filter.mpr ⟨h, hg⟩
theorem tb_in {w : Cond} (i : Nat) (h : tables_1[i]? = some w) : w ∈ lw_tbl := List.mem_append_right _ (List.mem_of_getElem? h)
theorem sl_in {q : MethodName × Nat} (i : Nat) (h : lw_privs[i]? = some q) : Cond.selects q.1.cls q.1 q.1 ∈ lw_tbl := List.mem_append_left _ (List.mem_map.mpr ⟨q, List.mem_of_getElem? h, rfl⟩)
end
section
def RX0 : String := "HalfGames$Asker"
def TX0 : u_T := fun k => match k with
  | 0 => ("HalfGames$Asker", "numbers", "[I", true)
  | _ => ("HalfGames$Asker", "traced", "I", false)
def tyX0 : Nat → FieldType := fun k => match k with
  | 0 => .array .int
  | _ => .int
theorem nmX0 : ∀ a, a < 2 → ∀ b, b < 2 → a ≠ b → (TX0 a).2.1 ≠ (TX0 b).2.1 := by decide +kernel
theorem tyX0_ok : ∀ k, k < 2 → parseFieldDescriptor (TX0 k).2.2.1 = some (tyX0 k) := by decide +kernel
abbrev cX0_init : ByteArray := prog_2_method_1_code
def yX0_init : MethodName := ⟨RX0, "<init>", "()V"⟩
abbrev cX0_askSize : ByteArray := prog_2_method_2_code
def yX0_askSize : MethodName := ⟨RX0, "askSize", "(LHalfGames$Game;I)J"⟩
abbrev cX0_askMark : ByteArray := prog_2_method_3_code
def yX0_askMark : MethodName := ⟨RX0, "askMark", "(LHalfGames$Game;I)J"⟩
abbrev cX0_sizeBody : ByteArray := prog_2_method_4_code
def yX0_sizeBody : MethodName := ⟨RX0, "sizeBody", "(LHalfGames$Game;I)I"⟩
abbrev cX0_markBody : ByteArray := prog_2_method_5_code
def yX0_markBody : MethodName := ⟨RX0, "markBody", "(LHalfGames$Game;I)I"⟩
abbrev cX0_runBody : ByteArray := prog_2_method_6_code
def yX0_runBody : MethodName := ⟨RX0, "runBody", "(LHalfGames$Game;III)J"⟩
abbrev cX0_leave : ByteArray := prog_2_method_7_code
def yX0_leave : MethodName := ⟨RX0, "leave", "(I)V"⟩
def RX1 : String := "HalfGames$Game"
def TX1 : u_T := fun k => match k with
  | 0 => ("HalfGames$Game", "count", "I", false)
  | 1 => ("HalfGames$Game", "what", "[I", true)
  | 2 => ("HalfGames$Game", "pay", "[I", true)
  | 3 => ("HalfGames$Game", "set", "[I", true)
  | 4 => ("HalfGames$Game", "ways", "[I", true)
  | 5 => ("HalfGames$Game", "above", "[I", true)
  | 6 => ("HalfGames$Game", "depth", "[I", true)
  | 7 => ("HalfGames$Game", "turn", "[I", true)
  | 8 => ("HalfGames$Game", "share", "[I", true)
  | 9 => ("HalfGames$Game", "below", "[I", true)
  | 10 => ("HalfGames$Game", "size", "[I", true)
  | 11 => ("HalfGames$Game", "ownActs", "[I", true)
  | 12 => ("HalfGames$Game", "ownPast", "[J", true)
  | 13 => ("HalfGames$Game", "player", "[I", true)
  | 14 => ("HalfGames$Game", "acts", "[I", true)
  | 15 => ("HalfGames$Game", "places", "[I", true)
  | 16 => ("HalfGames$Game", "first", "[I", true)
  | _ => ("HalfGames$Game", "forgetful", "[Z", true)
def tyX1 : Nat → FieldType := fun k => match k with
  | 0 => .int
  | 1 => .array .int
  | 2 => .array .int
  | 3 => .array .int
  | 4 => .array .int
  | 5 => .array .int
  | 6 => .array .int
  | 7 => .array .int
  | 8 => .array .int
  | 9 => .array .int
  | 10 => .array .int
  | 11 => .array .int
  | 12 => .array .long
  | 13 => .array .int
  | 14 => .array .int
  | 15 => .array .int
  | 16 => .array .int
  | _ => .array .boolean
theorem nmX1 : ∀ a, a < 18 → ∀ b, b < 18 → a ≠ b → (TX1 a).2.1 ≠ (TX1 b).2.1 := by decide +kernel
theorem tyX1_ok : ∀ k, k < 18 → parseFieldDescriptor (TX1 k).2.2.1 = some (tyX1 k) := by decide +kernel
abbrev cX1_init : ByteArray := prog_3_method_1_code
def yX1_init : MethodName := ⟨RX1, "<init>", "()V"⟩
abbrev cX1_empty : ByteArray := prog_3_method_2_code
def yX1_empty : MethodName := ⟨RX1, "empty", "()V"⟩
abbrev cX1_add : ByteArray := prog_3_method_3_code
def yX1_add : MethodName := ⟨RX1, "add", "(IIIII)I"⟩
abbrev cX1_maySetBeOf : ByteArray := prog_3_method_4_code
def yX1_maySetBeOf : MethodName := ⟨RX1, "maySetBeOf", "(II)Z"⟩
abbrev cX1_maySetHave : ByteArray := prog_3_method_5_code
def yX1_maySetHave : MethodName := ⟨RX1, "maySetHave", "(II)Z"⟩
abbrev cX1_putIntoSet : ByteArray := prog_3_method_6_code
def yX1_putIntoSet : MethodName := ⟨RX1, "putIntoSet", "(III)V"⟩
abbrev cX1_finish : ByteArray := prog_3_method_7_code
def yX1_finish : MethodName := ⟨RX1, "finish", "()V"⟩
abbrev cX1_tellPast : ByteArray := prog_3_method_8_code
def yX1_tellPast : MethodName := ⟨RX1, "tellPast", "(I)V"⟩
abbrev cX1_ownActsTo : ByteArray := prog_3_method_9_code
def yX1_ownActsTo : MethodName := ⟨RX1, "ownActsTo", "(II)I"⟩
abbrev cX1_mostOwnActs : ByteArray := prog_3_method_10_code
def yX1_mostOwnActs : MethodName := ⟨RX1, "mostOwnActs", "(I)I"⟩
abbrev cX1_isHeld : ByteArray := prog_3_method_11_code
def yX1_isHeld : MethodName := ⟨RX1, "isHeld", "(I)Z"⟩
abbrev cX1_wayTo : ByteArray := prog_3_method_12_code
def yX1_wayTo : MethodName := ⟨RX1, "wayTo", "(II)I"⟩
abbrev cX1_kindOf : ByteArray := prog_3_method_13_code
def yX1_kindOf : MethodName := ⟨RX1, "kindOf", "(I)I"⟩
abbrev cX1_isOfKind : ByteArray := prog_3_method_14_code
def yX1_isOfKind : MethodName := ⟨RX1, "isOfKind", "(II)Z"⟩
abbrev cX1_countOf : ByteArray := prog_3_method_15_code
def yX1_countOf : MethodName := ⟨RX1, "countOf", "(I)I"⟩
abbrev cX1_countSets : ByteArray := prog_3_method_16_code
def yX1_countSets : MethodName := ⟨RX1, "countSets", "()I"⟩
def RX2 : String := "HalfGames$History"
def TX2 : u_T := fun k => match k with
  | 0 => ("HalfGames$History", "count", "I", false)
  | 1 => ("HalfGames$History", "done", "[I", true)
  | 2 => ("HalfGames$History", "reachOfOne", "[J", true)
  | 3 => ("HalfGames$History", "reachOfTwo", "[J", true)
  | 4 => ("HalfGames$History", "latest", "LHalfGames$Plan;", true)
  | _ => ("HalfGames$History", "latestReach", "[J", true)
def tyX2 : Nat → FieldType := fun k => match k with
  | 0 => .int
  | 1 => .array .int
  | 2 => .array .long
  | 3 => .array .long
  | 4 => .object "HalfGames$Plan"
  | _ => .array .long
theorem nmX2 : ∀ a, a < 6 → ∀ b, b < 6 → a ≠ b → (TX2 a).2.1 ≠ (TX2 b).2.1 := by decide +kernel
theorem tyX2_ok : ∀ k, k < 6 → parseFieldDescriptor (TX2 k).2.2.1 = some (tyX2 k) := by decide +kernel
abbrev cX2_init : ByteArray := prog_4_method_1_code
def yX2_init : MethodName := ⟨RX2, "<init>", "()V"⟩
abbrev cX2_begin : ByteArray := prog_4_method_2_code
def yX2_begin : MethodName := ⟨RX2, "begin", "()V"⟩
abbrev cX2_playOn : ByteArray := prog_4_method_3_code
def yX2_playOn : MethodName := ⟨RX2, "playOn", "(LHalfGames$Game;LHalfGames$Solver;)V"⟩
abbrev cX2_noteAnswer : ByteArray := prog_4_method_4_code
def yX2_noteAnswer : MethodName := ⟨RX2, "noteAnswer", "(LHalfGames$Game;LHalfGames$Solver;I)V"⟩
abbrev cX2_addReach : ByteArray := prog_4_method_5_code
def yX2_addReach : MethodName := ⟨RX2, "addReach", "(LHalfGames$Game;I)V"⟩
abbrev cX2_reachOf : ByteArray := prog_4_method_6_code
def yX2_reachOf : MethodName := ⟨RX2, "reachOf", "(I)[J"⟩
abbrev cX2_timesDone : ByteArray := prog_4_method_7_code
def yX2_timesDone : MethodName := ⟨RX2, "timesDone", "(II)I"⟩
abbrev cX2_putInto : ByteArray := prog_4_method_8_code
def yX2_putInto : MethodName := ⟨RX2, "putInto", "(LHalfGames$Plan;I)V"⟩
def RX3 : String := "HalfGames$Plan"
def TX3 : u_T := fun k => match k with
  | _ => ("HalfGames$Plan", "shares", "[I", true)
def tyX3 : Nat → FieldType := fun k => match k with
  | _ => .array .int
theorem nmX3 : ∀ a, a < 1 → ∀ b, b < 1 → a ≠ b → (TX3 a).2.1 ≠ (TX3 b).2.1 := by decide +kernel
theorem tyX3_ok : ∀ k, k < 1 → parseFieldDescriptor (TX3 k).2.2.1 = some (tyX3 k) := by decide +kernel
abbrev cX3_init : ByteArray := prog_5_method_1_code
def yX3_init : MethodName := ⟨RX3, "<init>", "()V"⟩
abbrev cX3_begin : ByteArray := prog_5_method_2_code
def yX3_begin : MethodName := ⟨RX3, "begin", "()V"⟩
abbrev cX3_give : ByteArray := prog_5_method_3_code
def yX3_give : MethodName := ⟨RX3, "give", "(III)V"⟩
abbrev cX3_giveAllTo : ByteArray := prog_5_method_4_code
def yX3_giveAllTo : MethodName := ⟨RX3, "giveAllTo", "(II)V"⟩
abbrev cX3_shareOf : ByteArray := prog_5_method_5_code
def yX3_shareOf : MethodName := ⟨RX3, "shareOf", "(II)I"⟩
abbrev cX3_workOut : ByteArray := prog_5_method_6_code
def yX3_workOut : MethodName := ⟨RX3, "workOut", "(LHalfGames$Game;I[J)V"⟩
def RX4 : String := "HalfGames$Reader"
def TX4 : u_T := fun k => match k with
  | 0 => ("HalfGames$Reader", "fault", "I", false)
  | _ => ("HalfGames$Reader", "faultAt", "I", false)
def tyX4 : Nat → FieldType := fun k => match k with
  | 0 => .int
  | _ => .int
theorem nmX4 : ∀ a, a < 2 → ∀ b, b < 2 → a ≠ b → (TX4 a).2.1 ≠ (TX4 b).2.1 := by decide +kernel
theorem tyX4_ok : ∀ k, k < 2 → parseFieldDescriptor (TX4 k).2.2.1 = some (tyX4 k) := by decide +kernel
abbrev cX4_init : ByteArray := prog_6_method_1_code
def yX4_init : MethodName := ⟨RX4, "<init>", "()V"⟩
abbrev cX4_readText : ByteArray := prog_6_method_2_code
def yX4_readText : MethodName := ⟨RX4, "readText", "(LHalfGames$Tape;LHalfGames$Game;)Z"⟩
abbrev cX4_fail : ByteArray := prog_6_method_3_code
def yX4_fail : MethodName := ⟨RX4, "fail", "(LHalfGames$Tape;I)Z"⟩
abbrev cX4_readPlace : ByteArray := prog_6_method_4_code
def yX4_readPlace : MethodName := ⟨RX4, "readPlace", "(LHalfGames$Tape;LHalfGames$Game;III)Z"⟩
abbrev cX4_readPay : ByteArray := prog_6_method_5_code
def yX4_readPay : MethodName := ⟨RX4, "readPay", "(LHalfGames$Tape;LHalfGames$Game;I)Z"⟩
abbrev cX4_readDeal : ByteArray := prog_6_method_6_code
def yX4_readDeal : MethodName := ⟨RX4, "readDeal", "(LHalfGames$Tape;LHalfGames$Game;I)Z"⟩
abbrev cX4_readHeld : ByteArray := prog_6_method_7_code
def yX4_readHeld : MethodName := ⟨RX4, "readHeld", "(LHalfGames$Tape;LHalfGames$Game;I)Z"⟩
def RX5 : String := "HalfGames$Shelf"
def TX5 : u_T := fun k => match k with
  | 0 => ("HalfGames$Shelf", "lane", "[I", true)
  | 1 => ("HalfGames$Shelf", "length", "[I", true)
  | _ => ("HalfGames$Shelf", "items", "[I", true)
def tyX5 : Nat → FieldType := fun k => match k with
  | 0 => .array .int
  | 1 => .array .int
  | _ => .array .int
theorem nmX5 : ∀ a, a < 3 → ∀ b, b < 3 → a ≠ b → (TX5 a).2.1 ≠ (TX5 b).2.1 := by decide +kernel
theorem tyX5_ok : ∀ k, k < 3 → parseFieldDescriptor (TX5 k).2.2.1 = some (tyX5 k) := by decide +kernel
abbrev cX5_init : ByteArray := prog_7_method_1_code
def yX5_init : MethodName := ⟨RX5, "<init>", "()V"⟩
abbrev cX5_isMissing : ByteArray := prog_7_method_2_code
def yX5_isMissing : MethodName := ⟨RX5, "isMissing", "(I)Z"⟩
abbrev cX5_hasItems : ByteArray := prog_7_method_3_code
def yX5_hasItems : MethodName := ⟨RX5, "hasItems", "(III)Z"⟩
abbrev cX5_lay : ByteArray := prog_7_method_4_code
def yX5_lay : MethodName := ⟨RX5, "lay", "(III)V"⟩
abbrev cX5_put : ByteArray := prog_7_method_5_code
def yX5_put : MethodName := ⟨RX5, "put", "(III)I"⟩
abbrev cX5_itemAt : ByteArray := prog_7_method_6_code
def yX5_itemAt : MethodName := ⟨RX5, "itemAt", "(II)I"⟩
abbrev cX5_bring : ByteArray := prog_7_method_7_code
def yX5_bring : MethodName := ⟨RX5, "bring", "(IIIII)V"⟩
abbrev cX5_remove : ByteArray := prog_7_method_8_code
def yX5_remove : MethodName := ⟨RX5, "remove", "(I)I"⟩
abbrev cX5_countRows : ByteArray := prog_7_method_9_code
def yX5_countRows : MethodName := ⟨RX5, "countRows", "()I"⟩
abbrev cX5_hasShares : ByteArray := prog_7_method_10_code
def yX5_hasShares : MethodName := ⟨RX5, "hasShares", "(III)Z"⟩
def RX6 : String := "HalfGames$Solver"
def TX6 : u_T := fun k => match k with
  | 0 => ("HalfGames$Solver", "worth", "[J", true)
  | 1 => ("HalfGames$Solver", "group", "[I", true)
  | 2 => ("HalfGames$Solver", "bestAct", "[I", true)
  | 3 => ("HalfGames$Solver", "sums", "[J", true)
  | 4 => ("HalfGames$Solver", "through", "[I", true)
  | 5 => ("HalfGames$Solver", "barredSet", "I", false)
  | _ => ("HalfGames$Solver", "barredAct", "I", false)
def tyX6 : Nat → FieldType := fun k => match k with
  | 0 => .array .long
  | 1 => .array .int
  | 2 => .array .int
  | 3 => .array .long
  | 4 => .array .int
  | 5 => .int
  | _ => .int
theorem nmX6 : ∀ a, a < 7 → ∀ b, b < 7 → a ≠ b → (TX6 a).2.1 ≠ (TX6 b).2.1 := by decide +kernel
theorem tyX6_ok : ∀ k, k < 7 → parseFieldDescriptor (TX6 k).2.2.1 = some (tyX6 k) := by decide +kernel
abbrev cX6_init : ByteArray := prog_8_method_1_code
def yX6_init : MethodName := ⟨RX6, "<init>", "()V"⟩
abbrev cX6_solve : ByteArray := prog_8_method_2_code
def yX6_solve : MethodName := ⟨RX6, "solve", "(LHalfGames$Game;I[JI)J"⟩
abbrev cX6_solveBarred : ByteArray := prog_8_method_3_code
def yX6_solveBarred : MethodName := ⟨RX6, "solveBarred", "(LHalfGames$Game;I[JII)J"⟩
abbrev cX6_actOf : ByteArray := prog_8_method_4_code
def yX6_actOf : MethodName := ⟨RX6, "actOf", "(LHalfGames$Game;I)I"⟩
abbrev cX6_tellGroups : ByteArray := prog_8_method_5_code
def yX6_tellGroups : MethodName := ⟨RX6, "tellGroups", "(LHalfGames$Game;I)V"⟩
abbrev cX6_leastAlike : ByteArray := prog_8_method_6_code
def yX6_leastAlike : MethodName := ⟨RX6, "leastAlike", "(LHalfGames$Game;I)I"⟩
abbrev cX6_addUp : ByteArray := prog_8_method_7_code
def yX6_addUp : MethodName := ⟨RX6, "addUp", "(LHalfGames$Game;II)V"⟩
abbrev cX6_chooseActs : ByteArray := prog_8_method_8_code
def yX6_chooseActs : MethodName := ⟨RX6, "chooseActs", "(LHalfGames$Game;II)V"⟩
abbrev cX6_chooseAct : ByteArray := prog_8_method_9_code
def yX6_chooseAct : MethodName := ⟨RX6, "chooseAct", "(LHalfGames$Game;II)I"⟩
abbrev cX6_isBarred : ByteArray := prog_8_method_10_code
def yX6_isBarred : MethodName := ⟨RX6, "isBarred", "(LHalfGames$Game;II)Z"⟩
abbrev cX6_weigh : ByteArray := prog_8_method_11_code
def yX6_weigh : MethodName := ⟨RX6, "weigh", "(LHalfGames$Game;II[J)V"⟩
abbrev cX6_worthOf : ByteArray := prog_8_method_12_code
def yX6_worthOf : MethodName := ⟨RX6, "worthOf", "(LHalfGames$Game;IIJ)J"⟩
abbrev cX6_isOwn : ByteArray := prog_8_method_13_code
def yX6_isOwn : MethodName := ⟨RX6, "isOwn", "(LHalfGames$Game;III)Z"⟩
def RX7 : String := "HalfGames$Tape"
def TX7 : u_T := fun k => match k with
  | 0 => ("HalfGames$Tape", "bytes", "[B", true)
  | 1 => ("HalfGames$Tape", "length", "I", false)
  | 2 => ("HalfGames$Tape", "token", "I", false)
  | 3 => ("HalfGames$Tape", "start", "I", false)
  | 4 => ("HalfGames$Tape", "number", "I", false)
  | _ => ("HalfGames$Tape", "next", "I", false)
def tyX7 : Nat → FieldType := fun k => match k with
  | 0 => .array .byte
  | 1 => .int
  | 2 => .int
  | 3 => .int
  | 4 => .int
  | _ => .int
theorem nmX7 : ∀ a, a < 6 → ∀ b, b < 6 → a ≠ b → (TX7 a).2.1 ≠ (TX7 b).2.1 := by decide +kernel
theorem tyX7_ok : ∀ k, k < 6 → parseFieldDescriptor (TX7 k).2.2.1 = some (tyX7 k) := by decide +kernel
abbrev cX7_init : ByteArray := prog_9_method_1_code
def yX7_init : MethodName := ⟨RX7, "<init>", "()V"⟩
abbrev cX7_push : ByteArray := prog_9_method_2_code
def yX7_push : MethodName := ⟨RX7, "push", "(JI)V"⟩
abbrev cX7_rewind : ByteArray := prog_9_method_3_code
def yX7_rewind : MethodName := ⟨RX7, "rewind", "()V"⟩
abbrev cX7_step : ByteArray := prog_9_method_4_code
def yX7_step : MethodName := ⟨RX7, "step", "()V"⟩
abbrev cX7_stepOverName : ByteArray := prog_9_method_5_code
def yX7_stepOverName : MethodName := ⟨RX7, "stepOverName", "()V"⟩
abbrev cX7_stepOverNumber : ByteArray := prog_9_method_6_code
def yX7_stepOverNumber : MethodName := ⟨RX7, "stepOverNumber", "()V"⟩
abbrev cX7_isName : ByteArray := prog_9_method_7_code
def yX7_isName : MethodName := ⟨RX7, "isName", "(Ljava/lang/String;)Z"⟩
abbrev cX7_isLetter : ByteArray := prog_9_method_8_code
def yX7_isLetter : MethodName := ⟨RX7, "isLetter", "(I)Z"⟩
abbrev cX7_isFigure : ByteArray := prog_9_method_9_code
def yX7_isFigure : MethodName := ⟨RX7, "isFigure", "(I)Z"⟩
def RX8 : String := "HalfGames"
def TX8 : u_T := fun k => match k with
  | 0 => ("HalfGames", "shelf", "LHalfGames$Shelf;", true)
  | 1 => ("HalfGames", "tape", "LHalfGames$Tape;", true)
  | 2 => ("HalfGames", "reader", "LHalfGames$Reader;", true)
  | 3 => ("HalfGames", "plan", "LHalfGames$Plan;", true)
  | 4 => ("HalfGames", "solver", "LHalfGames$Solver;", true)
  | 5 => ("HalfGames", "history", "LHalfGames$History;", true)
  | 6 => ("HalfGames", "asker", "LHalfGames$Asker;", true)
  | 7 => ("HalfGames", "reached", "[J", true)
  | 8 => ("HalfGames", "standing", "LHalfGames$Game;", false)
  | 9 => ("HalfGames", "spare", "LHalfGames$Game;", false)
  | 10 => ("HalfGames", "latestFault", "I", false)
  | _ => ("HalfGames", "latestFinding", "I", false)
def tyX8 : Nat → FieldType := fun k => match k with
  | 0 => .object "HalfGames$Shelf"
  | 1 => .object "HalfGames$Tape"
  | 2 => .object "HalfGames$Reader"
  | 3 => .object "HalfGames$Plan"
  | 4 => .object "HalfGames$Solver"
  | 5 => .object "HalfGames$History"
  | 6 => .object "HalfGames$Asker"
  | 7 => .array .long
  | 8 => .object "HalfGames$Game"
  | 9 => .object "HalfGames$Game"
  | 10 => .int
  | _ => .int
theorem nmX8 : ∀ a, a < 12 → ∀ b, b < 12 → a ≠ b → (TX8 a).2.1 ≠ (TX8 b).2.1 := by decide +kernel
theorem tyX8_ok : ∀ k, k < 12 → parseFieldDescriptor (TX8 k).2.2.1 = some (tyX8 k) := by decide +kernel
abbrev cX8_init : ByteArray := prog_1_method_1_code
def yX8_init : MethodName := ⟨RX8, "<init>", "()V"⟩
abbrev cX8_row : ByteArray := prog_1_method_2_code
def yX8_row : MethodName := ⟨RX8, "row", "(III)J"⟩
abbrev cX8_set : ByteArray := prog_1_method_3_code
def yX8_set : MethodName := ⟨RX8, "set", "(III)J"⟩
abbrev cX8_copy : ByteArray := prog_1_method_4_code
def yX8_copy : MethodName := ⟨RX8, "copy", "(IIIII)J"⟩
abbrev cX8_drop : ByteArray := prog_1_method_5_code
def yX8_drop : MethodName := ⟨RX8, "drop", "(I)J"⟩
abbrev cX8_feed : ByteArray := prog_1_method_6_code
def yX8_feed : MethodName := ⟨RX8, "feed", "(JI)J"⟩
abbrev cX8_game : ByteArray := prog_1_method_7_code
def yX8_game : MethodName := ⟨RX8, "game", "()J"⟩
abbrev cX8_fault : ByteArray := prog_1_method_8_code
def yX8_fault : MethodName := ⟨RX8, "fault", "()I"⟩
abbrev cX8_place : ByteArray := prog_1_method_9_code
def yX8_place : MethodName := ⟨RX8, "place", "(II)J"⟩
abbrev cX8_seen : ByteArray := prog_1_method_10_code
def yX8_seen : MethodName := ⟨RX8, "seen", "(II)J"⟩
abbrev cX8_forgets : ByteArray := prog_1_method_11_code
def yX8_forgets : MethodName := ⟨RX8, "forgets", "(I)J"⟩
abbrev cX8_mix : ByteArray := prog_1_method_12_code
def yX8_mix : MethodName := ⟨RX8, "mix", "(III)J"⟩
abbrev cX8_share : ByteArray := prog_1_method_13_code
def yX8_share : MethodName := ⟨RX8, "share", "(II)J"⟩
abbrev cX8_value : ByteArray := prog_1_method_14_code
def yX8_value : MethodName := ⟨RX8, "value", "()J"⟩
abbrev cX8_reach : ByteArray := prog_1_method_15_code
def yX8_reach : MethodName := ⟨RX8, "reach", "(II)J"⟩
abbrev cX8_best : ByteArray := prog_1_method_16_code
def yX8_best : MethodName := ⟨RX8, "best", "(II)J"⟩
abbrev cX8_answer : ByteArray := prog_1_method_17_code
def yX8_answer : MethodName := ⟨RX8, "answer", "(I)J"⟩
abbrev cX8_belief : ByteArray := prog_1_method_18_code
def yX8_belief : MethodName := ⟨RX8, "belief", "(II)J"⟩
abbrev cX8_seeing : ByteArray := prog_1_method_19_code
def yX8_seeing : MethodName := ⟨RX8, "seeing", "(I)J"⟩
abbrev cX8_fewer : ByteArray := prog_1_method_20_code
def yX8_fewer : MethodName := ⟨RX8, "fewer", "(II)J"⟩
abbrev cX8_rounds : ByteArray := prog_1_method_21_code
def yX8_rounds : MethodName := ⟨RX8, "rounds", "(I)J"⟩
abbrev cX8_bound : ByteArray := prog_1_method_22_code
def yX8_bound : MethodName := ⟨RX8, "bound", "(I)J"⟩
abbrev cX8_mean : ByteArray := prog_1_method_23_code
def yX8_mean : MethodName := ⟨RX8, "mean", "(II)J"⟩
abbrev cX8_take : ByteArray := prog_1_method_24_code
def yX8_take : MethodName := ⟨RX8, "take", "(I)J"⟩
abbrev cX8_kind : ByteArray := prog_1_method_25_code
def yX8_kind : MethodName := ⟨RX8, "kind", "(I)J"⟩
abbrev cX8_as : ByteArray := prog_1_method_26_code
def yX8_as : MethodName := ⟨RX8, "as", "(II)J"⟩
abbrev cX8_ask : ByteArray := prog_1_method_27_code
def yX8_ask : MethodName := ⟨RX8, "ask", "(II)J"⟩
abbrev cX8_trace : ByteArray := prog_1_method_28_code
def yX8_trace : MethodName := ⟨RX8, "trace", "(I)I"⟩
abbrev cX8_count : ByteArray := prog_1_method_29_code
def yX8_count : MethodName := ⟨RX8, "count", "(I)J"⟩
abbrev cX8_status : ByteArray := prog_1_method_30_code
def yX8_status : MethodName := ⟨RX8, "status", "()I"⟩
abbrev cX8_found : ByteArray := prog_1_method_31_code
def yX8_found : MethodName := ⟨RX8, "found", "(I)J"⟩
abbrev cX8_fine : ByteArray := prog_1_method_32_code
def yX8_fine : MethodName := ⟨RX8, "fine", "(J)J"⟩
abbrev cX8_hasGame : ByteArray := prog_1_method_33_code
def yX8_hasGame : MethodName := ⟨RX8, "hasGame", "()Z"⟩
abbrev cX8_isPlace : ByteArray := prog_1_method_34_code
def yX8_isPlace : MethodName := ⟨RX8, "isPlace", "(I)Z"⟩
abbrev cX8_isSet : ByteArray := prog_1_method_35_code
def yX8_isSet : MethodName := ⟨RX8, "isSet", "(I)Z"⟩
abbrev cX8_isAct : ByteArray := prog_1_method_36_code
def yX8_isAct : MethodName := ⟨RX8, "isAct", "(II)Z"⟩
abbrev cX8_isRow : ByteArray := prog_1_method_37_code
def yX8_isRow : MethodName := ⟨RX8, "isRow", "(I)Z"⟩
abbrev cX8_isPlayer : ByteArray := prog_1_method_38_code
def yX8_isPlayer : MethodName := ⟨RX8, "isPlayer", "(I)Z"⟩
abbrev cX8_valueOfPlan : ByteArray := prog_1_method_39_code
def yX8_valueOfPlan : MethodName := ⟨RX8, "valueOfPlan", "()J"⟩
abbrev cX8_valueOfAnswer : ByteArray := prog_1_method_40_code
def yX8_valueOfAnswer : MethodName := ⟨RX8, "valueOfAnswer", "(I)J"⟩
abbrev cX8_gainOf : ByteArray := prog_1_method_41_code
def yX8_gainOf : MethodName := ⟨RX8, "gainOf", "(IJJ)J"⟩
def RX9 : String := "HalfGamesModel"
def TX9 : u_T := fun k => match k with
  | 0 => ("HalfGamesModel", "lane", "[I", true)
  | 1 => ("HalfGamesModel", "itemMany", "[I", true)
  | 2 => ("HalfGamesModel", "items", "[I", true)
  | 3 => ("HalfGamesModel", "finding", "I", false)
  | 4 => ("HalfGamesModel", "tape", "[I", true)
  | 5 => ("HalfGamesModel", "length", "I", false)
  | 6 => ("HalfGamesModel", "faultNumber", "I", false)
  | 7 => ("HalfGamesModel", "what", "[I", true)
  | 8 => ("HalfGamesModel", "pay", "[I", true)
  | 9 => ("HalfGamesModel", "setOf", "[I", true)
  | 10 => ("HalfGamesModel", "many", "[I", true)
  | 11 => ("HalfGamesModel", "above", "[I", true)
  | 12 => ("HalfGamesModel", "which", "[I", true)
  | 13 => ("HalfGamesModel", "chance", "[I", true)
  | 14 => ("HalfGamesModel", "deep", "[I", true)
  | 15 => ("HalfGamesModel", "child", "[I", true)
  | 16 => ("HalfGamesModel", "places", "I", false)
  | 17 => ("HalfGamesModel", "player", "[I", true)
  | 18 => ("HalfGamesModel", "acts", "[I", true)
  | 19 => ("HalfGamesModel", "shares", "[I", true)
  | 20 => ("HalfGamesModel", "roundActs", "[I", true)
  | 21 => ("HalfGamesModel", "rounds", "I", false)
  | 22 => ("HalfGamesModel", "trace", "[I", true)
  | 23 => ("HalfGamesModel", "traceMany", "I", false)
  | 24 => ("HalfGamesModel", "at", "I", false)
  | 25 => ("HalfGamesModel", "begin", "I", false)
  | 26 => ("HalfGamesModel", "sort", "I", false)
  | 27 => ("HalfGamesModel", "figure", "I", false)
  | 28 => ("HalfGamesModel", "open", "[I", true)
  | 29 => ("HalfGamesModel", "left", "[I", true)
  | 30 => ("HalfGamesModel", "sum", "[I", true)
  | 31 => ("HalfGamesModel", "opens", "I", false)
  | 32 => ("HalfGamesModel", "read", "I", false)
  | 33 => ("HalfGamesModel", "reach", "[J", true)
  | 34 => ("HalfGamesModel", "counts", "[J", true)
  | 35 => ("HalfGamesModel", "group", "[I", true)
  | 36 => ("HalfGamesModel", "worth", "[J", true)
  | 37 => ("HalfGamesModel", "best", "[I", true)
  | 38 => ("HalfGamesModel", "barredSet", "I", false)
  | _ => ("HalfGamesModel", "barredAct", "I", false)
def tyX9 : Nat → FieldType := fun k => match k with
  | 0 => .array .int
  | 1 => .array .int
  | 2 => .array .int
  | 3 => .int
  | 4 => .array .int
  | 5 => .int
  | 6 => .int
  | 7 => .array .int
  | 8 => .array .int
  | 9 => .array .int
  | 10 => .array .int
  | 11 => .array .int
  | 12 => .array .int
  | 13 => .array .int
  | 14 => .array .int
  | 15 => .array .int
  | 16 => .int
  | 17 => .array .int
  | 18 => .array .int
  | 19 => .array .int
  | 20 => .array .int
  | 21 => .int
  | 22 => .array .int
  | 23 => .int
  | 24 => .int
  | 25 => .int
  | 26 => .int
  | 27 => .int
  | 28 => .array .int
  | 29 => .array .int
  | 30 => .array .int
  | 31 => .int
  | 32 => .int
  | 33 => .array .long
  | 34 => .array .long
  | 35 => .array .int
  | 36 => .array .long
  | 37 => .array .int
  | 38 => .int
  | _ => .int
theorem nmX9 : ∀ a, a < 40 → ∀ b, b < 40 → a ≠ b → (TX9 a).2.1 ≠ (TX9 b).2.1 := by decide +kernel
theorem tyX9_ok : ∀ k, k < 40 → parseFieldDescriptor (TX9 k).2.2.1 = some (tyX9 k) := by decide +kernel
abbrev cX9_init : ByteArray := prog_11_method_1_code
def yX9_init : MethodName := ⟨RX9, "<init>", "()V"⟩
abbrev cX9_in : ByteArray := prog_11_method_2_code
def yX9_in : MethodName := ⟨RX9, "in", "(JJJ)Z"⟩
abbrev cX9_isRow : ByteArray := prog_11_method_3_code
def yX9_isRow : MethodName := ⟨RX9, "isRow", "(I)Z"⟩
abbrev cX9_found : ByteArray := prog_11_method_4_code
def yX9_found : MethodName := ⟨RX9, "found", "(I)J"⟩
abbrev cX9_taken : ByteArray := prog_11_method_5_code
def yX9_taken : MethodName := ⟨RX9, "taken", "(J)J"⟩
abbrev cX9_row : ByteArray := prog_11_method_6_code
def yX9_row : MethodName := ⟨RX9, "row", "(III)J"⟩
abbrev cX9_set : ByteArray := prog_11_method_7_code
def yX9_set : MethodName := ⟨RX9, "set", "(III)J"⟩
abbrev cX9_copy : ByteArray := prog_11_method_8_code
def yX9_copy : MethodName := ⟨RX9, "copy", "(IIIII)J"⟩
abbrev cX9_drop : ByteArray := prog_11_method_9_code
def yX9_drop : MethodName := ⟨RX9, "drop", "(I)J"⟩
abbrev cX9_feed : ByteArray := prog_11_method_10_code
def yX9_feed : MethodName := ⟨RX9, "feed", "(JI)J"⟩
abbrev cX9_token : ByteArray := prog_11_method_11_code
def yX9_token : MethodName := ⟨RX9, "token", "()V"⟩
abbrev cX9_isWord : ByteArray := prog_11_method_12_code
def yX9_isWord : MethodName := ⟨RX9, "isWord", "(IIII)Z"⟩
abbrev cX9_wordNow : ByteArray := prog_11_method_13_code
def yX9_wordNow : MethodName := ⟨RX9, "wordNow", "()I"⟩
abbrev cX9_readsPlace : ByteArray := prog_11_method_14_code
def yX9_readsPlace : MethodName := ⟨RX9, "readsPlace", "()I"⟩
abbrev cX9_readsDeal : ByteArray := prog_11_method_15_code
def yX9_readsDeal : MethodName := ⟨RX9, "readsDeal", "(I)I"⟩
abbrev cX9_readsHeld : ByteArray := prog_11_method_16_code
def yX9_readsHeld : MethodName := ⟨RX9, "readsHeld", "(II)I"⟩
abbrev cX9_readsShare : ByteArray := prog_11_method_17_code
def yX9_readsShare : MethodName := ⟨RX9, "readsShare", "()I"⟩
abbrev cX9_readsAll : ByteArray := prog_11_method_18_code
def yX9_readsAll : MethodName := ⟨RX9, "readsAll", "()I"⟩
abbrev cX9_game : ByteArray := prog_11_method_19_code
def yX9_game : MethodName := ⟨RX9, "game", "()J"⟩
abbrev cX9_fault : ByteArray := prog_11_method_20_code
def yX9_fault : MethodName := ⟨RX9, "fault", "()I"⟩
abbrev cX9_isPlace : ByteArray := prog_11_method_21_code
def yX9_isPlace : MethodName := ⟨RX9, "isPlace", "(I)Z"⟩
abbrev cX9_isSet : ByteArray := prog_11_method_22_code
def yX9_isSet : MethodName := ⟨RX9, "isSet", "(I)Z"⟩
abbrev cX9_place : ByteArray := prog_11_method_23_code
def yX9_place : MethodName := ⟨RX9, "place", "(II)J"⟩
abbrev cX9_placesIn : ByteArray := prog_11_method_24_code
def yX9_placesIn : MethodName := ⟨RX9, "placesIn", "(I)I"⟩
abbrev cX9_seen : ByteArray := prog_11_method_25_code
def yX9_seen : MethodName := ⟨RX9, "seen", "(II)J"⟩
abbrev cX9_isOf : ByteArray := prog_11_method_26_code
def yX9_isOf : MethodName := ⟨RX9, "isOf", "(II)Z"⟩
abbrev cX9_ownAbove : ByteArray := prog_11_method_27_code
def yX9_ownAbove : MethodName := ⟨RX9, "ownAbove", "(II)I"⟩
abbrev cX9_wayTo : ByteArray := prog_11_method_28_code
def yX9_wayTo : MethodName := ⟨RX9, "wayTo", "(II)I"⟩
abbrev cX9_areAlike : ByteArray := prog_11_method_29_code
def yX9_areAlike : MethodName := ⟨RX9, "areAlike", "(III)Z"⟩
abbrev cX9_isForgetful : ByteArray := prog_11_method_30_code
def yX9_isForgetful : MethodName := ⟨RX9, "isForgetful", "(I)Z"⟩
abbrev cX9_forgets : ByteArray := prog_11_method_31_code
def yX9_forgets : MethodName := ⟨RX9, "forgets", "(I)J"⟩
abbrev cX9_mix : ByteArray := prog_11_method_32_code
def yX9_mix : MethodName := ⟨RX9, "mix", "(III)J"⟩
abbrev cX9_share : ByteArray := prog_11_method_33_code
def yX9_share : MethodName := ⟨RX9, "share", "(II)J"⟩
abbrev cX9_shareTo : ByteArray := prog_11_method_34_code
def yX9_shareTo : MethodName := ⟨RX9, "shareTo", "(III)I"⟩
abbrev cX9_layReach : ByteArray := prog_11_method_35_code
def yX9_layReach : MethodName := ⟨RX9, "layReach", "(II)V"⟩
abbrev cX9_valueNow : ByteArray := prog_11_method_36_code
def yX9_valueNow : MethodName := ⟨RX9, "valueNow", "()J"⟩
abbrev cX9_value : ByteArray := prog_11_method_37_code
def yX9_value : MethodName := ⟨RX9, "value", "()J"⟩
abbrev cX9_reach : ByteArray := prog_11_method_38_code
def yX9_reach : MethodName := ⟨RX9, "reach", "(II)J"⟩
abbrev cX9_ownDeep : ByteArray := prog_11_method_39_code
def yX9_ownDeep : MethodName := ⟨RX9, "ownDeep", "(II)I"⟩
abbrev cX9_layWorth : ByteArray := prog_11_method_40_code
def yX9_layWorth : MethodName := ⟨RX9, "layWorth", "(I)V"⟩
abbrev cX9_worthOf : ByteArray := prog_11_method_41_code
def yX9_worthOf : MethodName := ⟨RX9, "worthOf", "(III)J"⟩
abbrev cX9_bestAct : ByteArray := prog_11_method_42_code
def yX9_bestAct : MethodName := ⟨RX9, "bestAct", "(III)I"⟩
abbrev cX9_answerBy : ByteArray := prog_11_method_43_code
def yX9_answerBy : MethodName := ⟨RX9, "answerBy", "(I)J"⟩
abbrev cX9_layGroups : ByteArray := prog_11_method_44_code
def yX9_layGroups : MethodName := ⟨RX9, "layGroups", "()V"⟩
abbrev cX9_layCounts : ByteArray := prog_11_method_45_code
def yX9_layCounts : MethodName := ⟨RX9, "layCounts", "(I)V"⟩
abbrev cX9_answerOf : ByteArray := prog_11_method_46_code
def yX9_answerOf : MethodName := ⟨RX9, "answerOf", "(I)J"⟩
abbrev cX9_gainOf : ByteArray := prog_11_method_47_code
def yX9_gainOf : MethodName := ⟨RX9, "gainOf", "(I)J"⟩
abbrev cX9_best : ByteArray := prog_11_method_48_code
def yX9_best : MethodName := ⟨RX9, "best", "(II)J"⟩
abbrev cX9_answer : ByteArray := prog_11_method_49_code
def yX9_answer : MethodName := ⟨RX9, "answer", "(I)J"⟩
abbrev cX9_belief : ByteArray := prog_11_method_50_code
def yX9_belief : MethodName := ⟨RX9, "belief", "(II)J"⟩
abbrev cX9_through : ByteArray := prog_11_method_51_code
def yX9_through : MethodName := ⟨RX9, "through", "(II)I"⟩
abbrev cX9_seeing : ByteArray := prog_11_method_52_code
def yX9_seeing : MethodName := ⟨RX9, "seeing", "(I)J"⟩
abbrev cX9_fewer : ByteArray := prog_11_method_53_code
def yX9_fewer : MethodName := ⟨RX9, "fewer", "(II)J"⟩
abbrev cX9_againstRounds : ByteArray := prog_11_method_54_code
def yX9_againstRounds : MethodName := ⟨RX9, "againstRounds", "(I)J"⟩
abbrev cX9_rounds : ByteArray := prog_11_method_55_code
def yX9_rounds : MethodName := ⟨RX9, "rounds", "(I)J"⟩
abbrev cX9_bound : ByteArray := prog_11_method_56_code
def yX9_bound : MethodName := ⟨RX9, "bound", "(I)J"⟩
abbrev cX9_mean : ByteArray := prog_11_method_57_code
def yX9_mean : MethodName := ⟨RX9, "mean", "(II)J"⟩
abbrev cX9_take : ByteArray := prog_11_method_58_code
def yX9_take : MethodName := ⟨RX9, "take", "(I)J"⟩
abbrev cX9_kindOf : ByteArray := prog_11_method_59_code
def yX9_kindOf : MethodName := ⟨RX9, "kindOf", "(I)I"⟩
abbrev cX9_kind : ByteArray := prog_11_method_60_code
def yX9_kind : MethodName := ⟨RX9, "kind", "(I)J"⟩
abbrev cX9_as : ByteArray := prog_11_method_61_code
def yX9_as : MethodName := ⟨RX9, "as", "(II)J"⟩
abbrev cX9_note : ByteArray := prog_11_method_62_code
def yX9_note : MethodName := ⟨RX9, "note", "(I)V"⟩
abbrev cX9_size10 : ByteArray := prog_11_method_63_code
def yX9_size10 : MethodName := ⟨RX9, "size10", "(I)J"⟩
abbrev cX9_size14 : ByteArray := prog_11_method_64_code
def yX9_size14 : MethodName := ⟨RX9, "size14", "(I)J"⟩
abbrev cX9_size15 : ByteArray := prog_11_method_65_code
def yX9_size15 : MethodName := ⟨RX9, "size15", "(I)J"⟩
abbrev cX9_mark20 : ByteArray := prog_11_method_66_code
def yX9_mark20 : MethodName := ⟨RX9, "mark20", "(I)J"⟩
abbrev cX9_mark21 : ByteArray := prog_11_method_67_code
def yX9_mark21 : MethodName := ⟨RX9, "mark21", "(I)J"⟩
abbrev cX9_mark22 : ByteArray := prog_11_method_68_code
def yX9_mark22 : MethodName := ⟨RX9, "mark22", "(I)J"⟩
abbrev cX9_size12 : ByteArray := prog_11_method_69_code
def yX9_size12 : MethodName := ⟨RX9, "size12", "(I)J"⟩
abbrev cX9_size11 : ByteArray := prog_11_method_70_code
def yX9_size11 : MethodName := ⟨RX9, "size11", "(I)J"⟩
abbrev cX9_size13 : ByteArray := prog_11_method_71_code
def yX9_size13 : MethodName := ⟨RX9, "size13", "(I)J"⟩
abbrev cX9_ask : ByteArray := prog_11_method_72_code
def yX9_ask : MethodName := ⟨RX9, "ask", "(II)J"⟩
abbrev cX9_trace : ByteArray := prog_11_method_73_code
def yX9_trace : MethodName := ⟨RX9, "trace", "(I)I"⟩
abbrev cX9_count : ByteArray := prog_11_method_74_code
def yX9_count : MethodName := ⟨RX9, "count", "(I)J"⟩
abbrev cX9_status : ByteArray := prog_11_method_75_code
def yX9_status : MethodName := ⟨RX9, "status", "()I"⟩
def RJ9 : String := "java/lang/Math"
def TJ9 : u_T := fun k => match k with
  | _ => ("", "", "", false)
def tyJ9 : Nat → FieldType := fun k => match k with
  | _ => .int
abbrev cJ9_max_7cf53 : ByteArray := prog_12_method_65_code
def yJ9_max_7cf53 : MethodName := ⟨RJ9, "max", "(II)I"⟩
abbrev cJ9_min_7cf53 : ByteArray := prog_12_method_69_code
def yJ9_min_7cf53 : MethodName := ⟨RJ9, "min", "(II)I"⟩
def RJ0 : String := "java/lang/String"
def TJ0 : u_T := fun k => match k with
  | _ => ("", "", "", false)
def tyJ0 : Nat → FieldType := fun k => match k with
  | _ => .int
abbrev cJ0_length_8abf5 : ByteArray := prog_13_method_54_code
def yJ0_length_8abf5 : MethodName := ⟨RJ0, "length", "()I"⟩
abbrev cJ0_charAt_5068e : ByteArray := prog_13_method_56_code
def yJ0_charAt_5068e : MethodName := ⟨RJ0, "charAt", "(I)C"⟩
abbrev cJ0_coder_7d493 : ByteArray := prog_13_method_152_code
def yJ0_coder_7d493 : MethodName := ⟨RJ0, "coder", "()B"⟩
abbrev cJ0_isLatin1_aae02 : ByteArray := prog_13_method_154_code
def yJ0_isLatin1_aae02 : MethodName := ⟨RJ0, "isLatin1", "()Z"⟩
abbrev cJ0_checkIndex_df160 : ByteArray := prog_13_method_155_code
def yJ0_checkIndex_df160 : MethodName := ⟨RJ0, "checkIndex", "(II)V"⟩
def RJ1 : String := "java/lang/StringLatin1"
def TJ1 : u_T := fun k => match k with
  | _ => ("", "", "", false)
def tyJ1 : Nat → FieldType := fun k => match k with
  | _ => .int
abbrev cJ1_charAt_3b067 : ByteArray := prog_14_method_2_code
def yJ1_charAt_3b067 : MethodName := ⟨RJ1, "charAt", "([BI)C"⟩
def RJ2 : String := "java/lang/StringUTF16"
def TJ2 : u_T := fun k => match k with
  | _ => ("", "", "", false)
def tyJ2 : Nat → FieldType := fun k => match k with
  | _ => .int
abbrev cJ2_getChar_3b067 : ByteArray := prog_15_method_5_code
def yJ2_getChar_3b067 : MethodName := ⟨RJ2, "getChar", "([BI)C"⟩
abbrev cJ2_length_9d52b : ByteArray := prog_15_method_6_code
def yJ2_length_9d52b : MethodName := ⟨RJ2, "length", "([B)I"⟩
abbrev cJ2_charAt_3b067 : ByteArray := prog_15_method_83_code
def yJ2_charAt_3b067 : MethodName := ⟨RJ2, "charAt", "([BI)C"⟩
abbrev cJ2_checkIndex_2214a : ByteArray := prog_15_method_91_code
def yJ2_checkIndex_2214a : MethodName := ⟨RJ2, "checkIndex", "(I[B)V"⟩
def RJ10 : String := "java/lang/System"
def TJ10 : u_T := fun k => match k with
  | _ => ("", "", "", false)
def tyJ10 : Nat → FieldType := fun k => match k with
  | _ => .int
def RJ7 : String := "java/util/Arrays"
def TJ7 : u_T := fun k => match k with
  | _ => ("", "", "", false)
def tyJ7 : Nat → FieldType := fun k => match k with
  | _ => .int
abbrev cJ7_fill_d0a16 : ByteArray := prog_17_method_101_code
def yJ7_fill_d0a16 : MethodName := ⟨RJ7, "fill", "([JJ)V"⟩
abbrev cJ7_fill_53178 : ByteArray := prog_17_method_103_code
def yJ7_fill_53178 : MethodName := ⟨RJ7, "fill", "([II)V"⟩
def RJ3 : String := "jdk/internal/util/Preconditions"
def TJ3 : u_T := fun k => match k with
  | _ => ("", "", "", false)
def tyJ3 : Nat → FieldType := fun k => match k with
  | _ => .int
abbrev cJ3_checkIndex_8e157 : ByteArray := prog_18_method_11_code
def yJ3_checkIndex_8e157 : MethodName := ⟨RJ3, "checkIndex", "(IILjava/util/function/BiFunction;)I"⟩
def RL : String := "HalfGamesLaw"
abbrev cL_law : ByteArray := code
def yL_law : MethodName := ⟨RL, "law", "([I)Z"⟩
end
section
/-! the abstract state: int rows, long rows, int fields, moving references, all by their static numbers -/
abbrev St : Type := (Nat → Nat → Int32) × (Nat → Nat → Int64) × (Nat → Int32) × (Nat → Nat)
def stA (σ : St) (k i : Nat) (x : Int32) : St := (fun a => if a = k then upd (σ.1 a) i x else σ.1 a, σ.2)
def stL (σ : St) (k i : Nat) (x : Int64) : St := (σ.1, fun a => if a = k then vp_updL (σ.2.1 a) i x else σ.2.1 a, σ.2.2)
def stF (σ : St) (n : Nat) (x : Int32) : St := (σ.1, σ.2.1, upd σ.2.2.1 n x, σ.2.2.2)
def stR (σ : St) (n a : Nat) : St := (σ.1, σ.2.1, σ.2.2.1, fun j => if j = n then a else σ.2.2.2 j)
def stC (σ : St) (k : Nat) (f : Nat → Int32) : St := (fun a => if a = k then f else σ.1 a, σ.2)
abbrev rI (σ : St) (k : Nat) (i : Int32) : Int32 := σ.1 k i.toNatClampNeg
abbrev rL (σ : St) (k : Nat) (i : Int32) : Int64 := σ.2.1 k i.toNatClampNeg
abbrev rF (σ : St) (n : Nat) : Int32 := σ.2.2.1 n
abbrev rR (σ : St) (n : Nat) : Nat := σ.2.2.2 n
def NC : Nat := 89
def kdL : List Nat := [0, 0, 0, 0, 0, 0, 0, 0, 0, 0, 0, 1, 1, 1, 1, 1, 1, 1, 1, 1, 1, 1, 4, 1, 1, 1, 1, 3, 0, 1, 1, 1, 1, 1, 1, 1, 1, 1, 1, 1, 4, 1, 1, 1, 1, 3, 4, 1, 1, 1, 2, 1, 1, 4, 1, 1, 4, 1, 1, 4, 4, 4, 1, 1, 1, 1, 1, 1, 1, 1, 1, 1, 1, 1, 1, 1, 1, 1, 1, 1, 1, 1, 1, 1, 4, 4, 1, 4, 1]
def lnL : List Nat := [0, 0, 0, 0, 0, 0, 0, 0, 0, 0, 0, 60, 60, 60, 60, 60, 60, 60, 60, 240, 60, 120, 120, 10, 10, 10, 10, 2, 0, 60, 60, 60, 60, 60, 60, 60, 60, 240, 60, 120, 120, 10, 10, 10, 10, 2, 60, 8, 8, 320, 600, 30, 30, 60, 60, 60, 180, 60, 600, 60, 60, 60, 16, 8, 8, 320, 600, 120, 120, 120, 120, 120, 120, 120, 120, 480, 20, 20, 30, 600, 16, 9, 9, 9, 60, 60, 60, 60, 60]
def ocL : List Nat := [8, 5, 7, 4, 3, 3, 6, 2, 0, 9, 1, 0, 0, 0, 0, 0, 0, 0, 0, 0, 0, 0, 0, 0, 0, 0, 0, 0, 1, 0, 0, 0, 0, 0, 0, 0, 0, 0, 0, 0, 0, 0, 0, 0, 0, 0, 0, 0, 0, 0, 0, 0, 0, 0, 0, 0, 0, 0, 0, 0, 0, 0, 0, 0, 0, 0, 0, 0, 0, 0, 0, 0, 0, 0, 0, 0, 0, 0, 0, 0, 0, 0, 0, 0, 0, 0, 0, 0, 0]
def obL : List (List (Nat × Nat)) := [[(0, 1), (0, 2), (0, 3), (0, 4), (0, 6), (0, 7), (0, 8), (0, 46), (2, 0), (2, 1), (1, 0), (1, 1)], [(0, 47), (0, 48), (0, 49)], [(0, 50), (1, 2), (1, 3), (1, 4), (1, 5), (1, 6)], [(1, 7), (1, 8)], [(0, 51)], [(0, 52)], [(0, 53), (0, 54), (0, 55), (0, 56), (0, 57), (1, 9), (1, 10)], [(1, 11), (0, 58), (0, 59), (0, 60), (0, 5), (0, 61)], [(0, 62), (1, 12)], [(0, 63), (0, 64), (0, 65), (1, 40), (0, 66), (1, 41), (1, 42), (0, 67), (0, 68), (0, 69), (0, 70), (0, 71), (0, 72), (0, 73), (0, 74), (0, 75), (1, 43), (0, 76), (0, 77), (0, 78), (0, 79), (1, 44), (0, 80), (1, 45), (1, 46), (1, 47), (1, 48), (1, 49), (0, 81), (0, 82), (0, 83), (1, 50), (1, 51), (0, 84), (0, 85), (0, 86), (0, 87), (0, 88), (1, 52), (1, 53)], [(1, 20), (0, 11), (0, 12), (0, 13), (0, 14), (0, 15), (0, 16), (0, 17), (0, 18), (0, 19), (0, 20), (0, 21), (0, 22), (0, 23), (0, 24), (0, 25), (0, 26), (0, 27)], [], [], [], [], [], [], [], [], [], [], [], [], [], [], [], [], [], [(1, 38), (0, 29), (0, 30), (0, 31), (0, 32), (0, 33), (0, 34), (0, 35), (0, 36), (0, 37), (0, 38), (0, 39), (0, 40), (0, 41), (0, 42), (0, 43), (0, 44), (0, 45)], [], [], [], [], [], [], [], [], [], [], [], [], [], [], [], [], [], [], [], [], [], [], [], [], [], [], [], [], [], [], [], [], [], [], [], [], [], [], [], [], [], [], [], [], [], [], [], [], [], [], [], [], [], [], [], [], [], [], [], []]
def gcl : List vw_C := [(RX0, TX0, 2), (RX1, TX1, 18), (RX2, TX2, 6), (RX3, TX3, 1), (RX4, TX4, 2), (RX5, TX5, 3), (RX6, TX6, 7), (RX7, TX7, 6), (RX8, TX8, 12), (RX9, TX9, 40)]
def kd (k : Nat) : Nat := kdL.getD k 9
def ln (k : Nat) : Nat := lnL.getD k 0
def oc (k : Nat) : Nat := ocL.getD k 0
def obS (k : Nat) : List (Nat × Nat) := obL.getD k []
/-- addresses; classes and slots; classes of arrays by kind; the String constants' cells and their bytes' -/
abbrev wT : Type := (Nat → Nat) × va_G × (Nat → ClassId) × (Nat → Nat) × (Nat → Nat)
def fv (w : wT) (q : (Nat → Int32) × (Nat → Nat)) (z : Nat × Nat) : Value := match z.1 with
  | 0 => .ref (w.1 z.2)
  | 1 => .int (q.1 z.2)
  | _ => .ref (w.1 (q.2 z.2))
def cellOf (w : wT) (σ : St) (k : Nat) : va_E := match kd k with
  | 0 => .inr (oc k, (obS k).map (fv w σ.2.2))
  | 1 => .inl (w.2.2.1 1, ln k, .inl (σ.1 k))
  | 2 => .inl (w.2.2.1 2, ln k, .inl (σ.1 k))
  | 3 => .inl (w.2.2.1 3, ln k, .inl (σ.1 k))
  | _ => .inl (w.2.2.1 4, ln k, .inr (.inl (σ.2.1 k)))
def cw (w : wT) (σ : St) : va_W := (List.range NC).map fun k => (w.1 k, cellOf w σ k)
def gtys (w : wT) : List (ClassId × FieldType) := [(w.2.2.1 1, .int), (w.2.2.1 2, .byte), (w.2.2.1 3, .boolean), (w.2.2.1 4, .long)]
def inA (w : wT) : Nat → Prop := fun q => ∃ k, k < NC ∧ q = w.1 k
def wInj (w : wT) : Prop := ∀ i j : Nat, i < NC → j < NC → w.1 i = w.1 j → i = j
theorem cw_at {w : wT} {σ : St} {k : Nat} (h : k < NC) : (cw w σ)[k]? = some (w.1 k, cellOf w σ k) := by simp [cw, h]
theorem cw_len {w : wT} {σ : St} : (cw w σ).length = NC := by simp [cw]
theorem cw_set {w : wT} {σ σ' : St} {k : Nat} {e : va_E} (hk : k < NC) (h1 : cellOf w σ' k = e) (h2 : ∀ j, j < NC → j ≠ k → cellOf w σ' j = cellOf w σ j) : (cw w σ).set k (w.1 k, e) = cw w σ' := by
  apply List.ext_getElem?
  intro j
  by_cases hj : j < NC
  · rw [cw_at hj]
    by_cases hjk : j = k
    · subst hjk
      rw [List.getElem?_set_self (by rw [cw_len]; exact hj), h1]
    · rw [List.getElem?_set_ne (Ne.symm hjk), cw_at hj, h2 j hj hjk]
  · rw [List.getElem?_eq_none (by rw [List.length_set, cw_len]; omega), List.getElem?_eq_none (by rw [cw_len]; omega)]
theorem cw_D {w : wT} {σ : St} (h : wInj w) : va_D (inA w) (cw w σ) := by
  have key : ∀ (k : Nat) (q : Nat × va_E), (cw w σ)[k]? = some q → k < NC ∧ q.1 = w.1 k := by
    intro k q hq
    by_cases hk : k < NC
    · rw [cw_at hk] at hq
      cases hq
      exact ⟨hk, rfl⟩
    · rw [List.getElem?_eq_none (by rw [cw_len]; omega)] at hq
      cases hq
  refine ⟨fun i j p q hi hj e => ?_, fun k q hk => ?_⟩
  · obtain ⟨a1, a2⟩ := key i p hi
    obtain ⟨b1, b2⟩ := key j q hj
    exact h i j a1 b1 (by rw [← a2, ← b2, e])
  · obtain ⟨a1, a2⟩ := key k q hk
    exact ⟨k, a1, a2⟩
theorem ce_A {w : wT} {σ : St} {k i j : Nat} {x : Int32} (h : j ≠ k) : cellOf w (stA σ k i x) j = cellOf w σ j := by
  unfold cellOf
  simp [stA, h]
theorem ce_C {w : wT} {σ : St} {k j : Nat} {f : Nat → Int32} (h : j ≠ k) : cellOf w (stC σ k f) j = cellOf w σ j := by
  unfold cellOf
  simp [stC, h]
theorem ce_L {w : wT} {σ : St} {k i j : Nat} {x : Int64} (h : j ≠ k) : cellOf w (stL σ k i x) j = cellOf w σ j := by
  unfold cellOf
  simp [stL, h]
theorem ce_1 {w : wT} {σ : St} {k : Nat} (h : kd k = 1) : cellOf w σ k = .inl (w.2.2.1 1, ln k, .inl (σ.1 k)) := by simp only [cellOf, h]
theorem ce_2 {w : wT} {σ : St} {k : Nat} (h : kd k = 2) : cellOf w σ k = .inl (w.2.2.1 2, ln k, .inl (σ.1 k)) := by simp only [cellOf, h]
theorem ce_3 {w : wT} {σ : St} {k : Nat} (h : kd k = 3) : cellOf w σ k = .inl (w.2.2.1 3, ln k, .inl (σ.1 k)) := by simp only [cellOf, h]
theorem ce_4 {w : wT} {σ : St} {k : Nat} (h : kd k = 4) : cellOf w σ k = .inl (w.2.2.1 4, ln k, .inr (.inl (σ.2.1 k))) := by simp only [cellOf, h]
theorem ce_0 {w : wT} {σ : St} {k : Nat} (h : kd k = 0) : cellOf w σ k = .inr (oc k, (obS k).map (fv w σ.2.2)) := by simp only [cellOf, h]
/-- field z stands once, in object k at place j -/
def once (z : Nat × Nat) (k j : Nat) : Bool := (List.range NC).all fun a => (List.range (obS a).length).all fun b => !((obS a)[b]? == some z) || (a == k && b == j)
theorem once_spec {z : Nat × Nat} {k j : Nat} (h : once z k j = true) {a b : Nat} (ha : a < NC) (hb : (obS a)[b]? = some z) : a = k ∧ b = j := by
  unfold once at h
  rw [List.all_eq_true] at h
  have h1 := h a (List.mem_range.mpr ha)
  rw [List.all_eq_true] at h1
  have hl := (List.getElem?_eq_some_iff.mp hb).1
  have h2 := h1 b (List.mem_range.mpr hl)
  rw [hb] at h2
  simpa using h2
theorem map_eq_of {q q' : (Nat → Int32) × (Nat → Nat)} {w : wT} {l : List (Nat × Nat)} (h : ∀ (b : Nat) (z : Nat × Nat), l[b]? = some z → fv w q' z = fv w q z) : l.map (fv w q') = l.map (fv w q) := by
  apply List.ext_getElem?
  intro b
  rw [List.getElem?_map, List.getElem?_map]
  cases hb : l[b]? with
  | none => rfl
  | some z => simp [h b z hb]
theorem set_map_eq {q q' : (Nat → Int32) × (Nat → Nat)} {w : wT} {l : List (Nat × Nat)} {j : Nat} {z : Nat × Nat} {v : Value} (hj : l[j]? = some z) (hv : fv w q' z = v) (h : ∀ (b : Nat) (y : Nat × Nat), b ≠ j → l[b]? = some y → fv w q' y = fv w q y) : (l.map (fv w q)).set j v = l.map (fv w q') := by
  have hl := (List.getElem?_eq_some_iff.mp hj).1
  apply List.ext_getElem?
  intro b
  by_cases hb : b = j
  · subst hb
    rw [List.getElem?_set_self (by simpa using hl), List.getElem?_map, hj, ← hv]
    rfl
  · rw [List.getElem?_set_ne (Ne.symm hb), List.getElem?_map, List.getElem?_map]
    cases hz : l[b]? with
    | none => rfl
    | some y => simp [h b y hb hz]
theorem fv_F {w : wT} {σ : St} {n : Nat} {x : Int32} {z : Nat × Nat} (h : z ≠ (1, n)) : fv w (stF σ n x).2.2 z = fv w σ.2.2 z := by
  obtain ⟨a, b⟩ := z
  match a with
  | 0 => rfl
  | 1 =>
    have hb : b ≠ n := fun e => h (by rw [e])
    simp [fv, stF, upd, hb]
  | a + 2 => rfl
theorem fv_R {w : wT} {σ : St} {n a : Nat} {z : Nat × Nat} (h : ¬ (2 ≤ z.1 ∧ z.2 = n)) : fv w (stR σ n a).2.2 z = fv w σ.2.2 z := by
  obtain ⟨c, b⟩ := z
  match c with
  | 0 => rfl
  | 1 => rfl
  | c + 2 =>
    have hb : b ≠ n := fun e => h ⟨by simp, e⟩
    simp [fv, stR, hb]
theorem cw_F {w : wT} {σ : St} {k j n : Nat} {x : Int32} (hk : k < NC) (h0 : kd k = 0) (hj : (obS k)[j]? = some (1, n)) (ho : once (1, n) k j = true) : (cw w σ).set k (w.1 k, .inr (oc k, ((obS k).map (fv w σ.2.2)).set j (.int x))) = cw w (stF σ n x) := by
  refine cw_set hk ?_ ?_
  · rw [ce_0 h0, ← set_map_eq (q := σ.2.2) (q' := (stF σ n x).2.2) hj (v := .int x) (by simp [fv, stF, upd]) (fun b y hb hy => fv_F (fun e => hb (once_spec ho hk (e ▸ hy)).2))]
  · intro a ha hak
    unfold cellOf
    have : (obS a).map (fv w (stF σ n x).2.2) = (obS a).map (fv w σ.2.2) := map_eq_of fun b z hb => fv_F (fun e => hak (once_spec ho ha (e ▸ hb)).1)
    rw [this]
    rfl
def onceR (n k j : Nat) : Bool := (List.range NC).all fun a => (List.range (obS a).length).all fun b => !(((obS a).getD b (0, 0)).1 ≥ 2 && ((obS a).getD b (0, 0)).2 == n) || (a == k && b == j)
theorem onceR_spec {n k j : Nat} (h : onceR n k j = true) {a b : Nat} {z : Nat × Nat} (ha : a < NC) (hb : (obS a)[b]? = some z) (hz : 2 ≤ z.1 ∧ z.2 = n) : a = k ∧ b = j := by
  unfold onceR at h
  rw [List.all_eq_true] at h
  have h1 := h a (List.mem_range.mpr ha)
  rw [List.all_eq_true] at h1
  have hl := (List.getElem?_eq_some_iff.mp hb).1
  have h2 := h1 b (List.mem_range.mpr hl)
  have hg : (obS a).getD b (0, 0) = z := by simp [List.getD, hb]
  rw [hg] at h2
  simp [hz.1, hz.2] at h2
  exact h2
theorem cw_R {w : wT} {σ : St} {k j n a : Nat} (hk : k < NC) (h0 : kd k = 0) (hj : (obS k)[j]? = some (2, n)) (ho : onceR n k j = true) : (cw w σ).set k (w.1 k, .inr (oc k, ((obS k).map (fv w σ.2.2)).set j (.ref (w.1 a)))) = cw w (stR σ n a) := by
  refine cw_set hk ?_ ?_
  · rw [ce_0 h0, ← set_map_eq (q := σ.2.2) (q' := (stR σ n a).2.2) hj (v := .ref (w.1 a)) (by simp [fv, stR]) (fun b y hb hy => fv_R (fun e => hb (onceR_spec ho hk hy e).2))]
  · intro c hc hck
    unfold cellOf
    have : (obS c).map (fv w (stR σ n a).2.2) = (obS c).map (fv w σ.2.2) := map_eq_of fun b z hb => fv_R (fun e => hck (onceR_spec ho hc hb e).1)
    rw [this]
    rfl
end
section
/-! the locals by their places -/
def la : List (Option Value) → Nat → Option Value
  | [], _ => none
  | x :: _, 0 => x
  | _ :: t, n + 1 => la t n
def lset : List (Option Value) → Nat → Option Value → List (Option Value)
  | [], 0, v => [v]
  | [], n + 1, v => none :: lset [] n v
  | _ :: t, 0, v => v :: t
  | x :: t, n + 1, v => x :: lset t n v
def lzi : Nat → List (Option Value) → List (Nat × Value)
  | _, [] => []
  | i, none :: t => lzi (i + 1) t
  | i, some v :: t => (i, v) :: lzi (i + 1) t
theorem lzi_mem {q : Nat × Value} : ∀ {L : List (Option Value)} {i : Nat}, q ∈ lzi i L ↔ ∃ j, q.1 = i + j ∧ la L j = some q.2
  | [], i => by simp [lzi, la]
  | none :: t, i => by
    rw [lzi, lzi_mem (L := t)]
    constructor
    · rintro ⟨j, h1, h2⟩
      exact ⟨j + 1, by omega, h2⟩
    · rintro ⟨j, h1, h2⟩
      cases j with
      | zero => simp [la] at h2
      | succ j => exact ⟨j, by omega, h2⟩
  | some v :: t, i => by
    rw [lzi, List.mem_cons, lzi_mem (L := t)]
    constructor
    · rintro (h | ⟨j, h1, h2⟩)
      · exact ⟨0, by rw [h]; rfl, by rw [h]; rfl⟩
      · exact ⟨j + 1, by omega, h2⟩
    · rintro ⟨j, h1, h2⟩
      cases j with
      | zero =>
        left
        have h3 : v = q.2 := by simpa [la] using h2
        exact Prod.ext (by simpa using h1) h3.symm
      | succ j => exact Or.inr ⟨j, by omega, h2⟩
theorem lz_mem {q : Nat × Value} {L : List (Option Value)} : q ∈ lzi 0 L ↔ la L q.1 = some q.2 := by
  rw [lzi_mem]
  constructor
  · rintro ⟨j, h1, h2⟩
    have : q.1 = j := by omega
    rw [this]; exact h2
  · intro h
    exact ⟨q.1, by omega, h⟩
theorem la_lset_self : ∀ {L : List (Option Value)} {i : Nat} {v : Option Value}, la (lset L i v) i = v
  | [], 0, v => rfl
  | [], n + 1, v => la_lset_self (L := []) (i := n)
  | _ :: t, 0, v => rfl
  | x :: t, n + 1, v => la_lset_self (L := t) (i := n)
theorem la_nil (i : Nat) : la [] i = none := by cases i <;> rfl
theorem la_lset_ne : ∀ {L : List (Option Value)} {i j : Nat} {v : Option Value}, j ≠ i → la (lset L i v) j = la L j
  | [], 0, 0, v, h => absurd rfl h
  | [], 0, j + 1, v, h => by simp [lset, la, la_nil]
  | [], n + 1, 0, v, h => rfl
  | [], n + 1, j + 1, v, h => by
    show la (lset [] n v) j = _
    rw [la_lset_ne (by omega)]
    simp [la, la_nil]
  | _ :: t, 0, 0, v, h => absurd rfl h
  | _ :: t, 0, j + 1, v, h => rfl
  | x :: t, n + 1, 0, v, h => rfl
  | x :: t, n + 1, j + 1, v, h => by
    show la (lset t n v) j = la t j
    exact la_lset_ne (by omega)
def lvh (ls : Array Slot) (nL : Nat) (L : List (Option Value)) : Prop := lv_has ls nL (lzi 0 L)
theorem lvh_at {ls : Array Slot} {nL : Nat} {L : List (Option Value)} (h : lvh ls nL L) {i : Nat} {v : Value} (hi : la L i = some v) : ls[i]? = some (.val v) := h.2.2 (i, v) (lz_mem.mpr hi)
/-- the cell before i isn't a long's -/
def lo (L : List (Option Value)) : Nat → Bool
  | 0 => true
  | i + 1 => match la L i with
    | some v => v.category == 1
    | none => true
theorem lo_spec {L : List (Option Value)} {i j : Nat} {v : Value} (h : lo L i = true) (hj : la L j = some v) (e : j + 1 = i) : v.category = 1 := by
  subst e
  simp only [lo, hj] at h
  simpa using h
theorem lvh_set1 {ls : Array Slot} {nL i : Nat} {L : List (Option Value)} {v : Value} (ho : lo L i = true) (h : lv_has ls nL ((i, v) :: (lzi 0 L).filter (fun q => !(q.1 == i) && !(q.1 + 1 == i && q.2.category == 2)))) : lvh ls nL (lset L i (some v)) := by
  refine ⟨h.1, h.2.1, fun q hq => ?_⟩
  have hq := lz_mem.mp hq
  by_cases hi : q.1 = i
  · rw [hi, la_lset_self] at hq
    refine h.2.2 q ?_
    have : q = (i, v) := Prod.ext hi (Option.some.inj hq).symm
    rw [this]
    exact List.mem_cons_self
  · rw [la_lset_ne hi] at hq
    refine h.2.2 q (List.mem_cons_of_mem _ (List.mem_filter.mpr ⟨lz_mem.mpr hq, ?_⟩))
    by_cases h2 : q.1 + 1 = i
    · simp [hi, lo_spec ho hq h2]
    · simp [hi, h2]
theorem lvh_set2 {ls : Array Slot} {nL i : Nat} {L : List (Option Value)} {v : Value} (ho : lo L i = true) (h : lv_has ls nL ((i, v) :: (lzi 0 L).filter (fun q => !(q.1 == i) && (!(q.1 == i + 1) && !(q.1 + 1 == i && q.2.category == 2))))) : lvh ls nL (lset (lset L i (some v)) (i + 1) none) := by
  refine ⟨h.1, h.2.1, fun q hq => ?_⟩
  have hq := lz_mem.mp hq
  by_cases h1 : q.1 = i + 1
  · rw [h1, la_lset_self] at hq
    cases hq
  · rw [la_lset_ne h1] at hq
    by_cases hi : q.1 = i
    · rw [hi, la_lset_self] at hq
      refine h.2.2 q ?_
      have : q = (i, v) := Prod.ext hi (Option.some.inj hq).symm
      rw [this]
      exact List.mem_cons_self
    · rw [la_lset_ne hi] at hq
      refine h.2.2 q (List.mem_cons_of_mem _ (List.mem_filter.mpr ⟨lz_mem.mpr hq, ?_⟩))
      by_cases h2 : q.1 + 1 = i
      · simp [hi, h1, lo_spec ho hq h2]
      · simp [hi, h1, h2]
/-- fewer locals -/
def lle : List (Option Value) → List (Option Value) → Prop
  | [], _ => True
  | none :: t, L => lle t L.tail
  | some v :: t, L => L.head? = some (some v) ∧ lle t L.tail
theorem lle_spec : ∀ {L' L : List (Option Value)}, lle L' L → ∀ {i : Nat} {v : Value}, la L' i = some v → la L i = some v
  | [], L, _, i, v, h => by simp [la_nil] at h
  | none :: t, L, hl, 0, v, h => by cases h
  | none :: t, L, hl, i + 1, v, h => by
    have := lle_spec (L' := t) (L := L.tail) hl (i := i) h
    cases L with
    | nil => simp [la_nil] at this
    | cons x t' => exact this
  | some z :: t, L, hl, 0, v, h => by
    cases L with
    | nil => cases hl.1
    | cons x t' =>
      have h1 : x = some z := by simpa using hl.1
      rw [h1]; exact h
  | some z :: t, L, hl, i + 1, v, h => by
    have := lle_spec (L' := t) (L := L.tail) hl.2 (i := i) h
    cases L with
    | nil => simp [la_nil] at this
    | cons x t' => exact this
theorem lvh_le {ls : Array Slot} {nL : Nat} {L L' : List (Option Value)} (hl : lle L' L) (h : lvh ls nL L) : lvh ls nL L' :=
  ⟨h.1, h.2.1, fun _ hq => h.2.2 _ (lz_mem.mpr (lle_spec hl (lz_mem.mp hq)))⟩
/-! the machine around a method's walk, in one -/
abbrev gE : Type := Program × Launch × Env × Room × State × MethodId × Array Value × List Frame × Method × Code × Nat × Nat × (State → Prop)
abbrev eP (E : gE) : Program := E.1
abbrev eL (E : gE) : Launch := E.2.1
abbrev eE (E : gE) : Env := E.2.2.1
abbrev eR (E : gE) : Room := E.2.2.2.1
abbrev eS (E : gE) : State := E.2.2.2.2.1
abbrev eM (E : gE) : MethodId := E.2.2.2.2.2.1
abbrev eA (E : gE) : Array Value := E.2.2.2.2.2.2.1
abbrev eB (E : gE) : List Frame := E.2.2.2.2.2.2.2.1
abbrev eMe (E : gE) : Method := E.2.2.2.2.2.2.2.2.1
abbrev eC (E : gE) : Code := E.2.2.2.2.2.2.2.2.2.1
abbrev eCe (E : gE) : Nat := E.2.2.2.2.2.2.2.2.2.2.1
abbrev eSl (E : gE) : Nat := E.2.2.2.2.2.2.2.2.2.2.2.1
abbrev eQ (E : gE) : State → Prop := E.2.2.2.2.2.2.2.2.2.2.2.2
abbrev lenS : List Nat := [3, 4, 3, 3]
abbrev bytS : List (List Int32) := [[101, 110, 100], [100, 101, 97, 108], [111, 110, 101], [116, 119, 111]]
/-- what the world holds beside its cells: a private static of the nest, the String constants, how Strings are kept -/
def gX (w : wT) (U : State) (H : Heap) : Prop := va_Nw (.methodLinkNest RX6 100 yX8_gainOf RX8) U ∧ vk_S 4 lenS bytS w.2.2.2.1 w.2.2.2.2 (inA w) U H ∧ (vk_R RX7 47 "end" (w.2.2.2.1 0) U ∧ vk_R RX7 53 "deal" (w.2.2.2.1 1) U ∧ vk_R RX7 55 "one" (w.2.2.2.1 2) U ∧ vk_R RX7 57 "two" (w.2.2.2.1 3) U) ∧ va_Z "java/lang/String" "COMPACT_STRINGS" "Z" (.int 1) (inA w) U H
theorem gX.same {w : wT} {u U : State} {H : Heap} (hv : U.vm = u.vm) (h : gX w u H) : gX w U H := by
  have ha : u.vm.Alike U.vm := by rw [hv]; exact Vm.Alike.refl u.vm
  exact ⟨h.1.same rfl hv.symm, h.2.1.moved ha, ⟨h.2.2.1.1.same hv, h.2.2.1.2.1.same hv, h.2.2.1.2.2.1.same hv, h.2.2.1.2.2.2.same hv⟩, h.2.2.2.moved ha⟩
theorem gX.warm {w : wT} {s U : State} {H : Heap} (hW : s.WarmedH U.vm) (h : gX w s H) : gX w U H :=
  ⟨h.1.warmM hW, h.2.1.moved hW.alike, ⟨h.2.2.1.1.warm hW, h.2.2.1.2.1.warm hW, h.2.2.1.2.2.1.warm hW, h.2.2.1.2.2.2.warm hW⟩, h.2.2.2.moved hW.alike⟩
theorem gX.kept {w : wT} {U : State} {H H1 : Heap} (h : gX w U H) (hq : ∀ a : Nat, a < H.size → ¬ inA w a → H1[a]? = H[a]?) : gX w U H1 := ⟨h.1, h.2.1.kept hq, h.2.2.1, h.2.2.2.kept hq⟩
/-- from every machine state that pictures (σ, pc, locals, stack) the walk comes to its end -/
def gW (E : gE) (w : wT) (nL : Nat) (σ : St) (pc : Nat) (L : List (Option Value)) (st : List Value) : Prop :=
  ∀ (H : Heap) (locs : List Loc) (ls : Array Slot), lvh ls nL L → va_P w.2.1 gcl (cw w σ) H → va_S (inA w) (eS E).heap H locs → W (eP E) (eL E) (eE E) (eR E) (eS E) (eM E) (eA E) (eB E) (eMe E) (eC E) H locs (eCe E) (eSl E) (eQ E) (F0 (eM E) pc ls st)
def gC (E : gE) (w : wT) (cc : ByteArray) (nL : Nat) (own : String) (h : Nat) : Prop :=
  (eP E).tables.exec = Jvm.exec ∧ (eC E).code = cc ∧ (eC E).maxLocals = nL ∧ (eS E).vm.findClass own = some (eM E).cls ∧ (∀ t ∈ gT, t.before (eA E) (eS E) = true) ∧ va_K w.2.1 gcl (gtys w) (eS E) ∧ wInj w ∧ gX w (eS E) (eS E).heap ∧ (h ≤ (eR E).frames ∧ 64 * h ≤ (eR E).locals) ∧ eCe E ≤ (eR E).cells ∧ eSl E ≤ (eR E).slots
def Wd (w : wT) (σ : St) (U : State) : Prop := va_P w.2.1 gcl (cw w σ) U.heap ∧ va_K w.2.1 gcl (gtys w) U ∧ gX w U U.heap
def Qw (w : wT) (r : Option Value) (σ' : St) : Array Value → State → Outcome → State → Prop := fun _ st o t => o = .returned r ∧ va_P w.2.1 gcl (cw w σ') t.heap ∧ va_F (inA w) st t
def gWs (y : MethodName) (bytes : ByteArray) (maxL : Nat) (ret : Option FieldType) : List Cond := Cond.code y bytes maxL ret :: gT
def rmh (h : Nat) : Room := { frames := h, cells := 0, slots := 0, locals := 64 * h }
def gM (w : wT) (l : Launch) (y : MethodName) (bytes : ByteArray) (maxL : Nat) (ret : Option FieldType) (h : Nat) (as : List Value) (σ : St) (r : Option Value) (σ' : St) : Prop :=
  Met l y (gWs y bytes maxL ret) (rmh h) (va_Pc as (Wd w σ)) (Qw w r σ') 0 0 (inA w)
def gQ (E : gE) (w : wT) (ret : Option FieldType) (r : Option Value) (σ' : St) : Prop := eQ E = MQ (eB E) (Qw w r σ') (eA E) (eS E) (eCe E) (eSl E) (inA w) ∧ (eMe E).sig.returnType = ret ∧ (eMe E).locks = false
theorem gM_of {w : wT} {l : Launch} {y : MethodName} {bytes : ByteArray} {maxL : Nat} {ret : Option FieldType} {h : Nat} {as : List Value} {σ σ' : St} {r : Option Value} (hi : wInj w) (hy : plainName y.cls = true) (L : List (Option Value)) (hL : lzi 0 L = lv_args 0 as) (hn : (lg_sl as).length ≤ maxL)
    (body : ∀ E : gE, eL E = l → gC E w bytes maxL y.cls h → gQ E w ret r σ' → gW E w maxL σ 0 L []) : gM w l y bytes maxL ret h as σ r σ' := by
  refine Met.ofW (cc := bytes) (maxL := maxL) (ret := ret) hy rfl ?_
  intro p e s m args below meth c s₁ B hml hv
  obtain ⟨rfl, hP, hK, hX⟩ := hv
  have hts := atoms_spec (ws := gWs y bytes maxL ret) B.pre
  have hl := lv_entry as (n := maxL) hn
  rw [lg_entry_eq]
  refine body (p, l, e, rmh h, s, m, as.toArray, below, meth, c, 0, 0, MQ below (Qw w r σ') as.toArray s 0 0 (inA w)) rfl ⟨B.exec, B.bytes, hml, findClass_of_methodNamed B.named, fun t ht => hts t (List.mem_cons_of_mem _ ht), hK, hi, hX, ⟨Nat.le_refl _, Nat.le_refl _⟩, Nat.zero_le _, Nat.zero_le _⟩ ⟨rfl, B.returns, B.notSynchronized⟩ s.heap [] _ ?_ hP va_S.rf
  unfold lvh
  rw [hL]
  exact hl
theorem gM_blind {w : wT} {σ : St} {as : List Value} : FrameBlind (va_Pc as (Wd w σ)) := by
  intro a U g mk hq
  obtain ⟨q0, qP, qK, qX⟩ := hq
  exact ⟨q0, qP, va_K.moved (u := U) (U := U.calling g mk a) (Vm.Alike.refl U.vm) qK, gX.same (u := U) (U := U.calling g mk a) rfl qX⟩
/-- what the tables say of a method -/
def gY (y : MethodName) (bytes : ByteArray) (maxL : Nat) (ret : Option FieldType) (n : Nat) : Prop :=
  Cond.code y bytes maxL ret ∈ lw_tbl ∧ Cond.initialized y.cls ∈ lw_tbl ∧ (y.cls ≠ "java/lang/invoke/MethodHandle" ∧ y.cls ≠ "java/lang/invoke/VarHandle" ∧ (parseMethodDescriptor y.desc).map (fun d => d.parameters.length) = some n) ∧ maxL ≤ 45
theorem gGood (y : MethodName) (bytes : ByteArray) (maxL : Nat) (ret : Option FieldType) (h : Cond.code y bytes maxL ret ∈ lw_tbl) : GoodIn gT (gWs y bytes maxL ret) := by
  intro t ht
  rcases List.mem_cons.mp ht with rfl | ht
  · exact ⟨gT_mem h rfl, Or.inl rfl⟩
  · exact ⟨ht, good_of_word (gT_good t ht)⟩
section G
variable {E : gE} {w : wT} {cc : ByteArray} {nL : Nat} {own : String} {h : Nat} {σ : St} {pc n : Nat} {L L' : List (Option Value)} {st : List Value}
theorem gC.word (X : gC E w cc nL own h) {t : Cond} (ht : t ∈ lw_tbl) (hg : goodWord t = true) : t.before (eA E) (eS E) = true := X.2.2.2.2.1 t (gT_mem ht hg)
theorem g_le (hl : lle L' L) (k : gW E w nL σ pc L' st) : gW E w nL σ pc L st := fun H locs ls a b c => k H locs ls (lvh_le hl a) b c
theorem g_iadd (X : gC E w cc nL own h) {x y : Int32} (hd : decode cc pc = .ok (.iadd, 1)) (hp : pc + 1 = n) (k : gW E w nL σ n L (.int (x + y) :: st)) : gW E w nL σ pc L (.int y :: .int x :: st) := fun H locs ls a b c => lv_iadd X.1 X.2.1 hd  (by rw [hp]; exact k H locs ls a b c)
theorem g_isub (X : gC E w cc nL own h) {x y : Int32} (hd : decode cc pc = .ok (.isub, 1)) (hp : pc + 1 = n) (k : gW E w nL σ n L (.int (x - y) :: st)) : gW E w nL σ pc L (.int y :: .int x :: st) := fun H locs ls a b c => lv_isub X.1 X.2.1 hd  (by rw [hp]; exact k H locs ls a b c)
theorem g_imul (X : gC E w cc nL own h) {x y : Int32} (hd : decode cc pc = .ok (.imul, 1)) (hp : pc + 1 = n) (k : gW E w nL σ n L (.int (x * y) :: st)) : gW E w nL σ pc L (.int y :: .int x :: st) := fun H locs ls a b c => lv_imul X.1 X.2.1 hd  (by rw [hp]; exact k H locs ls a b c)
theorem g_iand (X : gC E w cc nL own h) {x y : Int32} (hd : decode cc pc = .ok (.iand, 1)) (hp : pc + 1 = n) (k : gW E w nL σ n L (.int (x &&& y) :: st)) : gW E w nL σ pc L (.int y :: .int x :: st) := fun H locs ls a b c => lv_iand X.1 X.2.1 hd  (by rw [hp]; exact k H locs ls a b c)
theorem g_ladd (X : gC E w cc nL own h) {x y : Int64} (hd : decode cc pc = .ok (.ladd, 1)) (hp : pc + 1 = n) (k : gW E w nL σ n L (.long (x + y) :: st)) : gW E w nL σ pc L (.long y :: .long x :: st) := fun H locs ls a b c => lv_ladd X.1 X.2.1 hd  (by rw [hp]; exact k H locs ls a b c)
theorem g_lsub (X : gC E w cc nL own h) {x y : Int64} (hd : decode cc pc = .ok (.lsub, 1)) (hp : pc + 1 = n) (k : gW E w nL σ n L (.long (x - y) :: st)) : gW E w nL σ pc L (.long y :: .long x :: st) := fun H locs ls a b c => lv_lsub X.1 X.2.1 hd  (by rw [hp]; exact k H locs ls a b c)
theorem g_lmul (X : gC E w cc nL own h) {x y : Int64} (hd : decode cc pc = .ok (.lmul, 1)) (hp : pc + 1 = n) (k : gW E w nL σ n L (.long (x * y) :: st)) : gW E w nL σ pc L (.long y :: .long x :: st) := fun H locs ls a b c => lv_lmul X.1 X.2.1 hd  (by rw [hp]; exact k H locs ls a b c)
theorem g_land (X : gC E w cc nL own h) {x y : Int64} (hd : decode cc pc = .ok (.land, 1)) (hp : pc + 1 = n) (k : gW E w nL σ n L (.long (x &&& y) :: st)) : gW E w nL σ pc L (.long y :: .long x :: st) := fun H locs ls a b c => lv_land X.1 X.2.1 hd  (by rw [hp]; exact k H locs ls a b c)
theorem g_lor (X : gC E w cc nL own h) {x y : Int64} (hd : decode cc pc = .ok (.lor, 1)) (hp : pc + 1 = n) (k : gW E w nL σ n L (.long (x ||| y) :: st)) : gW E w nL σ pc L (.long y :: .long x :: st) := fun H locs ls a b c => lv_lor X.1 X.2.1 hd  (by rw [hp]; exact k H locs ls a b c)
theorem g_ldiv (X : gC E w cc nL own h) {x y : Int64} (hd : decode cc pc = .ok (.ldiv, 1)) (hne : ¬ y = 0) (hp : pc + 1 = n) (k : gW E w nL σ n L (.long (x / y) :: st)) : gW E w nL σ pc L (.long y :: .long x :: st) := fun H locs ls a b c => lv_ldiv X.1 X.2.1 hd hne (by rw [hp]; exact k H locs ls a b c)
theorem g_lneg (X : gC E w cc nL own h) {x : Int64} (hd : decode cc pc = .ok (.lneg, 1)) (hp : pc + 1 = n) (k : gW E w nL σ n L (.long (-x) :: st)) : gW E w nL σ pc L (.long x :: st) := fun H locs ls a b c => lv_lneg X.1 X.2.1 hd  (by rw [hp]; exact k H locs ls a b c)
theorem g_i2l (X : gC E w cc nL own h) {x : Int32} (hd : decode cc pc = .ok (.i2l, 1)) (hp : pc + 1 = n) (k : gW E w nL σ n L (.long (x.toInt64) :: st)) : gW E w nL σ pc L (.int x :: st) := fun H locs ls a b c => lv_i2l X.1 X.2.1 hd rfl (by rw [hp]; exact k H locs ls a b c)
theorem g_l2i (X : gC E w cc nL own h) {x : Int64} (hd : decode cc pc = .ok (.l2i, 1)) (hp : pc + 1 = n) (k : gW E w nL σ n L (.int (x.toInt32) :: st)) : gW E w nL σ pc L (.long x :: st) := fun H locs ls a b c => lv_l2i X.1 X.2.1 hd rfl (by rw [hp]; exact k H locs ls a b c)
theorem g_i2b (X : gC E w cc nL own h) {x : Int32} (hd : decode cc pc = .ok (.i2b, 1)) (hp : pc + 1 = n) (k : gW E w nL σ n L (.int (x.toInt8.toInt32) :: st)) : gW E w nL σ pc L (.int x :: st) := fun H locs ls a b c => lv_i2b X.1 X.2.1 hd rfl (by rw [hp]; exact k H locs ls a b c)
theorem g_i2s (X : gC E w cc nL own h) {x : Int32} (hd : decode cc pc = .ok (.i2s, 1)) (hp : pc + 1 = n) (k : gW E w nL σ n L (.int (x.toInt16.toInt32) :: st)) : gW E w nL σ pc L (.int x :: st) := fun H locs ls a b c => lv_i2s X.1 X.2.1 hd rfl (by rw [hp]; exact k H locs ls a b c)
theorem g_lushr (X : gC E w cc nL own h) {x : Int64} {y : Int32} (hd : decode cc pc = .ok (.lushr, 1)) (hp : pc + 1 = n) (k : gW E w nL σ n L (.long ((x.toUInt64 >>> (y.toInt64.toUInt64 &&& Int64.toUInt64 63)).toInt64) :: st)) : gW E w nL σ pc L (.int y :: .long x :: st) := fun H locs ls a b c => lv_lushr X.1 X.2.1 hd rfl (by rw [hp]; exact k H locs ls a b c)
theorem g_lshl (X : gC E w cc nL own h) {x : Int64} {y : Int32} (hd : decode cc pc = .ok (.lshl, 1)) (hp : pc + 1 = n) (k : gW E w nL σ n L (.long (x <<< (y.toInt64 &&& 63)) :: st)) : gW E w nL σ pc L (.int y :: .long x :: st) := fun H locs ls a b c => lv_lshl X.1 X.2.1 hd rfl (by rw [hp]; exact k H locs ls a b c)
theorem g_lshr (X : gC E w cc nL own h) {x : Int64} {y : Int32} (hd : decode cc pc = .ok (.lshr, 1)) (hp : pc + 1 = n) (k : gW E w nL σ n L (.long (x >>> (y.toInt64 &&& 63)) :: st)) : gW E w nL σ pc L (.int y :: .long x :: st) := fun H locs ls a b c => lv_lshr X.1 X.2.1 hd rfl (by rw [hp]; exact k H locs ls a b c)
theorem g_iconst (X : gC E w cc nL own h) {z : Int} {v : Int32} (hv : Int32.ofInt z = v) (hd : decode cc pc = .ok (.iconst z, 1)) (hp : pc + 1 = n) (k : gW E w nL σ n L (.int v :: st)) : gW E w nL σ pc L (st) := fun H locs ls a b c => lv_iconst X.1 X.2.1 hd hv (by rw [hp]; exact k H locs ls a b c)
theorem g_bipush (X : gC E w cc nL own h) {z : Int} {v : Int32} (hv : (Int8.ofInt z).toInt32 = v) (hd : decode cc pc = .ok (.bipush z, 2)) (hp : pc + 2 = n) (k : gW E w nL σ n L (.int v :: st)) : gW E w nL σ pc L (st) := fun H locs ls a b c => lv_bipush X.1 X.2.1 hd hv (by rw [hp]; exact k H locs ls a b c)
theorem g_sipush (X : gC E w cc nL own h) {z : Int} {v : Int32} (hv : (Int16.ofInt z).toInt32 = v) (hd : decode cc pc = .ok (.sipush z, 3)) (hp : pc + 3 = n) (k : gW E w nL σ n L (.int v :: st)) : gW E w nL σ pc L (st) := fun H locs ls a b c => lv_sipush X.1 X.2.1 hd hv (by rw [hp]; exact k H locs ls a b c)
theorem g_lconst (X : gC E w cc nL own h) {z : Fin 2} {v : Int64} (hv : Int64.ofNat (z : Nat) = v) (hd : decode cc pc = .ok (.lconst z, 1)) (hp : pc + 1 = n) (k : gW E w nL σ n L (.long v :: st)) : gW E w nL σ pc L (st) := fun H locs ls a b c => lv_lconst X.1 X.2.1 hd hv (by rw [hp]; exact k H locs ls a b c)
theorem g_iload_n (X : gC E w cc nL own h) {z : Fin 4} {x : Int32} (hd : decode cc pc = .ok (.iload_n z, 1)) (hi : la L (z : Nat) = some (.int x)) (hp : pc + 1 = n) (k : gW E w nL σ n L (.int x :: st)) : gW E w nL σ pc L st := fun H locs ls a b c => lv_iload_n X.1 X.2.1 hd rfl (lvh_at a hi) (by rw [hp]; exact k H locs ls a b c)
theorem g_iload (X : gC E w cc nL own h) {z : Nat} {x : Int32} (hd : decode cc pc = .ok (.iload z, 2)) (hi : la L z = some (.int x)) (hp : pc + 2 = n) (k : gW E w nL σ n L (.int x :: st)) : gW E w nL σ pc L st := fun H locs ls a b c => lv_iload X.1 X.2.1 hd (lvh_at a hi) (by rw [hp]; exact k H locs ls a b c)
theorem g_lload_n (X : gC E w cc nL own h) {z : Fin 4} {x : Int64} (hd : decode cc pc = .ok (.lload_n z, 1)) (hi : la L (z : Nat) = some (.long x)) (hp : pc + 1 = n) (k : gW E w nL σ n L (.long x :: st)) : gW E w nL σ pc L st := fun H locs ls a b c => lv_lload_n X.1 X.2.1 hd rfl (lvh_at a hi) (by rw [hp]; exact k H locs ls a b c)
theorem g_lload (X : gC E w cc nL own h) {z : Nat} {x : Int64} (hd : decode cc pc = .ok (.lload z, 2)) (hi : la L z = some (.long x)) (hp : pc + 2 = n) (k : gW E w nL σ n L (.long x :: st)) : gW E w nL σ pc L st := fun H locs ls a b c => lv_lload X.1 X.2.1 hd (lvh_at a hi) (by rw [hp]; exact k H locs ls a b c)
theorem g_aload_n (X : gC E w cc nL own h) {z : Fin 4} {x : Nat} (hd : decode cc pc = .ok (.aload_n z, 1)) (hi : la L (z : Nat) = some (.ref x)) (hp : pc + 1 = n) (k : gW E w nL σ n L (.ref x :: st)) : gW E w nL σ pc L st := fun H locs ls a b c => lv_aload_n X.1 X.2.1 hd rfl (lvh_at a hi) (by rw [hp]; exact k H locs ls a b c)
theorem g_aload (X : gC E w cc nL own h) {z : Nat} {x : Nat} (hd : decode cc pc = .ok (.aload z, 2)) (hi : la L z = some (.ref x)) (hp : pc + 2 = n) (k : gW E w nL σ n L (.ref x :: st)) : gW E w nL σ pc L st := fun H locs ls a b c => lv_aload X.1 X.2.1 hd (lvh_at a hi) (by rw [hp]; exact k H locs ls a b c)
theorem g_istore_n (X : gC E w cc nL own h) {z : Fin 4} {x : Int32} (L' : List (Option Value)) (hd : decode cc pc = .ok (.istore_n z, 1)) (hn : (z : Nat) < nL) (ho : lo L (z : Nat) = true) (hL : lset L (z : Nat) (some (.int x)) = L') (hp : pc + 1 = n) (k : gW E w nL σ n L' st) : gW E w nL σ pc L (.int x :: st) := fun H locs ls a b c => lv_istore_n X.1 X.2.1 hd rfl a hn rfl (fun ls1 a1 => by rw [hp]; exact k H locs ls1 (hL ▸ lvh_set1 ho a1) b c)
theorem g_istore (X : gC E w cc nL own h) {z : Nat} {x : Int32} (L' : List (Option Value)) (hd : decode cc pc = .ok (.istore z, 2)) (hn : z < nL) (ho : lo L z = true) (hL : lset L z (some (.int x)) = L') (hp : pc + 2 = n) (k : gW E w nL σ n L' st) : gW E w nL σ pc L (.int x :: st) := fun H locs ls a b c => lv_istore X.1 X.2.1 hd  a hn rfl (fun ls1 a1 => by rw [hp]; exact k H locs ls1 (hL ▸ lvh_set1 ho a1) b c)
theorem g_lstore_n (X : gC E w cc nL own h) {z : Fin 4} {x : Int64} (L' : List (Option Value)) (hd : decode cc pc = .ok (.lstore_n z, 1)) (hn : (z : Nat) + 1 < nL) (ho : lo L (z : Nat) = true) (hL : lset (lset L (z : Nat) (some (.long x))) ((z : Nat) + 1) none = L') (hp : pc + 1 = n) (k : gW E w nL σ n L' st) : gW E w nL σ pc L (.long x :: st) := fun H locs ls a b c => lv_lstore_n X.1 X.2.1 hd rfl a hn rfl (fun ls1 a1 => by rw [hp]; exact k H locs ls1 (hL ▸ lvh_set2 ho a1) b c)
theorem g_lstore (X : gC E w cc nL own h) {z : Nat} {x : Int64} (L' : List (Option Value)) (hd : decode cc pc = .ok (.lstore z, 2)) (hn : z + 1 < nL) (ho : lo L z = true) (hL : lset (lset L z (some (.long x))) (z + 1) none = L') (hp : pc + 2 = n) (k : gW E w nL σ n L' st) : gW E w nL σ pc L (.long x :: st) := fun H locs ls a b c => lv_lstore X.1 X.2.1 hd  a hn rfl (fun ls1 a1 => by rw [hp]; exact k H locs ls1 (hL ▸ lvh_set2 ho a1) b c)
theorem g_astore_n (X : gC E w cc nL own h) {z : Fin 4} {x : Nat} (L' : List (Option Value)) (hd : decode cc pc = .ok (.astore_n z, 1)) (hn : (z : Nat) < nL) (ho : lo L (z : Nat) = true) (hL : lset L (z : Nat) (some (.ref x)) = L') (hp : pc + 1 = n) (k : gW E w nL σ n L' st) : gW E w nL σ pc L (.ref x :: st) := fun H locs ls a b c => lv_astore_n X.1 X.2.1 hd rfl a hn rfl (fun ls1 a1 => by rw [hp]; exact k H locs ls1 (hL ▸ lvh_set1 ho a1) b c)
theorem g_astore (X : gC E w cc nL own h) {z : Nat} {x : Nat} (L' : List (Option Value)) (hd : decode cc pc = .ok (.astore z, 2)) (hn : z < nL) (ho : lo L z = true) (hL : lset L z (some (.ref x)) = L') (hp : pc + 2 = n) (k : gW E w nL σ n L' st) : gW E w nL σ pc L (.ref x :: st) := fun H locs ls a b c => lv_astore X.1 X.2.1 hd  a hn rfl (fun ls1 a1 => by rw [hp]; exact k H locs ls1 (hL ▸ lvh_set1 ho a1) b c)
theorem g_iinc (X : gC E w cc nL own h) {z : Nat} {d : Int} {x v : Int32} (L' : List (Option Value)) (hd : decode cc pc = .ok (.iinc z d, 3)) (hi : la L z = some (.int x)) (hv : x + Int32.ofInt d = v) (hn : z < nL) (ho : lo L z = true) (hL : lset L z (some (.int v)) = L') (hp : pc + 3 = n) (k : gW E w nL σ n L' st) : gW E w nL σ pc L st := by
  intro H locs ls a b c
  obtain ⟨j, hj⟩ := List.getElem?_of_mem (lz_mem (q := (z, .int x)).mpr hi)
  exact lv_iinc X.1 X.2.1 hd a hj hv hn rfl (fun ls1 a1 => by rw [hp]; exact k H locs ls1 (hL ▸ lvh_set1 ho a1) b c)
theorem g_dup (X : gC E w cc nL own h) {v : Value} (hd : decode cc pc = .ok (.dup, 1)) (hc : v.category = 1) (hp : pc + 1 = n) (k : gW E w nL σ n L (v :: v :: st)) : gW E w nL σ pc L (v :: st) := fun H locs ls a b c => lv_dup X.1 X.2.1 hd hc (by rw [hp]; exact k H locs ls a b c)
theorem g_pop (X : gC E w cc nL own h) {v : Value} (hd : decode cc pc = .ok (.pop, 1)) (hc : v.category = 1) (hp : pc + 1 = n) (k : gW E w nL σ n L st) : gW E w nL σ pc L (v :: st) := fun H locs ls a b c => lv_pop X.1 X.2.1 hd hc (by rw [hp]; exact k H locs ls a b c)
theorem g_pop2 (X : gC E w cc nL own h) {v : Value} (hd : decode cc pc = .ok (.pop2, 1)) (hc : v.category = 2) (hp : pc + 1 = n) (k : gW E w nL σ n L st) : gW E w nL σ pc L (v :: st) := fun H locs ls a b c => lv_pop2_2 X.1 X.2.1 hd hc (by rw [hp]; exact k H locs ls a b c)
theorem g_dup2 (X : gC E w cc nL own h) {u v : Value} (hd : decode cc pc = .ok (.dup2, 1)) (hu : u.category = 1) (hv : v.category = 1) (hp : pc + 1 = n) (k : gW E w nL σ n L (u :: v :: u :: v :: st)) : gW E w nL σ pc L (u :: v :: st) := fun H locs ls a b c => lv_dup2_11 X.1 X.2.1 hd hu hv (by rw [hp]; exact k H locs ls a b c)
theorem g_if_eq (X : gC E w cc nL own h) {x : Int32} {off : Int} {tgt : Nat} (hd : decode cc pc = .ok (.ifCond .eq off, 3)) (ht : (pc : Int) + off = (tgt : Int)) (hp : pc + 3 = n) (kt : x = 0 → gW E w nL σ tgt L st) (kf : ¬ x = 0 → gW E w nL σ n L st) : gW E w nL σ pc L (.int x :: st) := fun H locs ls a b c => lv_if_eq X.1 X.2.1 hd ht (fun q => kt q H locs ls a b c) (fun q => by rw [hp]; exact kf q H locs ls a b c)
theorem g_if_ne (X : gC E w cc nL own h) {x : Int32} {off : Int} {tgt : Nat} (hd : decode cc pc = .ok (.ifCond .ne off, 3)) (ht : (pc : Int) + off = (tgt : Int)) (hp : pc + 3 = n) (kt : ¬ x = 0 → gW E w nL σ tgt L st) (kf : x = 0 → gW E w nL σ n L st) : gW E w nL σ pc L (.int x :: st) := fun H locs ls a b c => lv_if_ne X.1 X.2.1 hd ht (fun q => kt q H locs ls a b c) (fun q => by rw [hp]; exact kf q H locs ls a b c)
theorem g_if_lt (X : gC E w cc nL own h) {x : Int32} {off : Int} {tgt : Nat} (hd : decode cc pc = .ok (.ifCond .lt off, 3)) (ht : (pc : Int) + off = (tgt : Int)) (hp : pc + 3 = n) (kt : x < 0 → gW E w nL σ tgt L st) (kf : ¬ x < 0 → gW E w nL σ n L st) : gW E w nL σ pc L (.int x :: st) := fun H locs ls a b c => lv_if_lt X.1 X.2.1 hd ht (fun q => kt q H locs ls a b c) (fun q => by rw [hp]; exact kf q H locs ls a b c)
theorem g_if_ge (X : gC E w cc nL own h) {x : Int32} {off : Int} {tgt : Nat} (hd : decode cc pc = .ok (.ifCond .ge off, 3)) (ht : (pc : Int) + off = (tgt : Int)) (hp : pc + 3 = n) (kt : 0 ≤ x → gW E w nL σ tgt L st) (kf : ¬ 0 ≤ x → gW E w nL σ n L st) : gW E w nL σ pc L (.int x :: st) := fun H locs ls a b c => lv_if_ge X.1 X.2.1 hd ht (fun q => kt q H locs ls a b c) (fun q => by rw [hp]; exact kf q H locs ls a b c)
theorem g_if_gt (X : gC E w cc nL own h) {x : Int32} {off : Int} {tgt : Nat} (hd : decode cc pc = .ok (.ifCond .gt off, 3)) (ht : (pc : Int) + off = (tgt : Int)) (hp : pc + 3 = n) (kt : 0 < x → gW E w nL σ tgt L st) (kf : ¬ 0 < x → gW E w nL σ n L st) : gW E w nL σ pc L (.int x :: st) := fun H locs ls a b c => lv_if_gt X.1 X.2.1 hd ht (fun q => kt q H locs ls a b c) (fun q => by rw [hp]; exact kf q H locs ls a b c)
theorem g_if_le (X : gC E w cc nL own h) {x : Int32} {off : Int} {tgt : Nat} (hd : decode cc pc = .ok (.ifCond .le off, 3)) (ht : (pc : Int) + off = (tgt : Int)) (hp : pc + 3 = n) (kt : x ≤ 0 → gW E w nL σ tgt L st) (kf : ¬ x ≤ 0 → gW E w nL σ n L st) : gW E w nL σ pc L (.int x :: st) := fun H locs ls a b c => lv_if_le X.1 X.2.1 hd ht (fun q => kt q H locs ls a b c) (fun q => by rw [hp]; exact kf q H locs ls a b c)
theorem g_icmp_eq (X : gC E w cc nL own h) {x y : Int32} {off : Int} {tgt : Nat} (hd : decode cc pc = .ok (.if_icmp .eq off, 3)) (ht : (pc : Int) + off = (tgt : Int)) (hp : pc + 3 = n) (kt : x = y → gW E w nL σ tgt L st) (kf : ¬ x = y → gW E w nL σ n L st) : gW E w nL σ pc L (.int y :: .int x :: st) := fun H locs ls a b c => lv_icmp_eq X.1 X.2.1 hd ht (fun q => kt q H locs ls a b c) (fun q => by rw [hp]; exact kf q H locs ls a b c)
theorem g_icmp_ne (X : gC E w cc nL own h) {x y : Int32} {off : Int} {tgt : Nat} (hd : decode cc pc = .ok (.if_icmp .ne off, 3)) (ht : (pc : Int) + off = (tgt : Int)) (hp : pc + 3 = n) (kt : ¬ x = y → gW E w nL σ tgt L st) (kf : x = y → gW E w nL σ n L st) : gW E w nL σ pc L (.int y :: .int x :: st) := fun H locs ls a b c => lv_icmp_ne X.1 X.2.1 hd ht (fun q => kt q H locs ls a b c) (fun q => by rw [hp]; exact kf q H locs ls a b c)
theorem g_icmp_lt (X : gC E w cc nL own h) {x y : Int32} {off : Int} {tgt : Nat} (hd : decode cc pc = .ok (.if_icmp .lt off, 3)) (ht : (pc : Int) + off = (tgt : Int)) (hp : pc + 3 = n) (kt : x < y → gW E w nL σ tgt L st) (kf : ¬ x < y → gW E w nL σ n L st) : gW E w nL σ pc L (.int y :: .int x :: st) := fun H locs ls a b c => lv_icmp_lt X.1 X.2.1 hd ht (fun q => kt q H locs ls a b c) (fun q => by rw [hp]; exact kf q H locs ls a b c)
theorem g_icmp_ge (X : gC E w cc nL own h) {x y : Int32} {off : Int} {tgt : Nat} (hd : decode cc pc = .ok (.if_icmp .ge off, 3)) (ht : (pc : Int) + off = (tgt : Int)) (hp : pc + 3 = n) (kt : y ≤ x → gW E w nL σ tgt L st) (kf : ¬ y ≤ x → gW E w nL σ n L st) : gW E w nL σ pc L (.int y :: .int x :: st) := fun H locs ls a b c => lv_icmp_ge X.1 X.2.1 hd ht (fun q => kt q H locs ls a b c) (fun q => by rw [hp]; exact kf q H locs ls a b c)
theorem g_icmp_gt (X : gC E w cc nL own h) {x y : Int32} {off : Int} {tgt : Nat} (hd : decode cc pc = .ok (.if_icmp .gt off, 3)) (ht : (pc : Int) + off = (tgt : Int)) (hp : pc + 3 = n) (kt : y < x → gW E w nL σ tgt L st) (kf : ¬ y < x → gW E w nL σ n L st) : gW E w nL σ pc L (.int y :: .int x :: st) := fun H locs ls a b c => lv_icmp_gt X.1 X.2.1 hd ht (fun q => kt q H locs ls a b c) (fun q => by rw [hp]; exact kf q H locs ls a b c)
theorem g_icmp_le (X : gC E w cc nL own h) {x y : Int32} {off : Int} {tgt : Nat} (hd : decode cc pc = .ok (.if_icmp .le off, 3)) (ht : (pc : Int) + off = (tgt : Int)) (hp : pc + 3 = n) (kt : x ≤ y → gW E w nL σ tgt L st) (kf : ¬ x ≤ y → gW E w nL σ n L st) : gW E w nL σ pc L (.int y :: .int x :: st) := fun H locs ls a b c => lv_icmp_le X.1 X.2.1 hd ht (fun q => kt q H locs ls a b c) (fun q => by rw [hp]; exact kf q H locs ls a b c)
theorem g_lcmp_eq (X : gC E w cc nL own h) {x y : Int64} {off : Int} {tgt pc1 : Nat} (hd : decode cc pc = .ok (.lcmp, 1)) (h1 : pc + 1 = pc1) (hd1 : decode cc pc1 = .ok (.ifCond .eq off, 3)) (ht : (pc1 : Int) + off = (tgt : Int)) (hp : pc1 + 3 = n) (kt : x = y → gW E w nL σ tgt L st) (kf : ¬ x = y → gW E w nL σ n L st) : gW E w nL σ pc L (.long y :: .long x :: st) := fun H locs ls a b c => W.lcmp X.1 X.2.1 hd (by rw [h1]; exact lv_if_eq X.1 X.2.1 hd1 ht (fun q => kt ((lg_cmp_eq x y).mp q) H locs ls a b c) (fun q => by rw [hp]; exact kf (fun z => q ((lg_cmp_eq x y).mpr z)) H locs ls a b c))
theorem g_lcmp_ne (X : gC E w cc nL own h) {x y : Int64} {off : Int} {tgt pc1 : Nat} (hd : decode cc pc = .ok (.lcmp, 1)) (h1 : pc + 1 = pc1) (hd1 : decode cc pc1 = .ok (.ifCond .ne off, 3)) (ht : (pc1 : Int) + off = (tgt : Int)) (hp : pc1 + 3 = n) (kt : ¬ x = y → gW E w nL σ tgt L st) (kf : x = y → gW E w nL σ n L st) : gW E w nL σ pc L (.long y :: .long x :: st) := fun H locs ls a b c => W.lcmp X.1 X.2.1 hd (by rw [h1]; exact lv_if_ne X.1 X.2.1 hd1 ht (fun q => kt (fun z => q ((lg_cmp_eq x y).mpr z)) H locs ls a b c) (fun q => by rw [hp]; exact kf ((lg_cmp_eq x y).mp q) H locs ls a b c))
theorem g_lcmp_lt (X : gC E w cc nL own h) {x y : Int64} {off : Int} {tgt pc1 : Nat} (hd : decode cc pc = .ok (.lcmp, 1)) (h1 : pc + 1 = pc1) (hd1 : decode cc pc1 = .ok (.ifCond .lt off, 3)) (ht : (pc1 : Int) + off = (tgt : Int)) (hp : pc1 + 3 = n) (kt : x < y → gW E w nL σ tgt L st) (kf : ¬ x < y → gW E w nL σ n L st) : gW E w nL σ pc L (.long y :: .long x :: st) := fun H locs ls a b c => W.lcmp X.1 X.2.1 hd (by rw [h1]; exact lv_if_lt X.1 X.2.1 hd1 ht (fun q => kt ((lg_cmp_lt x y).mp q) H locs ls a b c) (fun q => by rw [hp]; exact kf (fun z => q ((lg_cmp_lt x y).mpr z)) H locs ls a b c))
theorem g_lcmp_ge (X : gC E w cc nL own h) {x y : Int64} {off : Int} {tgt pc1 : Nat} (hd : decode cc pc = .ok (.lcmp, 1)) (h1 : pc + 1 = pc1) (hd1 : decode cc pc1 = .ok (.ifCond .ge off, 3)) (ht : (pc1 : Int) + off = (tgt : Int)) (hp : pc1 + 3 = n) (kt : y ≤ x → gW E w nL σ tgt L st) (kf : ¬ y ≤ x → gW E w nL σ n L st) : gW E w nL σ pc L (.long y :: .long x :: st) := fun H locs ls a b c => W.lcmp X.1 X.2.1 hd (by rw [h1]; exact lv_if_ge X.1 X.2.1 hd1 ht (fun q => kt ((lg_cmp_ge x y).mp q) H locs ls a b c) (fun q => by rw [hp]; exact kf (fun z => q ((lg_cmp_ge x y).mpr z)) H locs ls a b c))
theorem g_lcmp_gt (X : gC E w cc nL own h) {x y : Int64} {off : Int} {tgt pc1 : Nat} (hd : decode cc pc = .ok (.lcmp, 1)) (h1 : pc + 1 = pc1) (hd1 : decode cc pc1 = .ok (.ifCond .gt off, 3)) (ht : (pc1 : Int) + off = (tgt : Int)) (hp : pc1 + 3 = n) (kt : y < x → gW E w nL σ tgt L st) (kf : ¬ y < x → gW E w nL σ n L st) : gW E w nL σ pc L (.long y :: .long x :: st) := fun H locs ls a b c => W.lcmp X.1 X.2.1 hd (by rw [h1]; exact lv_if_gt X.1 X.2.1 hd1 ht (fun q => kt ((lg_cmp_gt x y).mp q) H locs ls a b c) (fun q => by rw [hp]; exact kf (fun z => q ((lg_cmp_gt x y).mpr z)) H locs ls a b c))
theorem g_lcmp_le (X : gC E w cc nL own h) {x y : Int64} {off : Int} {tgt pc1 : Nat} (hd : decode cc pc = .ok (.lcmp, 1)) (h1 : pc + 1 = pc1) (hd1 : decode cc pc1 = .ok (.ifCond .le off, 3)) (ht : (pc1 : Int) + off = (tgt : Int)) (hp : pc1 + 3 = n) (kt : x ≤ y → gW E w nL σ tgt L st) (kf : ¬ x ≤ y → gW E w nL σ n L st) : gW E w nL σ pc L (.long y :: .long x :: st) := fun H locs ls a b c => W.lcmp X.1 X.2.1 hd (by rw [h1]; exact lv_if_le X.1 X.2.1 hd1 ht (fun q => kt ((lg_cmp_le x y).mp q) H locs ls a b c) (fun q => by rw [hp]; exact kf (fun z => q ((lg_cmp_le x y).mpr z)) H locs ls a b c))
theorem g_goto (X : gC E w cc nL own h) {off : Int} {tgt : Nat} (hd : decode cc pc = .ok (.goto off, 3)) (ht : (pc : Int) + off = (tgt : Int)) (k : gW E w nL σ tgt L st) : gW E w nL σ pc L st := fun H locs ls a b c => lv_goto X.1 X.2.1 hd ht (k H locs ls a b c)
theorem g_ldc (X : gC E w cc nL own h) {z : Nat} {v : Int32} (hd : decode cc pc = .ok (.ldc z, 2)) (hw : Cond.constant own z v ∈ lw_tbl) (hp : pc + 2 = n) (k : gW E w nL σ n L (.int v :: st)) : gW E w nL σ pc L st := fun H locs ls a b c => lv_ldc X.1 X.2.1 X.2.2.2.1 (X.word hw rfl) hd (by rw [hp]; exact k H locs ls a b c)
theorem g_ldc2 (X : gC E w cc nL own h) {z : Nat} {v : Int64} (hd : decode cc pc = .ok (.ldc2_w z, 3)) (hw : Cond.constantLong own z v ∈ lw_tbl) (hp : pc + 3 = n) (k : gW E w nL σ n L (.long v :: st)) : gW E w nL σ pc L st := fun H locs ls a b c => lv_ldc2 X.1 X.2.1 X.2.2.2.1 (X.word hw rfl) hd (by rw [hp]; exact k H locs ls a b c)
theorem g_tout (X : gC E w cc nL own h) {dflt lo hi : Int} {offs : Array Int} {len : Nat} {x : Int32} {tgt : Nat} (hd : decode cc pc = .ok (.tableswitch dflt lo hi offs, len)) (hx : x.toInt < lo ∨ hi < x.toInt) (ht : (pc : Int) + dflt = (tgt : Int)) (k : gW E w nL σ tgt L st) : gW E w nL σ pc L (.int x :: st) := fun H locs ls a b c => lv_tableOut X.1 X.2.1 hd hx ht (k H locs ls a b c)
theorem g_tin (X : gC E w cc nL own h) {dflt lo hi : Int} {offs : Array Int} {len : Nat} {x : Int32} {off : Int} {tgt : Nat} (hd : decode cc pc = .ok (.tableswitch dflt lo hi offs, len)) (h1 : ¬ x.toInt < lo) (h2 : ¬ hi < x.toInt) (ho : offs[(x.toInt - lo).toNat]? = some off) (ht : (pc : Int) + off = (tgt : Int)) (k : gW E w nL σ tgt L st) : gW E w nL σ pc L (.int x :: st) := fun H locs ls a b c => lv_tableIn X.1 X.2.1 hd h1 h2 ho ht (k H locs ls a b c)
theorem g_get (X : gC E w cc nL own h) {k j idx N : Nat} {C ref : String} {U : u_T} {q : Nat × Nat} (hk : k < NC) (h0 : kd k = 0) (hc : gcl[oc k]? = some (C, U, N)) (hj : j < N) (hq : (obS k)[j]? = some q) (hin : ∀ t ∈ u_ws C U N, t ∈ gT) (hl : Cond.fieldLink own idx ref (U j).2.1 (U j).2.2.1 ∈ lw_tbl) (hr : (U j).1 = ref) (hd : decode cc pc = .ok (.getfield idx, 3)) (hp : pc + 3 = n) (kk : gW E w nL σ n L (fv w σ.2.2 q :: st)) : gW E w nL σ pc L (.ref (w.1 k) :: st) := fun H locs ls a b c =>
  va_get (D := w.2.1) (ws := cw w σ) X.1 X.2.1 X.2.2.2.2.1 hin X.2.2.2.1 X.2.2.2.2.2.1 b k (by rw [cw_at hk, ce_0 h0]) hc j hj (X.word hl rfl) (by rw [hr]; exact fun _ z => z) (by rw [List.getElem?_map, hq]; rfl) hd (by rw [hp]; exact kk H locs ls a b c)
theorem g_putI (X : gC E w cc nL own h) {k j idx N f : Nat} {C ref : String} {U : u_T} {x : Int32} (ty0 : Nat → FieldType) (hty : ∀ k, k < N → parseFieldDescriptor (U k).2.2.1 = some (ty0 k)) (hnm : ∀ a, a < N → ∀ b, b < N → a ≠ b → (U a).2.1 ≠ (U b).2.1) (hk : k < NC) (h0 : kd k = 0) (hc : gcl[oc k]? = some (C, U, N)) (hj : j < N) (hq : (obS k)[j]? = some (1, f)) (ho : once (1, f) k j = true) (hin : ∀ t ∈ u_ws C U N, t ∈ gT) (hl : Cond.fieldLink own idx ref (U j).2.1 (U j).2.2.1 ∈ lw_tbl) (hr : (U j).1 = ref) (hfin : (U j).2.2.2 = false) (hI : (U j).2.2.1 = "I") (hd : decode cc pc = .ok (.putfield idx, 3)) (hp : pc + 3 = n) (kk : ∀ σ1 : St, σ1 = stF σ f x → gW E w nL σ1 n L st) : gW E w nL σ pc L (.int x :: .ref (w.1 k) :: st) := fun H locs ls a b c =>
  va_put (D := w.2.1) (ws := cw w σ) (A := inA w) (H0 := (eS E).heap) (fs := (obS k).map (fv w σ.2.2)) (v := .int x) (ty := .int) X.1 X.2.1 X.2.2.2.2.1 hin ty0 hty hnm X.2.2.2.1 X.2.2.2.2.2.1 b (cw_D X.2.2.2.2.2.2.1) c k (by rw [cw_at hk, ce_0 h0]) hc j hj (X.word hl rfl) (by rw [hr]; exact fun _ z => z) hfin (by rw [hI]; decide) rfl rfl (by rw [List.length_map]; exact (List.getElem?_eq_some_iff.mp hq).1) hd (fun H1 l1 hP _ hS => by rw [cw_F hk h0 hq ho] at hP; rw [hp]; exact kk _ rfl H1 l1 ls a hP hS)
theorem g_putR (X : gC E w cc nL own h) {k j idx N f q : Nat} {C ref D0 : String} {U : u_T} (ty0 : Nat → FieldType) (hty : ∀ k, k < N → parseFieldDescriptor (U k).2.2.1 = some (ty0 k)) (hnm : ∀ a, a < N → ∀ b, b < N → a ≠ b → (U a).2.1 ≠ (U b).2.1) (hk : k < NC) (h0 : kd k = 0) (hc : gcl[oc k]? = some (C, U, N)) (hj : j < N) (hq : (obS k)[j]? = some (2, f)) (ho : onceR f k j = true) (hin : ∀ t ∈ u_ws C U N, t ∈ gT) (hl : Cond.fieldLink own idx ref (U j).2.1 (U j).2.2.1 ∈ lw_tbl) (hr : (U j).1 = ref) (hfin : (U j).2.2.2 = false) (hI : parseFieldDescriptor (U j).2.2.1 = some (.object D0)) (hd : decode cc pc = .ok (.putfield idx, 3)) (hp : pc + 3 = n) (kk : ∀ σ1 : St, σ1 = stR σ f q → gW E w nL σ1 n L st) : gW E w nL σ pc L (.ref (w.1 q) :: .ref (w.1 k) :: st) := fun H locs ls a b c =>
  va_put (D := w.2.1) (ws := cw w σ) (A := inA w) (H0 := (eS E).heap) (fs := (obS k).map (fv w σ.2.2)) (v := .ref (w.1 q)) (ty := .object D0) X.1 X.2.1 X.2.2.2.2.1 hin ty0 hty hnm X.2.2.2.1 X.2.2.2.2.2.1 b (cw_D X.2.2.2.2.2.2.1) c k (by rw [cw_at hk, ce_0 h0]) hc j hj (X.word hl rfl) (by rw [hr]; exact fun _ z => z) hfin hI rfl rfl (by rw [List.length_map]; exact (List.getElem?_eq_some_iff.mp hq).1) hd (fun H1 l1 hP _ hS => by rw [cw_R hk h0 hq ho] at hP; rw [hp]; exact kk _ rfl H1 l1 ls a hP hS)
theorem g_iald (X : gC E w cc nL own h) {k N : Nat} {i : Int32} (hk : k < NC) (h0 : kd k = 1) (hN : ln k = N) (hin : vp_in i N) (hd : decode cc pc = .ok (.iaload, 1)) (hp : pc + 1 = n) (kk : gW E w nL σ n L (.int (rI σ k i) :: st)) : gW E w nL σ pc L (.int i :: .ref (w.1 k) :: st) := fun H locs ls a b c => va_iald X.1 X.2.1 X.2.2.2.2.2.1 b k 0 (by rw [cw_at hk, ce_1 h0]) rfl (by rw [hN]; exact hin) hd (by rw [hp]; exact kk H locs ls a b c)
theorem g_bald (X : gC E w cc nL own h) {k N : Nat} {i : Int32} (hk : k < NC) (h0 : kd k = 2) (hN : ln k = N) (hin : vp_in i N) (hd : decode cc pc = .ok (.baload, 1)) (hp : pc + 1 = n) (kk : gW E w nL σ n L (.int (rI σ k i) :: st)) : gW E w nL σ pc L (.int i :: .ref (w.1 k) :: st) := fun H locs ls a b c => va_bald X.1 X.2.1 X.2.2.2.2.2.1 b k 1 (by rw [cw_at hk, ce_2 h0]) rfl (by rw [hN]; exact hin) hd (by rw [hp]; exact kk H locs ls a b c)
theorem g_zald (X : gC E w cc nL own h) {k N : Nat} {i : Int32} (hk : k < NC) (h0 : kd k = 3) (hN : ln k = N) (hin : vp_in i N) (hd : decode cc pc = .ok (.baload, 1)) (hp : pc + 1 = n) (kk : gW E w nL σ n L (.int (rI σ k i) :: st)) : gW E w nL σ pc L (.int i :: .ref (w.1 k) :: st) := fun H locs ls a b c => va_zald X.1 X.2.1 X.2.2.2.2.2.1 b k 2 (by rw [cw_at hk, ce_3 h0]) rfl (by rw [hN]; exact hin) hd (by rw [hp]; exact kk H locs ls a b c)
theorem g_lald (X : gC E w cc nL own h) {k N : Nat} {i : Int32} (hk : k < NC) (h0 : kd k = 4) (hN : ln k = N) (hin : vp_in i N) (hd : decode cc pc = .ok (.laload, 1)) (hp : pc + 1 = n) (kk : gW E w nL σ n L (.long (rL σ k i) :: st)) : gW E w nL σ pc L (.int i :: .ref (w.1 k) :: st) := fun H locs ls a b c => va_lald X.1 X.2.1 X.2.2.2.2.2.1 b k 3 (by rw [cw_at hk, ce_4 h0]) rfl (by rw [hN]; exact hin) hd (by rw [hp]; exact kk H locs ls a b c)
theorem cw_iast {w : wT} {σ : St} {k i : Nat} {x : Int32} (hk : k < NC) (h0 : kd k = 1) : (cw w σ).set k (w.1 k, .inl (w.2.2.1 1, ln k, .inl (upd (σ.1 k) i x))) = cw w (stA σ k i x) := cw_set hk (by rw [ce_1 h0]; simp [stA]) (fun j _ hj => ce_A hj)
theorem g_iast (X : gC E w cc nL own h) {k N : Nat} {i x : Int32} (hk : k < NC) (h0 : kd k = 1) (hN : ln k = N) (hin : vp_in i N) (hd : decode cc pc = .ok (.iastore, 1)) (hp : pc + 1 = n) (kk : ∀ σ1 : St, σ1 = stA σ k i.toNatClampNeg x → gW E w nL σ1 n L st) : gW E w nL σ pc L (.int x :: .int i :: .ref (w.1 k) :: st) := fun H locs ls a b c => va_iast (ws := cw w σ) (A := inA w) (H0 := (eS E).heap) X.1 X.2.1 X.2.2.2.2.2.1 b (cw_D X.2.2.2.2.2.2.1) c k 0 (by rw [cw_at hk, ce_1 h0]) rfl (by rw [hN]; exact hin) hd (fun H1 l1 hP _ hS => by rw [cw_iast hk h0] at hP; rw [hp]; exact kk _ rfl H1 l1 ls a hP hS)
theorem cw_bast {w : wT} {σ : St} {k i : Nat} {x : Int32} (hk : k < NC) (h0 : kd k = 2) : (cw w σ).set k (w.1 k, .inl (w.2.2.1 2, ln k, .inl (upd (σ.1 k) i x))) = cw w (stA σ k i x) := cw_set hk (by rw [ce_2 h0]; simp [stA]) (fun j _ hj => ce_A hj)
theorem g_bast (X : gC E w cc nL own h) {k N : Nat} {i x : Int32} (hk : k < NC) (h0 : kd k = 2) (hN : ln k = N) (hin : vp_in i N) (hd : decode cc pc = .ok (.bastore, 1)) (hp : pc + 1 = n) (kk : ∀ σ1 : St, σ1 = stA σ k i.toNatClampNeg (vp_nar .byte x) → gW E w nL σ1 n L st) : gW E w nL σ pc L (.int x :: .int i :: .ref (w.1 k) :: st) := fun H locs ls a b c => va_bast (ws := cw w σ) (A := inA w) (H0 := (eS E).heap) X.1 X.2.1 X.2.2.2.2.2.1 b (cw_D X.2.2.2.2.2.2.1) c k 1 (by rw [cw_at hk, ce_2 h0]) rfl (by rw [hN]; exact hin) hd (fun H1 l1 hP _ hS => by rw [cw_bast hk h0] at hP; rw [hp]; exact kk _ rfl H1 l1 ls a hP hS)
theorem cw_zast {w : wT} {σ : St} {k i : Nat} {x : Int32} (hk : k < NC) (h0 : kd k = 3) : (cw w σ).set k (w.1 k, .inl (w.2.2.1 3, ln k, .inl (upd (σ.1 k) i x))) = cw w (stA σ k i x) := cw_set hk (by rw [ce_3 h0]; simp [stA]) (fun j _ hj => ce_A hj)
theorem g_zast (X : gC E w cc nL own h) {k N : Nat} {i x : Int32} (hk : k < NC) (h0 : kd k = 3) (hN : ln k = N) (hin : vp_in i N) (hd : decode cc pc = .ok (.bastore, 1)) (hp : pc + 1 = n) (kk : ∀ σ1 : St, σ1 = stA σ k i.toNatClampNeg (vp_nar .boolean x) → gW E w nL σ1 n L st) : gW E w nL σ pc L (.int x :: .int i :: .ref (w.1 k) :: st) := fun H locs ls a b c => va_zast (ws := cw w σ) (A := inA w) (H0 := (eS E).heap) X.1 X.2.1 X.2.2.2.2.2.1 b (cw_D X.2.2.2.2.2.2.1) c k 2 (by rw [cw_at hk, ce_3 h0]) rfl (by rw [hN]; exact hin) hd (fun H1 l1 hP _ hS => by rw [cw_zast hk h0] at hP; rw [hp]; exact kk _ rfl H1 l1 ls a hP hS)
theorem cw_last {w : wT} {σ : St} {k i : Nat} {x : Int64} (hk : k < NC) (h0 : kd k = 4) : (cw w σ).set k (w.1 k, .inl (w.2.2.1 4, ln k, .inr (.inl (vp_updL (σ.2.1 k) i x)))) = cw w (stL σ k i x) := cw_set hk (by rw [ce_4 h0]; simp [stL]) (fun j _ hj => ce_L hj)
theorem g_last (X : gC E w cc nL own h) {k N : Nat} {i : Int32} {x : Int64} (hk : k < NC) (h0 : kd k = 4) (hN : ln k = N) (hin : vp_in i N) (hd : decode cc pc = .ok (.lastore, 1)) (hp : pc + 1 = n) (kk : ∀ σ1 : St, σ1 = stL σ k i.toNatClampNeg x → gW E w nL σ1 n L st) : gW E w nL σ pc L (.long x :: .int i :: .ref (w.1 k) :: st) := fun H locs ls a b c => va_last (ws := cw w σ) (A := inA w) (H0 := (eS E).heap) X.1 X.2.1 X.2.2.2.2.2.1 b (cw_D X.2.2.2.2.2.2.1) c k 3 (by rw [cw_at hk, ce_4 h0]) rfl (by rw [hN]; exact hin) hd (fun H1 l1 hP _ hS => by rw [cw_last hk h0] at hP; rw [hp]; exact kk _ rfl H1 l1 ls a hP hS)
theorem g_alenI (X : gC E w cc nL own h) {k : Nat} {v : Int32} (hk : k < NC) (h0 : kd k = 1) (hv : Int32.ofNat (ln k) = v) (hd : decode cc pc = .ok (.arraylength, 1)) (hp : pc + 1 = n) (kk : gW E w nL σ n L (.int v :: st)) : gW E w nL σ pc L (.ref (w.1 k) :: st) := fun H locs ls a b c => va_alen (ws := cw w σ) X.1 X.2.1 X.2.2.2.2.2.1 b k 0 (by rw [cw_at hk, ce_1 h0]) rfl hv hd (by rw [hp]; exact kk H locs ls a b c)
theorem g_alenL (X : gC E w cc nL own h) {k : Nat} {v : Int32} (hk : k < NC) (h0 : kd k = 4) (hv : Int32.ofNat (ln k) = v) (hd : decode cc pc = .ok (.arraylength, 1)) (hp : pc + 1 = n) (kk : gW E w nL σ n L (.int v :: st)) : gW E w nL σ pc L (.ref (w.1 k) :: st) := fun H locs ls a b c => va_alen (ws := cw w σ) X.1 X.2.1 X.2.2.2.2.2.1 b k 3 (by rw [cw_at hk, ce_4 h0]) rfl hv hd (by rw [hp]; exact kk H locs ls a b c)
theorem g_lret (X : gC E w cc nL own h) {v : Int64} (Y : gQ E w (some .long) (some (.long v)) σ) (hd : decode cc pc = .ok (.lreturn, 1)) : gW E w nL σ pc L [.long v] := fun H locs ls a b c => by
  rw [Y.1]
  exact W.lret X.1 X.2.1 Y.2.1 (fun t ht hW => ⟨rfl, by rw [ht]; exact b, c.F ht⟩) c.2.2 hd Y.2.2
theorem g_iret (X : gC E w cc nL own h) {v : Int32} (Y : gQ E w (some .int) (some (.int v)) σ) (hd : decode cc pc = .ok (.ireturn, 1)) : gW E w nL σ pc L [.int v] := fun H locs ls a b c => by
  rw [Y.1]
  exact W.iret X.1 X.2.1 Y.2.1 (fun t ht hW => ⟨rfl, by rw [ht]; exact b, c.F ht⟩) c.2.2 hd Y.2.2
theorem g_zret (X : gC E w cc nL own h) {v : Int32} {ty : FieldType} (Y : gQ E w (some ty) (some (.int v)) σ) (hn : narrow ty (.int v) = .int v) (hd : decode cc pc = .ok (.ireturn, 1)) : gW E w nL σ pc L [.int v] := fun H locs ls a b c => by
  rw [Y.1]
  exact W.zret X.1 X.2.1 Y.2.1 hn (fun t ht hW => ⟨rfl, by rw [ht]; exact b, c.F ht⟩) c.2.2 hd Y.2.2
theorem g_vret (X : gC E w cc nL own h) (Y : gQ E w none none σ) (hd : decode cc pc = .ok (.return_, 1)) : gW E w nL σ pc L [] := fun H locs ls a b c => by
  rw [Y.1]
  exact W.vret X.1 X.2.1 Y.2.1 (fun t ht hW => ⟨rfl, by rw [ht]; exact b, c.F ht⟩) c.2.2 hd Y.2.2
theorem g_aret (X : gC E w cc nL own h) {z : Nat} {ty : FieldType} (Y : gQ E w (some (.array ty)) (some (.ref z)) σ) (hd : decode cc pc = .ok (.areturn, 1)) : gW E w nL σ pc L [.ref z] := fun H locs ls a b c => by
  rw [Y.1]
  exact W.aret X.1 X.2.1 Y.2.1 (Or.inr ⟨_, rfl⟩) (Or.inr ⟨_, rfl⟩) (fun t ht hW => ⟨rfl, by rw [ht]; exact b, c.F ht⟩) c.2.2 hd Y.2.2
theorem g_back {H : Heap} {locs : List Loc} {ls : Array Slot} {st0 rest : List Value} {a : Array Value} {r : Option Value} {σ' : St} (hr : va_Run (eP E) (eL E) (eE E) (eR E) (eS E) (eM E) (eA E) (eB E) (eMe E) (eC E) H locs (eCe E) (eSl E) 0 0 (F0 (eM E) pc ls st0) rest (Qw w r σ' a) (inA w)) (hl : lvh ls nL L) (hS : va_S (inA w) (eS E).heap H locs) (hp : pc + 3 = n)
    (kk : gW E w nL σ' n L (r.toList ++ rest)) : W (eP E) (eL E) (eE E) (eR E) (eS E) (eM E) (eA E) (eB E) (eMe E) (eC E) H locs (eCe E) (eSl E) (eQ E) (F0 (eM E) pc ls st0) := by
  intro T hT X
  obtain ⟨v, st₀, t, T', L1, h0, X', hL, e1, e2, ⟨hv, hP, hz, hk⟩, go⟩ := hr T hT X
  cases hv
  rw [h0] at hz hk
  obtain ⟨t2, a1, b1⟩ := kk T'.heap (locs ++ L1) ls hl (by rw [e1]; exact hP)
    ⟨Nat.le_trans hS.1 (by rw [e1]; exact hz), fun q h1 h2 => by rw [e1, hk q (Nat.lt_of_lt_of_le h1 hS.1) h2]; exact hS.2.1 q h1 h2, fun q hq => by
      rcases List.mem_append.mp hq with h | h
      · exact hS.2.2 q h
      · exact hL q h⟩ T' rfl X'
  rw [← hp] at a1
  exact ⟨t2, go t2 a1, b1⟩
theorem g_pre (X : gC E w cc nL own h) {H : Heap} {locs : List Loc} {as : List Value} (b : va_P w.2.1 gcl (cw w σ) H) (c : va_S (inA w) (eS E).heap H locs) : ∀ U : State, U.heap = H → (eS E).WarmedH U.vm → va_Pc as (Wd w σ) as.toArray U :=
  fun U hU hW => ⟨rfl, by rw [hU]; exact b, va_K.moved hW.alike X.2.2.2.2.2.1, by rw [hU]; exact (X.2.2.2.2.2.2.2.1.warm hW).kept c.2.1⟩
theorem g_rm (X : gC E w cc nL own h) {h' maxL : Nat} (hh : h' < h) (hm : maxL ≤ 45) : (rmh h').frames + 1 ≤ (eR E).frames ∧ 8 + (maxL + 11) + (rmh h').locals ≤ (eR E).locals := by
  have h1 := X.2.2.2.2.2.2.2.2.1
  show h' + 1 ≤ _ ∧ 8 + (maxL + 11) + 64 * h' ≤ _
  omega
theorem g_callV (X : gC E w cc nL own h) {y : MethodName} {bytes : ByteArray} {maxL na : Nat} {ret : Option FieldType} {h' : Nat} {k idx N : Nat} {U : u_T} (As : List Value) {rest : List Value} {σ' : St} {r : Option Value} (hM : gM w (eL E) y bytes maxL ret h' (.ref (w.1 k) :: As) σ r σ') (hY : gY y bytes maxL ret na) (hi : Cond.instanceMethod y ∈ lw_tbl) (hs : Cond.selects y.cls y y ∈ lw_tbl) (hl : Cond.methodLink own idx y ∈ lw_tbl) (hk : k < NC) (h0 : kd k = 0) (hc : gcl[oc k]? = some (y.cls, U, N)) (hh : h' < h) (hna : As.length = na) (hd : decode cc pc = .ok (.invokevirtual idx, 3)) (hw : (rest.map fun v => v.category).sum ≤ 8) (hst : As.reverse ++ .ref (w.1 k) :: rest = st) (hp : pc + 3 = n)
    (kk : gW E w nL σ' n L (r.toList ++ rest)) : gW E w nL σ pc L st := by
  intro H locs ls a b c
  subst hst
  exact g_back (va_runV (As := As) (rest := rest) (C := y.cls) (Ts := gT) ⟨X.1, X.2.1, X.2.2.1, X.2.2.2.1, X.2.2.2.2.1⟩ hM ⟨callB_of na X.2.2.2.2.1 (gGood _ _ _ _ hY.1) rfl rfl rfl (X.word hY.2.1 rfl) (X.word hl rfl) hY.2.2.1 (g_rm X hh hY.2.2.2), X.word hi rfl, X.word hs rfl⟩ ⟨gM_blind, va_recv X.2.2.2.2.2.1 b hc (by rw [cw_at hk, ce_0 h0]), g_pre X b c⟩ rfl hna a.1 rfl (lv_room hw) hd ⟨by simpa using X.2.2.2.2.2.2.2.2.2.1, by simpa using X.2.2.2.2.2.2.2.2.2.2⟩) a c hp kk
theorem g_callS (X : gC E w cc nL own h) {y : MethodName} {bytes : ByteArray} {maxL na : Nat} {ret : Option FieldType} {h' : Nat} {idx : Nat} (As : List Value) {rest : List Value} {σ' : St} {r : Option Value} (hM : gM w (eL E) y bytes maxL ret h' As σ r σ') (hY : gY y bytes maxL ret na) (hs : Cond.static y ∈ lw_tbl) (hl : Cond.methodLink own idx y ∈ lw_tbl) (hh : h' < h) (hna : As.length = na) (hd : decode cc pc = .ok (.invokestatic idx, 3)) (hw : (rest.map fun v => v.category).sum ≤ 8) (hst : As.reverse ++ rest = st) (hp : pc + 3 = n)
    (kk : gW E w nL σ' n L (r.toList ++ rest)) : gW E w nL σ pc L st := by
  intro H locs ls a b c
  subst hst
  exact g_back (va_runS (As := As) (rest := rest) (Ts := gT) ⟨X.1, X.2.1, X.2.2.1, X.2.2.2.1, X.2.2.2.2.1⟩ hM ⟨callB_of na X.2.2.2.2.1 (gGood _ _ _ _ hY.1) rfl rfl rfl (X.word hY.2.1 rfl) (X.word hl rfl) hY.2.2.1 (g_rm X hh hY.2.2.2), X.word hs rfl⟩ ⟨gM_blind, g_pre X b c⟩ rfl hna a.1 rfl (lv_room hw) hd ⟨by simpa using X.2.2.2.2.2.2.2.2.2.1, by simpa using X.2.2.2.2.2.2.2.2.2.2⟩) a c hp kk
theorem g_callSN (X : gC E w cc nL own h) {y : MethodName} {bytes : ByteArray} {maxL na : Nat} {ret : Option FieldType} {h' : Nat} {idx : Nat} {host : String} (As : List Value) {rest : List Value} {σ' : St} {r : Option Value} (hM : gM w (eL E) y bytes maxL ret h' As σ r σ') (hY : gY y bytes maxL ret na) (hs : Cond.static y ∈ lw_tbl) (hl : va_Nw (.methodLinkNest own idx y host) (eS E)) (hh : h' < h) (hna : As.length = na) (hd : decode cc pc = .ok (.invokestatic idx, 3)) (hw : (rest.map fun v => v.category).sum ≤ 8) (hst : As.reverse ++ rest = st) (hp : pc + 3 = n)
    (kk : gW E w nL σ' n L (r.toList ++ rest)) : gW E w nL σ pc L st := by
  intro H locs ls a b c
  subst hst
  exact g_back (va_runSN (As := As) (rest := rest) (Ts := gT) ⟨X.1, X.2.1, X.2.2.1, X.2.2.2.1, X.2.2.2.2.1⟩ hM ⟨va_cnB na X.2.2.2.2.1 (gGood _ _ _ _ hY.1) rfl rfl rfl hl (X.word hY.2.1 rfl) hY.2.2.1 (g_rm X hh hY.2.2.2), X.word hs rfl, trivial⟩ ⟨gM_blind, g_pre X b c⟩ rfl hna a.1 rfl (lv_room hw) hd ⟨by simpa using X.2.2.2.2.2.2.2.2.2.1, by simpa using X.2.2.2.2.2.2.2.2.2.2⟩) a c hp kk
end G
end
section
/-! small pieces that the methods' functions are made of -/
def ck {R : Type} (b : Bool) (k : Option R) : Option R := if b = true then k else none
theorem ck_e {R : Type} {b : Bool} {k : Option R} {r : R} (h : ck b k = some r) : b = true ∧ k = some r := by
  unfold ck at h
  by_cases hb : b = true
  · rw [if_pos hb] at h; exact ⟨hb, h⟩
  · rw [if_neg hb] at h; cases h
def lE {A R : Type} (e : A) (k : A → R) : R := k e
theorem lE_c {A R : Type} {e x : A} {k : A → R} {r : R} (e1 : x = e) (h : lE e k = r) : k x = r := by subst e1; exact h
def bd {A R : Type} (m : Option (A × St)) (k : A → St → Option R) : Option R := match m with
  | none => none
  | some q => k q.1 q.2
theorem bd_e {A R : Type} {m : Option (A × St)} {k : A → St → Option R} {r : R} (h : bd m k = some r) : ∃ a σ, m = some (a, σ) ∧ k a σ = some r := by
  cases m with
  | none => cases h
  | some q => exact ⟨q.1, q.2, rfl, h⟩
def bv {R : Type} (m : Option St) (k : St → Option R) : Option R := match m with
  | none => none
  | some q => k q
theorem bv_e {R : Type} {m : Option St} {k : St → Option R} {r : R} (h : bv m k = some r) : ∃ σ, m = some σ ∧ k σ = some r := by
  cases m with
  | none => cases h
  | some q => exact ⟨q, rfl, h⟩
def ib (i : Int32) (n : Nat) : Bool := decide (¬ (i < 0 ∨ n ≤ i.toNatClampNeg))
theorem ib_e {i : Int32} {n : Nat} (h : ib i n = true) : vp_in i n := by
  have h1 : ¬ (i < 0 ∨ n ≤ i.toNatClampNeg) := of_decide_eq_true h
  exact h1
theorem if_t {R : Type} {c : Prop} [Decidable c] {a b r : R} (hc : c) (h : (if c then a else b) = r) : a = r := by rw [if_pos hc] at h; exact h
theorem if_f {R : Type} {c : Prop} [Decidable c] {a b r : R} (hc : ¬ c) (h : (if c then a else b) = r) : b = r := by rw [if_neg hc] at h; exact h
theorem rt_e {A B : Type} {a c : A} {b d : B} (h : some (a, b) = some (c, d)) : a = c ∧ b = d := by cases h; exact ⟨rfl, rfl⟩
theorem rv_e {A : Type} {a c : A} (h : some a = some c) : a = c := by cases h; rfl
def isB (x : Int32) : Bool := x == 0 || x == 1
theorem isB_e {x : Int32} (h : isB x = true) : narrow .boolean (.int x) = .int x := by
  unfold isB at h
  rw [Bool.or_eq_true] at h
  rcases h with h | h
  · rw [eq_of_beq h]; rfl
  · rw [eq_of_beq h]; rfl
/-- a loop: so many turns at most -/
def lp {F : Type} (z : F) (body : F → F) : Nat → F
  | 0 => z
  | f + 1 => body (lp z body f)
theorem lp_ind {F : Type} {z : F} {body : F → F} (P : F → Prop) (h0 : P z) (hs : ∀ k, P k → P (body k)) : ∀ f, P (lp z body f)
  | 0 => h0
  | f + 1 => hs _ (lp_ind P h0 hs f)
def FU : Nat := 1000
theorem lle_0 {L : List (Option Value)} : lle [] L := trivial
theorem lle_s {v : Value} {t T : List (Option Value)} (h : lle t T) : lle (some v :: t) (some v :: T) := ⟨rfl, h⟩
theorem lle_k {x : Option Value} {t T : List (Option Value)} (h : lle t T) : lle (none :: t) (x :: T) := h
theorem swo {x : Int32} {lo hi : Int} (h : ∀ z : Int, lo ≤ z → z ≤ hi → x.toInt ≠ z) : x.toInt < lo ∨ hi < x.toInt := by
  by_cases h1 : x.toInt < lo
  · exact Or.inl h1
  · by_cases h2 : hi < x.toInt
    · exact Or.inr h2
    · exact absurd rfl (h x.toInt (by omega) (by omega))
theorem sw1 {x y : Int32} {z : Int} (h : ¬ x = y) (hy : y.toInt = z) : x.toInt ≠ z := fun e => h (Int32.toInt_inj.mp (e.trans hy.symm))
/-! the games, the plans, the rows handed about -/
def isG (g : Nat) : Bool := g == 10 || g == 28
theorem isG_e {g : Nat} (h : isG g = true) : g = 10 ∨ g = 28 := by simpa [isG] using h
def isP (q : Nat) : Bool := q == 4 || q == 5
theorem isP_e {q : Nat} (h : isP q = true) : q = 4 ∨ q = 5 := by simpa [isP] using h
def isL (a : Nat) : Bool := decide (a < NC) && (kd a == 4 && ln a == 60)
theorem isL_e {a : Nat} (h : isL a = true) : a < NC ∧ kd a = 4 ∧ ln a = 60 := by simpa [isL] using h
def isI (a : Nat) : Bool := decide (a < NC) && (kd a == 1 && decide (ln a < 2147483648))
theorem isI_e {a : Nat} (h : isI a = true) : a < NC ∧ kd a = 1 ∧ ln a = ln a := by
  have h1 : a < NC ∧ kd a = 1 ∧ ln a < 2147483648 := by simpa [isI] using h
  exact ⟨h1.1, h1.2.1, rfl⟩
def isJ (a : Nat) : Bool := decide (a < NC) && (kd a == 4 && decide (ln a < 2147483648))
theorem isJ_e {a : Nat} (h : isJ a = true) : a < NC ∧ kd a = 4 ∧ ln a = ln a := by
  have h1 : a < NC ∧ kd a = 4 ∧ ln a < 2147483648 := by simpa [isJ] using h
  exact ⟨h1.1, h1.2.1, rfl⟩

theorem ar_11 : 11 < NC ∧ kd 11 = 1 ∧ ln 11 = 60 := by decide
theorem ar_12 : 12 < NC ∧ kd 12 = 1 ∧ ln 12 = 60 := by decide
theorem ar_13 : 13 < NC ∧ kd 13 = 1 ∧ ln 13 = 60 := by decide
theorem ar_14 : 14 < NC ∧ kd 14 = 1 ∧ ln 14 = 60 := by decide
theorem ar_15 : 15 < NC ∧ kd 15 = 1 ∧ ln 15 = 60 := by decide
theorem ar_16 : 16 < NC ∧ kd 16 = 1 ∧ ln 16 = 60 := by decide
theorem ar_17 : 17 < NC ∧ kd 17 = 1 ∧ ln 17 = 60 := by decide
theorem ar_18 : 18 < NC ∧ kd 18 = 1 ∧ ln 18 = 60 := by decide
theorem ar_19 : 19 < NC ∧ kd 19 = 1 ∧ ln 19 = 240 := by decide
theorem ar_20 : 20 < NC ∧ kd 20 = 1 ∧ ln 20 = 60 := by decide
theorem ar_21 : 21 < NC ∧ kd 21 = 1 ∧ ln 21 = 120 := by decide
theorem ar_22 : 22 < NC ∧ kd 22 = 4 ∧ ln 22 = 120 := by decide
theorem ar_23 : 23 < NC ∧ kd 23 = 1 ∧ ln 23 = 10 := by decide
theorem ar_24 : 24 < NC ∧ kd 24 = 1 ∧ ln 24 = 10 := by decide
theorem ar_25 : 25 < NC ∧ kd 25 = 1 ∧ ln 25 = 10 := by decide
theorem ar_26 : 26 < NC ∧ kd 26 = 1 ∧ ln 26 = 10 := by decide
theorem ar_27 : 27 < NC ∧ kd 27 = 3 ∧ ln 27 = 2 := by decide
theorem ar_29 : 29 < NC ∧ kd 29 = 1 ∧ ln 29 = 60 := by decide
theorem ar_30 : 30 < NC ∧ kd 30 = 1 ∧ ln 30 = 60 := by decide
theorem ar_31 : 31 < NC ∧ kd 31 = 1 ∧ ln 31 = 60 := by decide
theorem ar_32 : 32 < NC ∧ kd 32 = 1 ∧ ln 32 = 60 := by decide
theorem ar_33 : 33 < NC ∧ kd 33 = 1 ∧ ln 33 = 60 := by decide
theorem ar_34 : 34 < NC ∧ kd 34 = 1 ∧ ln 34 = 60 := by decide
theorem ar_35 : 35 < NC ∧ kd 35 = 1 ∧ ln 35 = 60 := by decide
theorem ar_36 : 36 < NC ∧ kd 36 = 1 ∧ ln 36 = 60 := by decide
theorem ar_37 : 37 < NC ∧ kd 37 = 1 ∧ ln 37 = 240 := by decide
theorem ar_38 : 38 < NC ∧ kd 38 = 1 ∧ ln 38 = 60 := by decide
theorem ar_39 : 39 < NC ∧ kd 39 = 1 ∧ ln 39 = 120 := by decide
theorem ar_40 : 40 < NC ∧ kd 40 = 4 ∧ ln 40 = 120 := by decide
theorem ar_41 : 41 < NC ∧ kd 41 = 1 ∧ ln 41 = 10 := by decide
theorem ar_42 : 42 < NC ∧ kd 42 = 1 ∧ ln 42 = 10 := by decide
theorem ar_43 : 43 < NC ∧ kd 43 = 1 ∧ ln 43 = 10 := by decide
theorem ar_44 : 44 < NC ∧ kd 44 = 1 ∧ ln 44 = 10 := by decide
theorem ar_45 : 45 < NC ∧ kd 45 = 3 ∧ ln 45 = 2 := by decide
theorem ar_46 : 46 < NC ∧ kd 46 = 4 ∧ ln 46 = 60 := by decide
theorem ar_47 : 47 < NC ∧ kd 47 = 1 ∧ ln 47 = 8 := by decide
theorem ar_48 : 48 < NC ∧ kd 48 = 1 ∧ ln 48 = 8 := by decide
theorem ar_49 : 49 < NC ∧ kd 49 = 1 ∧ ln 49 = 320 := by decide
theorem ar_50 : 50 < NC ∧ kd 50 = 2 ∧ ln 50 = 600 := by decide
theorem ar_51 : 51 < NC ∧ kd 51 = 1 ∧ ln 51 = 30 := by decide
theorem ar_52 : 52 < NC ∧ kd 52 = 1 ∧ ln 52 = 30 := by decide
theorem ar_53 : 53 < NC ∧ kd 53 = 4 ∧ ln 53 = 60 := by decide
theorem ar_54 : 54 < NC ∧ kd 54 = 1 ∧ ln 54 = 60 := by decide
theorem ar_55 : 55 < NC ∧ kd 55 = 1 ∧ ln 55 = 60 := by decide
theorem ar_56 : 56 < NC ∧ kd 56 = 4 ∧ ln 56 = 180 := by decide
theorem ar_57 : 57 < NC ∧ kd 57 = 1 ∧ ln 57 = 60 := by decide
theorem ar_58 : 58 < NC ∧ kd 58 = 1 ∧ ln 58 = 600 := by decide
theorem ar_59 : 59 < NC ∧ kd 59 = 4 ∧ ln 59 = 60 := by decide
theorem ar_60 : 60 < NC ∧ kd 60 = 4 ∧ ln 60 = 60 := by decide
theorem ar_61 : 61 < NC ∧ kd 61 = 4 ∧ ln 61 = 60 := by decide
theorem ar_62 : 62 < NC ∧ kd 62 = 1 ∧ ln 62 = 16 := by decide
theorem ar_63 : 63 < NC ∧ kd 63 = 1 ∧ ln 63 = 8 := by decide
theorem ar_64 : 64 < NC ∧ kd 64 = 1 ∧ ln 64 = 8 := by decide
theorem ar_65 : 65 < NC ∧ kd 65 = 1 ∧ ln 65 = 320 := by decide
theorem ar_66 : 66 < NC ∧ kd 66 = 1 ∧ ln 66 = 600 := by decide
theorem ar_67 : 67 < NC ∧ kd 67 = 1 ∧ ln 67 = 120 := by decide
theorem ar_68 : 68 < NC ∧ kd 68 = 1 ∧ ln 68 = 120 := by decide
theorem ar_69 : 69 < NC ∧ kd 69 = 1 ∧ ln 69 = 120 := by decide
theorem ar_70 : 70 < NC ∧ kd 70 = 1 ∧ ln 70 = 120 := by decide
theorem ar_71 : 71 < NC ∧ kd 71 = 1 ∧ ln 71 = 120 := by decide
theorem ar_72 : 72 < NC ∧ kd 72 = 1 ∧ ln 72 = 120 := by decide
theorem ar_73 : 73 < NC ∧ kd 73 = 1 ∧ ln 73 = 120 := by decide
theorem ar_74 : 74 < NC ∧ kd 74 = 1 ∧ ln 74 = 120 := by decide
theorem ar_75 : 75 < NC ∧ kd 75 = 1 ∧ ln 75 = 480 := by decide
theorem ar_76 : 76 < NC ∧ kd 76 = 1 ∧ ln 76 = 20 := by decide
theorem ar_77 : 77 < NC ∧ kd 77 = 1 ∧ ln 77 = 20 := by decide
theorem ar_78 : 78 < NC ∧ kd 78 = 1 ∧ ln 78 = 30 := by decide
theorem ar_79 : 79 < NC ∧ kd 79 = 1 ∧ ln 79 = 600 := by decide
theorem ar_80 : 80 < NC ∧ kd 80 = 1 ∧ ln 80 = 16 := by decide
theorem ar_81 : 81 < NC ∧ kd 81 = 1 ∧ ln 81 = 9 := by decide
theorem ar_82 : 82 < NC ∧ kd 82 = 1 ∧ ln 82 = 9 := by decide
theorem ar_83 : 83 < NC ∧ kd 83 = 1 ∧ ln 83 = 9 := by decide
theorem ar_84 : 84 < NC ∧ kd 84 = 4 ∧ ln 84 = 60 := by decide
theorem ar_85 : 85 < NC ∧ kd 85 = 4 ∧ ln 85 = 60 := by decide
theorem ar_86 : 86 < NC ∧ kd 86 = 1 ∧ ln 86 = 60 := by decide
theorem ar_87 : 87 < NC ∧ kd 87 = 4 ∧ ln 87 = 60 := by decide
theorem ar_88 : 88 < NC ∧ kd 88 = 1 ∧ ln 88 = 60 := by decide
theorem ga_1 {g : Nat} (hg : isG g = true) : g + 1 < NC ∧ kd (g + 1) = 1 ∧ ln (g + 1) = 60 := by rcases isG_e hg with rfl | rfl <;> decide
theorem ga_2 {g : Nat} (hg : isG g = true) : g + 2 < NC ∧ kd (g + 2) = 1 ∧ ln (g + 2) = 60 := by rcases isG_e hg with rfl | rfl <;> decide
theorem ga_3 {g : Nat} (hg : isG g = true) : g + 3 < NC ∧ kd (g + 3) = 1 ∧ ln (g + 3) = 60 := by rcases isG_e hg with rfl | rfl <;> decide
theorem ga_4 {g : Nat} (hg : isG g = true) : g + 4 < NC ∧ kd (g + 4) = 1 ∧ ln (g + 4) = 60 := by rcases isG_e hg with rfl | rfl <;> decide
theorem ga_5 {g : Nat} (hg : isG g = true) : g + 5 < NC ∧ kd (g + 5) = 1 ∧ ln (g + 5) = 60 := by rcases isG_e hg with rfl | rfl <;> decide
theorem ga_6 {g : Nat} (hg : isG g = true) : g + 6 < NC ∧ kd (g + 6) = 1 ∧ ln (g + 6) = 60 := by rcases isG_e hg with rfl | rfl <;> decide
theorem ga_7 {g : Nat} (hg : isG g = true) : g + 7 < NC ∧ kd (g + 7) = 1 ∧ ln (g + 7) = 60 := by rcases isG_e hg with rfl | rfl <;> decide
theorem ga_8 {g : Nat} (hg : isG g = true) : g + 8 < NC ∧ kd (g + 8) = 1 ∧ ln (g + 8) = 60 := by rcases isG_e hg with rfl | rfl <;> decide
theorem ga_9 {g : Nat} (hg : isG g = true) : g + 9 < NC ∧ kd (g + 9) = 1 ∧ ln (g + 9) = 240 := by rcases isG_e hg with rfl | rfl <;> decide
theorem ga_10 {g : Nat} (hg : isG g = true) : g + 10 < NC ∧ kd (g + 10) = 1 ∧ ln (g + 10) = 60 := by rcases isG_e hg with rfl | rfl <;> decide
theorem ga_11 {g : Nat} (hg : isG g = true) : g + 11 < NC ∧ kd (g + 11) = 1 ∧ ln (g + 11) = 120 := by rcases isG_e hg with rfl | rfl <;> decide
theorem ga_12 {g : Nat} (hg : isG g = true) : g + 12 < NC ∧ kd (g + 12) = 4 ∧ ln (g + 12) = 120 := by rcases isG_e hg with rfl | rfl <;> decide
theorem ga_13 {g : Nat} (hg : isG g = true) : g + 13 < NC ∧ kd (g + 13) = 1 ∧ ln (g + 13) = 10 := by rcases isG_e hg with rfl | rfl <;> decide
theorem ga_14 {g : Nat} (hg : isG g = true) : g + 14 < NC ∧ kd (g + 14) = 1 ∧ ln (g + 14) = 10 := by rcases isG_e hg with rfl | rfl <;> decide
theorem ga_15 {g : Nat} (hg : isG g = true) : g + 15 < NC ∧ kd (g + 15) = 1 ∧ ln (g + 15) = 10 := by rcases isG_e hg with rfl | rfl <;> decide
theorem ga_16 {g : Nat} (hg : isG g = true) : g + 16 < NC ∧ kd (g + 16) = 1 ∧ ln (g + 16) = 10 := by rcases isG_e hg with rfl | rfl <;> decide
theorem ga_17 {g : Nat} (hg : isG g = true) : g + 17 < NC ∧ kd (g + 17) = 3 ∧ ln (g + 17) = 2 := by rcases isG_e hg with rfl | rfl <;> decide
theorem pa_47 {q : Nat} (hq : isP q = true) : q + 47 < NC ∧ kd (q + 47) = 1 ∧ ln (q + 47) = 30 := by rcases isP_e hq with rfl | rfl <;> decide
theorem uw_0 : ∀ t ∈ u_ws RX0 TX0 2, t ∈ gT := by
  have h : (u_ws RX0 TX0 2).all (fun t => decide (t ∈ lw_tbl) && goodWord t) = true := by decide +kernel
  intro t ht
  have h1 := List.all_eq_true.mp h t ht
  simp only [Bool.and_eq_true, decide_eq_true_eq] at h1
  exact gT_mem h1.1 h1.2
theorem uw_1 : ∀ t ∈ u_ws RX1 TX1 18, t ∈ gT := by
  have h : (u_ws RX1 TX1 18).all (fun t => decide (t ∈ lw_tbl) && goodWord t) = true := by decide +kernel
  intro t ht
  have h1 := List.all_eq_true.mp h t ht
  simp only [Bool.and_eq_true, decide_eq_true_eq] at h1
  exact gT_mem h1.1 h1.2
theorem uw_2 : ∀ t ∈ u_ws RX2 TX2 6, t ∈ gT := by
  have h : (u_ws RX2 TX2 6).all (fun t => decide (t ∈ lw_tbl) && goodWord t) = true := by decide +kernel
  intro t ht
  have h1 := List.all_eq_true.mp h t ht
  simp only [Bool.and_eq_true, decide_eq_true_eq] at h1
  exact gT_mem h1.1 h1.2
theorem uw_3 : ∀ t ∈ u_ws RX3 TX3 1, t ∈ gT := by
  have h : (u_ws RX3 TX3 1).all (fun t => decide (t ∈ lw_tbl) && goodWord t) = true := by decide +kernel
  intro t ht
  have h1 := List.all_eq_true.mp h t ht
  simp only [Bool.and_eq_true, decide_eq_true_eq] at h1
  exact gT_mem h1.1 h1.2
theorem uw_4 : ∀ t ∈ u_ws RX4 TX4 2, t ∈ gT := by
  have h : (u_ws RX4 TX4 2).all (fun t => decide (t ∈ lw_tbl) && goodWord t) = true := by decide +kernel
  intro t ht
  have h1 := List.all_eq_true.mp h t ht
  simp only [Bool.and_eq_true, decide_eq_true_eq] at h1
  exact gT_mem h1.1 h1.2
theorem uw_5 : ∀ t ∈ u_ws RX5 TX5 3, t ∈ gT := by
  have h : (u_ws RX5 TX5 3).all (fun t => decide (t ∈ lw_tbl) && goodWord t) = true := by decide +kernel
  intro t ht
  have h1 := List.all_eq_true.mp h t ht
  simp only [Bool.and_eq_true, decide_eq_true_eq] at h1
  exact gT_mem h1.1 h1.2
theorem uw_6 : ∀ t ∈ u_ws RX6 TX6 7, t ∈ gT := by
  have h : (u_ws RX6 TX6 7).all (fun t => decide (t ∈ lw_tbl) && goodWord t) = true := by decide +kernel
  intro t ht
  have h1 := List.all_eq_true.mp h t ht
  simp only [Bool.and_eq_true, decide_eq_true_eq] at h1
  exact gT_mem h1.1 h1.2
theorem uw_7 : ∀ t ∈ u_ws RX7 TX7 6, t ∈ gT := by
  have h : (u_ws RX7 TX7 6).all (fun t => decide (t ∈ lw_tbl) && goodWord t) = true := by decide +kernel
  intro t ht
  have h1 := List.all_eq_true.mp h t ht
  simp only [Bool.and_eq_true, decide_eq_true_eq] at h1
  exact gT_mem h1.1 h1.2
theorem uw_8 : ∀ t ∈ u_ws RX8 TX8 12, t ∈ gT := by
  have h : (u_ws RX8 TX8 12).all (fun t => decide (t ∈ lw_tbl) && goodWord t) = true := by decide +kernel
  intro t ht
  have h1 := List.all_eq_true.mp h t ht
  simp only [Bool.and_eq_true, decide_eq_true_eq] at h1
  exact gT_mem h1.1 h1.2
theorem uw_9 : ∀ t ∈ u_ws RX9 TX9 40, t ∈ gT := by
  have h : (u_ws RX9 TX9 40).all (fun t => decide (t ∈ lw_tbl) && goodWord t) = true := by decide +kernel
  intro t ht
  have h1 := List.all_eq_true.mp h t ht
  simp only [Bool.and_eq_true, decide_eq_true_eq] at h1
  exact gT_mem h1.1 h1.2
section LK
variable {E : gE} {w : wT} {cc : ByteArray} {nL : Nat} {h : Nat} {σ : St} {pc n : Nat} {L : List (Option Value)} {st : List Value}
theorem gl_RX5_9 : Cond.fieldLink RX5 9 RX5 (TX5 0).2.1 (TX5 0).2.2.1 ∈ lw_tbl := tb_in 36 (by decide +kernel)
theorem gf_RX5_9 (X : gC E w cc nL RX5 h) (hd : decode cc pc = .ok (.getfield 9, 3)) (hp : pc + 3 = n) (kk : gW E w nL σ n L (.ref (w.1 47) :: st)) : gW E w nL σ pc L (.ref (w.1 1) :: st) := g_get X (k := 1) (j := 0) (by decide) rfl rfl (by decide) rfl uw_5 gl_RX5_9 rfl hd hp kk
theorem gl_RX8_108 : Cond.fieldLink RX8 108 RX5 (TX5 0).2.1 (TX5 0).2.2.1 ∈ lw_tbl := tb_in 37 (by decide +kernel)
theorem gf_RX8_108 (X : gC E w cc nL RX8 h) (hd : decode cc pc = .ok (.getfield 108, 3)) (hp : pc + 3 = n) (kk : gW E w nL σ n L (.ref (w.1 47) :: st)) : gW E w nL σ pc L (.ref (w.1 1) :: st) := g_get X (k := 1) (j := 0) (by decide) rfl rfl (by decide) rfl uw_5 gl_RX8_108 rfl hd hp kk
theorem gl_RX5_15 : Cond.fieldLink RX5 15 RX5 (TX5 1).2.1 (TX5 1).2.2.1 ∈ lw_tbl := tb_in 38 (by decide +kernel)
theorem gf_RX5_15 (X : gC E w cc nL RX5 h) (hd : decode cc pc = .ok (.getfield 15, 3)) (hp : pc + 3 = n) (kk : gW E w nL σ n L (.ref (w.1 48) :: st)) : gW E w nL σ pc L (.ref (w.1 1) :: st) := g_get X (k := 1) (j := 1) (by decide) rfl rfl (by decide) rfl uw_5 gl_RX5_15 rfl hd hp kk
theorem gl_RX5_18 : Cond.fieldLink RX5 18 RX5 (TX5 2).2.1 (TX5 2).2.2.1 ∈ lw_tbl := tb_in 39 (by decide +kernel)
theorem gf_RX5_18 (X : gC E w cc nL RX5 h) (hd : decode cc pc = .ok (.getfield 18, 3)) (hp : pc + 3 = n) (kk : gW E w nL σ n L (.ref (w.1 49) :: st)) : gW E w nL σ pc L (.ref (w.1 1) :: st) := g_get X (k := 1) (j := 2) (by decide) rfl rfl (by decide) rfl uw_5 gl_RX5_18 rfl hd hp kk
theorem gl_RX7_9 : Cond.fieldLink RX7 9 RX7 (TX7 0).2.1 (TX7 0).2.2.1 ∈ lw_tbl := tb_in 54 (by decide +kernel)
theorem gf_RX7_9 (X : gC E w cc nL RX7 h) (hd : decode cc pc = .ok (.getfield 9, 3)) (hp : pc + 3 = n) (kk : gW E w nL σ n L (.ref (w.1 50) :: st)) : gW E w nL σ pc L (.ref (w.1 2) :: st) := g_get X (k := 2) (j := 0) (by decide) rfl rfl (by decide) rfl uw_7 gl_RX7_9 rfl hd hp kk
theorem gl_RX7_15 : Cond.fieldLink RX7 15 RX7 (TX7 1).2.1 (TX7 1).2.2.1 ∈ lw_tbl := tb_in 55 (by decide +kernel)
theorem gf_RX7_15 (X : gC E w cc nL RX7 h) (hd : decode cc pc = .ok (.getfield 15, 3)) (hp : pc + 3 = n) (kk : gW E w nL σ n L (.int (rF σ 2) :: st)) : gW E w nL σ pc L (.ref (w.1 2) :: st) := g_get X (k := 2) (j := 1) (by decide) rfl rfl (by decide) rfl uw_7 gl_RX7_15 rfl hd hp kk
theorem gp_RX7_15 {x : Int32} (X : gC E w cc nL RX7 h) (hd : decode cc pc = .ok (.putfield 15, 3)) (hp : pc + 3 = n) (kk : ∀ σ1 : St, σ1 = stF σ 2 x → gW E w nL σ1 n L st) : gW E w nL σ pc L (.int x :: .ref (w.1 2) :: st) := g_putI X (k := 2) (j := 1) tyX7 tyX7_ok nmX7 (by decide) rfl rfl (by decide) rfl (by decide) uw_7 gl_RX7_15 rfl rfl rfl hd hp kk
theorem gl_RX8_120 : Cond.fieldLink RX8 120 RX7 (TX7 1).2.1 (TX7 1).2.2.1 ∈ lw_tbl := tb_in 56 (by decide +kernel)
theorem gf_RX8_120 (X : gC E w cc nL RX8 h) (hd : decode cc pc = .ok (.getfield 120, 3)) (hp : pc + 3 = n) (kk : gW E w nL σ n L (.int (rF σ 2) :: st)) : gW E w nL σ pc L (.ref (w.1 2) :: st) := g_get X (k := 2) (j := 1) (by decide) rfl rfl (by decide) rfl uw_7 gl_RX8_120 rfl hd hp kk
theorem gp_RX8_120 {x : Int32} (X : gC E w cc nL RX8 h) (hd : decode cc pc = .ok (.putfield 120, 3)) (hp : pc + 3 = n) (kk : ∀ σ1 : St, σ1 = stF σ 2 x → gW E w nL σ1 n L st) : gW E w nL σ pc L (.int x :: .ref (w.1 2) :: st) := g_putI X (k := 2) (j := 1) tyX7 tyX7_ok nmX7 (by decide) rfl rfl (by decide) rfl (by decide) uw_7 gl_RX8_120 rfl rfl rfl hd hp kk
theorem gl_RX7_19 : Cond.fieldLink RX7 19 RX7 (TX7 2).2.1 (TX7 2).2.2.1 ∈ lw_tbl := tb_in 57 (by decide +kernel)
theorem gf_RX7_19 (X : gC E w cc nL RX7 h) (hd : decode cc pc = .ok (.getfield 19, 3)) (hp : pc + 3 = n) (kk : gW E w nL σ n L (.int (rF σ 3) :: st)) : gW E w nL σ pc L (.ref (w.1 2) :: st) := g_get X (k := 2) (j := 2) (by decide) rfl rfl (by decide) rfl uw_7 gl_RX7_19 rfl hd hp kk
theorem gp_RX7_19 {x : Int32} (X : gC E w cc nL RX7 h) (hd : decode cc pc = .ok (.putfield 19, 3)) (hp : pc + 3 = n) (kk : ∀ σ1 : St, σ1 = stF σ 3 x → gW E w nL σ1 n L st) : gW E w nL σ pc L (.int x :: .ref (w.1 2) :: st) := g_putI X (k := 2) (j := 2) tyX7 tyX7_ok nmX7 (by decide) rfl rfl (by decide) rfl (by decide) uw_7 gl_RX7_19 rfl rfl rfl hd hp kk
theorem gl_RX4_33 : Cond.fieldLink RX4 33 RX7 (TX7 2).2.1 (TX7 2).2.2.1 ∈ lw_tbl := tb_in 58 (by decide +kernel)
theorem gf_RX4_33 (X : gC E w cc nL RX4 h) (hd : decode cc pc = .ok (.getfield 33, 3)) (hp : pc + 3 = n) (kk : gW E w nL σ n L (.int (rF σ 3) :: st)) : gW E w nL σ pc L (.ref (w.1 2) :: st) := g_get X (k := 2) (j := 2) (by decide) rfl rfl (by decide) rfl uw_7 gl_RX4_33 rfl hd hp kk
theorem gp_RX4_33 {x : Int32} (X : gC E w cc nL RX4 h) (hd : decode cc pc = .ok (.putfield 33, 3)) (hp : pc + 3 = n) (kk : ∀ σ1 : St, σ1 = stF σ 3 x → gW E w nL σ1 n L st) : gW E w nL σ pc L (.int x :: .ref (w.1 2) :: st) := g_putI X (k := 2) (j := 2) tyX7 tyX7_ok nmX7 (by decide) rfl rfl (by decide) rfl (by decide) uw_7 gl_RX4_33 rfl rfl rfl hd hp kk
theorem gl_RX7_22 : Cond.fieldLink RX7 22 RX7 (TX7 3).2.1 (TX7 3).2.2.1 ∈ lw_tbl := tb_in 59 (by decide +kernel)
theorem gf_RX7_22 (X : gC E w cc nL RX7 h) (hd : decode cc pc = .ok (.getfield 22, 3)) (hp : pc + 3 = n) (kk : gW E w nL σ n L (.int (rF σ 4) :: st)) : gW E w nL σ pc L (.ref (w.1 2) :: st) := g_get X (k := 2) (j := 3) (by decide) rfl rfl (by decide) rfl uw_7 gl_RX7_22 rfl hd hp kk
theorem gp_RX7_22 {x : Int32} (X : gC E w cc nL RX7 h) (hd : decode cc pc = .ok (.putfield 22, 3)) (hp : pc + 3 = n) (kk : ∀ σ1 : St, σ1 = stF σ 4 x → gW E w nL σ1 n L st) : gW E w nL σ pc L (.int x :: .ref (w.1 2) :: st) := g_putI X (k := 2) (j := 3) tyX7 tyX7_ok nmX7 (by decide) rfl rfl (by decide) rfl (by decide) uw_7 gl_RX7_22 rfl rfl rfl hd hp kk
theorem gl_RX4_46 : Cond.fieldLink RX4 46 RX7 (TX7 3).2.1 (TX7 3).2.2.1 ∈ lw_tbl := tb_in 60 (by decide +kernel)
theorem gf_RX4_46 (X : gC E w cc nL RX4 h) (hd : decode cc pc = .ok (.getfield 46, 3)) (hp : pc + 3 = n) (kk : gW E w nL σ n L (.int (rF σ 4) :: st)) : gW E w nL σ pc L (.ref (w.1 2) :: st) := g_get X (k := 2) (j := 3) (by decide) rfl rfl (by decide) rfl uw_7 gl_RX4_46 rfl hd hp kk
theorem gp_RX4_46 {x : Int32} (X : gC E w cc nL RX4 h) (hd : decode cc pc = .ok (.putfield 46, 3)) (hp : pc + 3 = n) (kk : ∀ σ1 : St, σ1 = stF σ 4 x → gW E w nL σ1 n L st) : gW E w nL σ pc L (.int x :: .ref (w.1 2) :: st) := g_putI X (k := 2) (j := 3) tyX7 tyX7_ok nmX7 (by decide) rfl rfl (by decide) rfl (by decide) uw_7 gl_RX4_46 rfl rfl rfl hd hp kk
theorem gl_RX7_25 : Cond.fieldLink RX7 25 RX7 (TX7 4).2.1 (TX7 4).2.2.1 ∈ lw_tbl := tb_in 61 (by decide +kernel)
theorem gf_RX7_25 (X : gC E w cc nL RX7 h) (hd : decode cc pc = .ok (.getfield 25, 3)) (hp : pc + 3 = n) (kk : gW E w nL σ n L (.int (rF σ 5) :: st)) : gW E w nL σ pc L (.ref (w.1 2) :: st) := g_get X (k := 2) (j := 4) (by decide) rfl rfl (by decide) rfl uw_7 gl_RX7_25 rfl hd hp kk
theorem gp_RX7_25 {x : Int32} (X : gC E w cc nL RX7 h) (hd : decode cc pc = .ok (.putfield 25, 3)) (hp : pc + 3 = n) (kk : ∀ σ1 : St, σ1 = stF σ 5 x → gW E w nL σ1 n L st) : gW E w nL σ pc L (.int x :: .ref (w.1 2) :: st) := g_putI X (k := 2) (j := 4) tyX7 tyX7_ok nmX7 (by decide) rfl rfl (by decide) rfl (by decide) uw_7 gl_RX7_25 rfl rfl rfl hd hp kk
theorem gl_RX4_73 : Cond.fieldLink RX4 73 RX7 (TX7 4).2.1 (TX7 4).2.2.1 ∈ lw_tbl := tb_in 62 (by decide +kernel)
theorem gf_RX4_73 (X : gC E w cc nL RX4 h) (hd : decode cc pc = .ok (.getfield 73, 3)) (hp : pc + 3 = n) (kk : gW E w nL σ n L (.int (rF σ 5) :: st)) : gW E w nL σ pc L (.ref (w.1 2) :: st) := g_get X (k := 2) (j := 4) (by decide) rfl rfl (by decide) rfl uw_7 gl_RX4_73 rfl hd hp kk
theorem gp_RX4_73 {x : Int32} (X : gC E w cc nL RX4 h) (hd : decode cc pc = .ok (.putfield 73, 3)) (hp : pc + 3 = n) (kk : ∀ σ1 : St, σ1 = stF σ 5 x → gW E w nL σ1 n L st) : gW E w nL σ pc L (.int x :: .ref (w.1 2) :: st) := g_putI X (k := 2) (j := 4) tyX7 tyX7_ok nmX7 (by decide) rfl rfl (by decide) rfl (by decide) uw_7 gl_RX4_73 rfl rfl rfl hd hp kk
theorem gl_RX7_28 : Cond.fieldLink RX7 28 RX7 (TX7 5).2.1 (TX7 5).2.2.1 ∈ lw_tbl := tb_in 63 (by decide +kernel)
theorem gf_RX7_28 (X : gC E w cc nL RX7 h) (hd : decode cc pc = .ok (.getfield 28, 3)) (hp : pc + 3 = n) (kk : gW E w nL σ n L (.int (rF σ 6) :: st)) : gW E w nL σ pc L (.ref (w.1 2) :: st) := g_get X (k := 2) (j := 5) (by decide) rfl rfl (by decide) rfl uw_7 gl_RX7_28 rfl hd hp kk
theorem gp_RX7_28 {x : Int32} (X : gC E w cc nL RX7 h) (hd : decode cc pc = .ok (.putfield 28, 3)) (hp : pc + 3 = n) (kk : ∀ σ1 : St, σ1 = stF σ 6 x → gW E w nL σ1 n L st) : gW E w nL σ pc L (.int x :: .ref (w.1 2) :: st) := g_putI X (k := 2) (j := 5) tyX7 tyX7_ok nmX7 (by decide) rfl rfl (by decide) rfl (by decide) uw_7 gl_RX7_28 rfl rfl rfl hd hp kk
theorem gl_RX4_9 : Cond.fieldLink RX4 9 RX4 (TX4 0).2.1 (TX4 0).2.2.1 ∈ lw_tbl := tb_in 84 (by decide +kernel)
theorem gf_RX4_9 (X : gC E w cc nL RX4 h) (hd : decode cc pc = .ok (.getfield 9, 3)) (hp : pc + 3 = n) (kk : gW E w nL σ n L (.int (rF σ 7) :: st)) : gW E w nL σ pc L (.ref (w.1 3) :: st) := g_get X (k := 3) (j := 0) (by decide) rfl rfl (by decide) rfl uw_4 gl_RX4_9 rfl hd hp kk
theorem gp_RX4_9 {x : Int32} (X : gC E w cc nL RX4 h) (hd : decode cc pc = .ok (.putfield 9, 3)) (hp : pc + 3 = n) (kk : ∀ σ1 : St, σ1 = stF σ 7 x → gW E w nL σ1 n L st) : gW E w nL σ pc L (.int x :: .ref (w.1 3) :: st) := g_putI X (k := 3) (j := 0) tyX4 tyX4_ok nmX4 (by decide) rfl rfl (by decide) rfl (by decide) uw_4 gl_RX4_9 rfl rfl rfl hd hp kk
theorem gl_RX8_133 : Cond.fieldLink RX8 133 RX4 (TX4 0).2.1 (TX4 0).2.2.1 ∈ lw_tbl := tb_in 85 (by decide +kernel)
theorem gf_RX8_133 (X : gC E w cc nL RX8 h) (hd : decode cc pc = .ok (.getfield 133, 3)) (hp : pc + 3 = n) (kk : gW E w nL σ n L (.int (rF σ 7) :: st)) : gW E w nL σ pc L (.ref (w.1 3) :: st) := g_get X (k := 3) (j := 0) (by decide) rfl rfl (by decide) rfl uw_4 gl_RX8_133 rfl hd hp kk
theorem gp_RX8_133 {x : Int32} (X : gC E w cc nL RX8 h) (hd : decode cc pc = .ok (.putfield 133, 3)) (hp : pc + 3 = n) (kk : ∀ σ1 : St, σ1 = stF σ 7 x → gW E w nL σ1 n L st) : gW E w nL σ pc L (.int x :: .ref (w.1 3) :: st) := g_putI X (k := 3) (j := 0) tyX4 tyX4_ok nmX4 (by decide) rfl rfl (by decide) rfl (by decide) uw_4 gl_RX8_133 rfl rfl rfl hd hp kk
theorem gl_RX4_15 : Cond.fieldLink RX4 15 RX4 (TX4 1).2.1 (TX4 1).2.2.1 ∈ lw_tbl := tb_in 86 (by decide +kernel)
theorem gf_RX4_15 (X : gC E w cc nL RX4 h) (hd : decode cc pc = .ok (.getfield 15, 3)) (hp : pc + 3 = n) (kk : gW E w nL σ n L (.int (rF σ 8) :: st)) : gW E w nL σ pc L (.ref (w.1 3) :: st) := g_get X (k := 3) (j := 1) (by decide) rfl rfl (by decide) rfl uw_4 gl_RX4_15 rfl hd hp kk
theorem gp_RX4_15 {x : Int32} (X : gC E w cc nL RX4 h) (hd : decode cc pc = .ok (.putfield 15, 3)) (hp : pc + 3 = n) (kk : ∀ σ1 : St, σ1 = stF σ 8 x → gW E w nL σ1 n L st) : gW E w nL σ pc L (.int x :: .ref (w.1 3) :: st) := g_putI X (k := 3) (j := 1) tyX4 tyX4_ok nmX4 (by decide) rfl rfl (by decide) rfl (by decide) uw_4 gl_RX4_15 rfl rfl rfl hd hp kk
theorem gl_RX8_138 : Cond.fieldLink RX8 138 RX4 (TX4 1).2.1 (TX4 1).2.2.1 ∈ lw_tbl := tb_in 87 (by decide +kernel)
theorem gf_RX8_138 (X : gC E w cc nL RX8 h) (hd : decode cc pc = .ok (.getfield 138, 3)) (hp : pc + 3 = n) (kk : gW E w nL σ n L (.int (rF σ 8) :: st)) : gW E w nL σ pc L (.ref (w.1 3) :: st) := g_get X (k := 3) (j := 1) (by decide) rfl rfl (by decide) rfl uw_4 gl_RX8_138 rfl hd hp kk
theorem gp_RX8_138 {x : Int32} (X : gC E w cc nL RX8 h) (hd : decode cc pc = .ok (.putfield 138, 3)) (hp : pc + 3 = n) (kk : ∀ σ1 : St, σ1 = stF σ 8 x → gW E w nL σ1 n L st) : gW E w nL σ pc L (.int x :: .ref (w.1 3) :: st) := g_putI X (k := 3) (j := 1) tyX4 tyX4_ok nmX4 (by decide) rfl rfl (by decide) rfl (by decide) uw_4 gl_RX8_138 rfl rfl rfl hd hp kk
theorem gl_RX3_9 : Cond.fieldLink RX3 9 RX3 (TX3 0).2.1 (TX3 0).2.2.1 ∈ lw_tbl := tb_in 99 (by decide +kernel)
theorem gf_RX3_9 {q : Nat} (hg : isP q = true) (X : gC E w cc nL RX3 h) (hd : decode cc pc = .ok (.getfield 9, 3)) (hp : pc + 3 = n) (kk : gW E w nL σ n L (.ref (w.1 (q + 47)) :: st)) : gW E w nL σ pc L (.ref (w.1 q) :: st) := by
  rcases isP_e hg with rfl | rfl
  · exact g_get X (k := 4) (j := 0) (by decide) rfl rfl (by decide) rfl uw_3 gl_RX3_9 rfl hd hp kk
  · exact g_get X (k := 5) (j := 0) (by decide) rfl rfl (by decide) rfl uw_3 gl_RX3_9 rfl hd hp kk
theorem gl_RX6_9 : Cond.fieldLink RX6 9 RX6 (TX6 0).2.1 (TX6 0).2.2.1 ∈ lw_tbl := tb_in 110 (by decide +kernel)
theorem gf_RX6_9 (X : gC E w cc nL RX6 h) (hd : decode cc pc = .ok (.getfield 9, 3)) (hp : pc + 3 = n) (kk : gW E w nL σ n L (.ref (w.1 53) :: st)) : gW E w nL σ pc L (.ref (w.1 6) :: st) := g_get X (k := 6) (j := 0) (by decide) rfl rfl (by decide) rfl uw_6 gl_RX6_9 rfl hd hp kk
theorem gl_RX6_15 : Cond.fieldLink RX6 15 RX6 (TX6 1).2.1 (TX6 1).2.2.1 ∈ lw_tbl := tb_in 111 (by decide +kernel)
theorem gf_RX6_15 (X : gC E w cc nL RX6 h) (hd : decode cc pc = .ok (.getfield 15, 3)) (hp : pc + 3 = n) (kk : gW E w nL σ n L (.ref (w.1 54) :: st)) : gW E w nL σ pc L (.ref (w.1 6) :: st) := g_get X (k := 6) (j := 1) (by decide) rfl rfl (by decide) rfl uw_6 gl_RX6_15 rfl hd hp kk
theorem gl_RX6_19 : Cond.fieldLink RX6 19 RX6 (TX6 2).2.1 (TX6 2).2.2.1 ∈ lw_tbl := tb_in 112 (by decide +kernel)
theorem gf_RX6_19 (X : gC E w cc nL RX6 h) (hd : decode cc pc = .ok (.getfield 19, 3)) (hp : pc + 3 = n) (kk : gW E w nL σ n L (.ref (w.1 55) :: st)) : gW E w nL σ pc L (.ref (w.1 6) :: st) := g_get X (k := 6) (j := 2) (by decide) rfl rfl (by decide) rfl uw_6 gl_RX6_19 rfl hd hp kk
theorem gl_RX6_22 : Cond.fieldLink RX6 22 RX6 (TX6 3).2.1 (TX6 3).2.2.1 ∈ lw_tbl := tb_in 113 (by decide +kernel)
theorem gf_RX6_22 (X : gC E w cc nL RX6 h) (hd : decode cc pc = .ok (.getfield 22, 3)) (hp : pc + 3 = n) (kk : gW E w nL σ n L (.ref (w.1 56) :: st)) : gW E w nL σ pc L (.ref (w.1 6) :: st) := g_get X (k := 6) (j := 3) (by decide) rfl rfl (by decide) rfl uw_6 gl_RX6_22 rfl hd hp kk
theorem gl_RX6_25 : Cond.fieldLink RX6 25 RX6 (TX6 4).2.1 (TX6 4).2.2.1 ∈ lw_tbl := tb_in 114 (by decide +kernel)
theorem gf_RX6_25 (X : gC E w cc nL RX6 h) (hd : decode cc pc = .ok (.getfield 25, 3)) (hp : pc + 3 = n) (kk : gW E w nL σ n L (.ref (w.1 57) :: st)) : gW E w nL σ pc L (.ref (w.1 6) :: st) := g_get X (k := 6) (j := 4) (by decide) rfl rfl (by decide) rfl uw_6 gl_RX6_25 rfl hd hp kk
theorem gl_RX6_29 : Cond.fieldLink RX6 29 RX6 (TX6 5).2.1 (TX6 5).2.2.1 ∈ lw_tbl := tb_in 115 (by decide +kernel)
theorem gf_RX6_29 (X : gC E w cc nL RX6 h) (hd : decode cc pc = .ok (.getfield 29, 3)) (hp : pc + 3 = n) (kk : gW E w nL σ n L (.int (rF σ 9) :: st)) : gW E w nL σ pc L (.ref (w.1 6) :: st) := g_get X (k := 6) (j := 5) (by decide) rfl rfl (by decide) rfl uw_6 gl_RX6_29 rfl hd hp kk
theorem gp_RX6_29 {x : Int32} (X : gC E w cc nL RX6 h) (hd : decode cc pc = .ok (.putfield 29, 3)) (hp : pc + 3 = n) (kk : ∀ σ1 : St, σ1 = stF σ 9 x → gW E w nL σ1 n L st) : gW E w nL σ pc L (.int x :: .ref (w.1 6) :: st) := g_putI X (k := 6) (j := 5) tyX6 tyX6_ok nmX6 (by decide) rfl rfl (by decide) rfl (by decide) uw_6 gl_RX6_29 rfl rfl rfl hd hp kk
theorem gl_RX6_33 : Cond.fieldLink RX6 33 RX6 (TX6 6).2.1 (TX6 6).2.2.1 ∈ lw_tbl := tb_in 116 (by decide +kernel)
theorem gf_RX6_33 (X : gC E w cc nL RX6 h) (hd : decode cc pc = .ok (.getfield 33, 3)) (hp : pc + 3 = n) (kk : gW E w nL σ n L (.int (rF σ 10) :: st)) : gW E w nL σ pc L (.ref (w.1 6) :: st) := g_get X (k := 6) (j := 6) (by decide) rfl rfl (by decide) rfl uw_6 gl_RX6_33 rfl hd hp kk
theorem gp_RX6_33 {x : Int32} (X : gC E w cc nL RX6 h) (hd : decode cc pc = .ok (.putfield 33, 3)) (hp : pc + 3 = n) (kk : ∀ σ1 : St, σ1 = stF σ 10 x → gW E w nL σ1 n L st) : gW E w nL σ pc L (.int x :: .ref (w.1 6) :: st) := g_putI X (k := 6) (j := 6) tyX6 tyX6_ok nmX6 (by decide) rfl rfl (by decide) rfl (by decide) uw_6 gl_RX6_33 rfl rfl rfl hd hp kk
theorem gl_RX2_9 : Cond.fieldLink RX2 9 RX2 (TX2 0).2.1 (TX2 0).2.2.1 ∈ lw_tbl := tb_in 141 (by decide +kernel)
theorem gf_RX2_9 (X : gC E w cc nL RX2 h) (hd : decode cc pc = .ok (.getfield 9, 3)) (hp : pc + 3 = n) (kk : gW E w nL σ n L (.int (rF σ 11) :: st)) : gW E w nL σ pc L (.ref (w.1 7) :: st) := g_get X (k := 7) (j := 0) (by decide) rfl rfl (by decide) rfl uw_2 gl_RX2_9 rfl hd hp kk
theorem gp_RX2_9 {x : Int32} (X : gC E w cc nL RX2 h) (hd : decode cc pc = .ok (.putfield 9, 3)) (hp : pc + 3 = n) (kk : ∀ σ1 : St, σ1 = stF σ 11 x → gW E w nL σ1 n L st) : gW E w nL σ pc L (.int x :: .ref (w.1 7) :: st) := g_putI X (k := 7) (j := 0) tyX2 tyX2_ok nmX2 (by decide) rfl rfl (by decide) rfl (by decide) uw_2 gl_RX2_9 rfl rfl rfl hd hp kk
theorem gl_RX8_242 : Cond.fieldLink RX8 242 RX2 (TX2 0).2.1 (TX2 0).2.2.1 ∈ lw_tbl := tb_in 142 (by decide +kernel)
theorem gf_RX8_242 (X : gC E w cc nL RX8 h) (hd : decode cc pc = .ok (.getfield 242, 3)) (hp : pc + 3 = n) (kk : gW E w nL σ n L (.int (rF σ 11) :: st)) : gW E w nL σ pc L (.ref (w.1 7) :: st) := g_get X (k := 7) (j := 0) (by decide) rfl rfl (by decide) rfl uw_2 gl_RX8_242 rfl hd hp kk
theorem gp_RX8_242 {x : Int32} (X : gC E w cc nL RX8 h) (hd : decode cc pc = .ok (.putfield 242, 3)) (hp : pc + 3 = n) (kk : ∀ σ1 : St, σ1 = stF σ 11 x → gW E w nL σ1 n L st) : gW E w nL σ pc L (.int x :: .ref (w.1 7) :: st) := g_putI X (k := 7) (j := 0) tyX2 tyX2_ok nmX2 (by decide) rfl rfl (by decide) rfl (by decide) uw_2 gl_RX8_242 rfl rfl rfl hd hp kk
theorem gl_RX2_15 : Cond.fieldLink RX2 15 RX2 (TX2 1).2.1 (TX2 1).2.2.1 ∈ lw_tbl := tb_in 143 (by decide +kernel)
theorem gf_RX2_15 (X : gC E w cc nL RX2 h) (hd : decode cc pc = .ok (.getfield 15, 3)) (hp : pc + 3 = n) (kk : gW E w nL σ n L (.ref (w.1 58) :: st)) : gW E w nL σ pc L (.ref (w.1 7) :: st) := g_get X (k := 7) (j := 1) (by decide) rfl rfl (by decide) rfl uw_2 gl_RX2_15 rfl hd hp kk
theorem gl_RX2_19 : Cond.fieldLink RX2 19 RX2 (TX2 2).2.1 (TX2 2).2.2.1 ∈ lw_tbl := tb_in 144 (by decide +kernel)
theorem gf_RX2_19 (X : gC E w cc nL RX2 h) (hd : decode cc pc = .ok (.getfield 19, 3)) (hp : pc + 3 = n) (kk : gW E w nL σ n L (.ref (w.1 59) :: st)) : gW E w nL σ pc L (.ref (w.1 7) :: st) := g_get X (k := 7) (j := 2) (by decide) rfl rfl (by decide) rfl uw_2 gl_RX2_19 rfl hd hp kk
theorem gl_RX2_23 : Cond.fieldLink RX2 23 RX2 (TX2 3).2.1 (TX2 3).2.2.1 ∈ lw_tbl := tb_in 145 (by decide +kernel)
theorem gf_RX2_23 (X : gC E w cc nL RX2 h) (hd : decode cc pc = .ok (.getfield 23, 3)) (hp : pc + 3 = n) (kk : gW E w nL σ n L (.ref (w.1 60) :: st)) : gW E w nL σ pc L (.ref (w.1 7) :: st) := g_get X (k := 7) (j := 3) (by decide) rfl rfl (by decide) rfl uw_2 gl_RX2_23 rfl hd hp kk
theorem gl_RX2_29 : Cond.fieldLink RX2 29 RX2 (TX2 4).2.1 (TX2 4).2.2.1 ∈ lw_tbl := tb_in 146 (by decide +kernel)
theorem gf_RX2_29 (X : gC E w cc nL RX2 h) (hd : decode cc pc = .ok (.getfield 29, 3)) (hp : pc + 3 = n) (kk : gW E w nL σ n L (.ref (w.1 5) :: st)) : gW E w nL σ pc L (.ref (w.1 7) :: st) := g_get X (k := 7) (j := 4) (by decide) rfl rfl (by decide) rfl uw_2 gl_RX2_29 rfl hd hp kk
theorem gl_RX2_33 : Cond.fieldLink RX2 33 RX2 (TX2 5).2.1 (TX2 5).2.2.1 ∈ lw_tbl := tb_in 147 (by decide +kernel)
theorem gf_RX2_33 (X : gC E w cc nL RX2 h) (hd : decode cc pc = .ok (.getfield 33, 3)) (hp : pc + 3 = n) (kk : gW E w nL σ n L (.ref (w.1 61) :: st)) : gW E w nL σ pc L (.ref (w.1 7) :: st) := g_get X (k := 7) (j := 5) (by decide) rfl rfl (by decide) rfl uw_2 gl_RX2_33 rfl hd hp kk
theorem gl_RX0_9 : Cond.fieldLink RX0 9 RX0 (TX0 0).2.1 (TX0 0).2.2.1 ∈ lw_tbl := tb_in 167 (by decide +kernel)
theorem gf_RX0_9 (X : gC E w cc nL RX0 h) (hd : decode cc pc = .ok (.getfield 9, 3)) (hp : pc + 3 = n) (kk : gW E w nL σ n L (.ref (w.1 62) :: st)) : gW E w nL σ pc L (.ref (w.1 8) :: st) := g_get X (k := 8) (j := 0) (by decide) rfl rfl (by decide) rfl uw_0 gl_RX0_9 rfl hd hp kk
theorem gl_RX8_279 : Cond.fieldLink RX8 279 RX0 (TX0 0).2.1 (TX0 0).2.2.1 ∈ lw_tbl := tb_in 168 (by decide +kernel)
theorem gf_RX8_279 (X : gC E w cc nL RX8 h) (hd : decode cc pc = .ok (.getfield 279, 3)) (hp : pc + 3 = n) (kk : gW E w nL σ n L (.ref (w.1 62) :: st)) : gW E w nL σ pc L (.ref (w.1 8) :: st) := g_get X (k := 8) (j := 0) (by decide) rfl rfl (by decide) rfl uw_0 gl_RX8_279 rfl hd hp kk
theorem gl_RX0_15 : Cond.fieldLink RX0 15 RX0 (TX0 1).2.1 (TX0 1).2.2.1 ∈ lw_tbl := tb_in 169 (by decide +kernel)
theorem gf_RX0_15 (X : gC E w cc nL RX0 h) (hd : decode cc pc = .ok (.getfield 15, 3)) (hp : pc + 3 = n) (kk : gW E w nL σ n L (.int (rF σ 12) :: st)) : gW E w nL σ pc L (.ref (w.1 8) :: st) := g_get X (k := 8) (j := 1) (by decide) rfl rfl (by decide) rfl uw_0 gl_RX0_15 rfl hd hp kk
theorem gp_RX0_15 {x : Int32} (X : gC E w cc nL RX0 h) (hd : decode cc pc = .ok (.putfield 15, 3)) (hp : pc + 3 = n) (kk : ∀ σ1 : St, σ1 = stF σ 12 x → gW E w nL σ1 n L st) : gW E w nL σ pc L (.int x :: .ref (w.1 8) :: st) := g_putI X (k := 8) (j := 1) tyX0 tyX0_ok nmX0 (by decide) rfl rfl (by decide) rfl (by decide) uw_0 gl_RX0_15 rfl rfl rfl hd hp kk
theorem gl_RX8_276 : Cond.fieldLink RX8 276 RX0 (TX0 1).2.1 (TX0 1).2.2.1 ∈ lw_tbl := tb_in 170 (by decide +kernel)
theorem gf_RX8_276 (X : gC E w cc nL RX8 h) (hd : decode cc pc = .ok (.getfield 276, 3)) (hp : pc + 3 = n) (kk : gW E w nL σ n L (.int (rF σ 12) :: st)) : gW E w nL σ pc L (.ref (w.1 8) :: st) := g_get X (k := 8) (j := 1) (by decide) rfl rfl (by decide) rfl uw_0 gl_RX8_276 rfl hd hp kk
theorem gp_RX8_276 {x : Int32} (X : gC E w cc nL RX8 h) (hd : decode cc pc = .ok (.putfield 276, 3)) (hp : pc + 3 = n) (kk : ∀ σ1 : St, σ1 = stF σ 12 x → gW E w nL σ1 n L st) : gW E w nL σ pc L (.int x :: .ref (w.1 8) :: st) := g_putI X (k := 8) (j := 1) tyX0 tyX0_ok nmX0 (by decide) rfl rfl (by decide) rfl (by decide) uw_0 gl_RX8_276 rfl rfl rfl hd hp kk
theorem gl_RX1_9 : Cond.fieldLink RX1 9 RX1 (TX1 0).2.1 (TX1 0).2.2.1 ∈ lw_tbl := tb_in 184 (by decide +kernel)
theorem gf_RX1_9 {g : Nat} (hg : isG g = true) (X : gC E w cc nL RX1 h) (hd : decode cc pc = .ok (.getfield 9, 3)) (hp : pc + 3 = n) (kk : gW E w nL σ n L (.int (rF σ (g + 10)) :: st)) : gW E w nL σ pc L (.ref (w.1 g) :: st) := by
  rcases isG_e hg with rfl | rfl
  · exact g_get X (k := 10) (j := 0) (by decide) rfl rfl (by decide) rfl uw_1 gl_RX1_9 rfl hd hp kk
  · exact g_get X (k := 28) (j := 0) (by decide) rfl rfl (by decide) rfl uw_1 gl_RX1_9 rfl hd hp kk
theorem gp_RX1_9 {g : Nat} {x : Int32} (hg : isG g = true) (X : gC E w cc nL RX1 h) (hd : decode cc pc = .ok (.putfield 9, 3)) (hp : pc + 3 = n) (kk : ∀ σ1 : St, σ1 = stF σ (g + 10) x → gW E w nL σ1 n L st) : gW E w nL σ pc L (.int x :: .ref (w.1 g) :: st) := by
  rcases isG_e hg with rfl | rfl
  · exact g_putI X (k := 10) (j := 0) tyX1 tyX1_ok nmX1 (by decide) rfl rfl (by decide) rfl (by decide) uw_1 gl_RX1_9 rfl rfl rfl hd hp kk
  · exact g_putI X (k := 28) (j := 0) tyX1 tyX1_ok nmX1 (by decide) rfl rfl (by decide) rfl (by decide) uw_1 gl_RX1_9 rfl rfl rfl hd hp kk
theorem gl_RX4_53 : Cond.fieldLink RX4 53 RX1 (TX1 0).2.1 (TX1 0).2.2.1 ∈ lw_tbl := tb_in 185 (by decide +kernel)
theorem gf_RX4_53 {g : Nat} (hg : isG g = true) (X : gC E w cc nL RX4 h) (hd : decode cc pc = .ok (.getfield 53, 3)) (hp : pc + 3 = n) (kk : gW E w nL σ n L (.int (rF σ (g + 10)) :: st)) : gW E w nL σ pc L (.ref (w.1 g) :: st) := by
  rcases isG_e hg with rfl | rfl
  · exact g_get X (k := 10) (j := 0) (by decide) rfl rfl (by decide) rfl uw_1 gl_RX4_53 rfl hd hp kk
  · exact g_get X (k := 28) (j := 0) (by decide) rfl rfl (by decide) rfl uw_1 gl_RX4_53 rfl hd hp kk
theorem gp_RX4_53 {g : Nat} {x : Int32} (hg : isG g = true) (X : gC E w cc nL RX4 h) (hd : decode cc pc = .ok (.putfield 53, 3)) (hp : pc + 3 = n) (kk : ∀ σ1 : St, σ1 = stF σ (g + 10) x → gW E w nL σ1 n L st) : gW E w nL σ pc L (.int x :: .ref (w.1 g) :: st) := by
  rcases isG_e hg with rfl | rfl
  · exact g_putI X (k := 10) (j := 0) tyX1 tyX1_ok nmX1 (by decide) rfl rfl (by decide) rfl (by decide) uw_1 gl_RX4_53 rfl rfl rfl hd hp kk
  · exact g_putI X (k := 28) (j := 0) tyX1 tyX1_ok nmX1 (by decide) rfl rfl (by decide) rfl (by decide) uw_1 gl_RX4_53 rfl rfl rfl hd hp kk
theorem gl_RX6_64 : Cond.fieldLink RX6 64 RX1 (TX1 0).2.1 (TX1 0).2.2.1 ∈ lw_tbl := tb_in 186 (by decide +kernel)
theorem gf_RX6_64 {g : Nat} (hg : isG g = true) (X : gC E w cc nL RX6 h) (hd : decode cc pc = .ok (.getfield 64, 3)) (hp : pc + 3 = n) (kk : gW E w nL σ n L (.int (rF σ (g + 10)) :: st)) : gW E w nL σ pc L (.ref (w.1 g) :: st) := by
  rcases isG_e hg with rfl | rfl
  · exact g_get X (k := 10) (j := 0) (by decide) rfl rfl (by decide) rfl uw_1 gl_RX6_64 rfl hd hp kk
  · exact g_get X (k := 28) (j := 0) (by decide) rfl rfl (by decide) rfl uw_1 gl_RX6_64 rfl hd hp kk
theorem gp_RX6_64 {g : Nat} {x : Int32} (hg : isG g = true) (X : gC E w cc nL RX6 h) (hd : decode cc pc = .ok (.putfield 64, 3)) (hp : pc + 3 = n) (kk : ∀ σ1 : St, σ1 = stF σ (g + 10) x → gW E w nL σ1 n L st) : gW E w nL σ pc L (.int x :: .ref (w.1 g) :: st) := by
  rcases isG_e hg with rfl | rfl
  · exact g_putI X (k := 10) (j := 0) tyX1 tyX1_ok nmX1 (by decide) rfl rfl (by decide) rfl (by decide) uw_1 gl_RX6_64 rfl rfl rfl hd hp kk
  · exact g_putI X (k := 28) (j := 0) tyX1 tyX1_ok nmX1 (by decide) rfl rfl (by decide) rfl (by decide) uw_1 gl_RX6_64 rfl rfl rfl hd hp kk
theorem gl_RX2_78 : Cond.fieldLink RX2 78 RX1 (TX1 0).2.1 (TX1 0).2.2.1 ∈ lw_tbl := tb_in 187 (by decide +kernel)
theorem gf_RX2_78 {g : Nat} (hg : isG g = true) (X : gC E w cc nL RX2 h) (hd : decode cc pc = .ok (.getfield 78, 3)) (hp : pc + 3 = n) (kk : gW E w nL σ n L (.int (rF σ (g + 10)) :: st)) : gW E w nL σ pc L (.ref (w.1 g) :: st) := by
  rcases isG_e hg with rfl | rfl
  · exact g_get X (k := 10) (j := 0) (by decide) rfl rfl (by decide) rfl uw_1 gl_RX2_78 rfl hd hp kk
  · exact g_get X (k := 28) (j := 0) (by decide) rfl rfl (by decide) rfl uw_1 gl_RX2_78 rfl hd hp kk
theorem gp_RX2_78 {g : Nat} {x : Int32} (hg : isG g = true) (X : gC E w cc nL RX2 h) (hd : decode cc pc = .ok (.putfield 78, 3)) (hp : pc + 3 = n) (kk : ∀ σ1 : St, σ1 = stF σ (g + 10) x → gW E w nL σ1 n L st) : gW E w nL σ pc L (.int x :: .ref (w.1 g) :: st) := by
  rcases isG_e hg with rfl | rfl
  · exact g_putI X (k := 10) (j := 0) tyX1 tyX1_ok nmX1 (by decide) rfl rfl (by decide) rfl (by decide) uw_1 gl_RX2_78 rfl rfl rfl hd hp kk
  · exact g_putI X (k := 28) (j := 0) tyX1 tyX1_ok nmX1 (by decide) rfl rfl (by decide) rfl (by decide) uw_1 gl_RX2_78 rfl rfl rfl hd hp kk
theorem gl_RX3_25 : Cond.fieldLink RX3 25 RX1 (TX1 0).2.1 (TX1 0).2.2.1 ∈ lw_tbl := tb_in 188 (by decide +kernel)
theorem gf_RX3_25 {g : Nat} (hg : isG g = true) (X : gC E w cc nL RX3 h) (hd : decode cc pc = .ok (.getfield 25, 3)) (hp : pc + 3 = n) (kk : gW E w nL σ n L (.int (rF σ (g + 10)) :: st)) : gW E w nL σ pc L (.ref (w.1 g) :: st) := by
  rcases isG_e hg with rfl | rfl
  · exact g_get X (k := 10) (j := 0) (by decide) rfl rfl (by decide) rfl uw_1 gl_RX3_25 rfl hd hp kk
  · exact g_get X (k := 28) (j := 0) (by decide) rfl rfl (by decide) rfl uw_1 gl_RX3_25 rfl hd hp kk
theorem gp_RX3_25 {g : Nat} {x : Int32} (hg : isG g = true) (X : gC E w cc nL RX3 h) (hd : decode cc pc = .ok (.putfield 25, 3)) (hp : pc + 3 = n) (kk : ∀ σ1 : St, σ1 = stF σ (g + 10) x → gW E w nL σ1 n L st) : gW E w nL σ pc L (.int x :: .ref (w.1 g) :: st) := by
  rcases isG_e hg with rfl | rfl
  · exact g_putI X (k := 10) (j := 0) tyX1 tyX1_ok nmX1 (by decide) rfl rfl (by decide) rfl (by decide) uw_1 gl_RX3_25 rfl rfl rfl hd hp kk
  · exact g_putI X (k := 28) (j := 0) tyX1 tyX1_ok nmX1 (by decide) rfl rfl (by decide) rfl (by decide) uw_1 gl_RX3_25 rfl rfl rfl hd hp kk
theorem gl_RX8_145 : Cond.fieldLink RX8 145 RX1 (TX1 0).2.1 (TX1 0).2.2.1 ∈ lw_tbl := tb_in 189 (by decide +kernel)
theorem gf_RX8_145 {g : Nat} (hg : isG g = true) (X : gC E w cc nL RX8 h) (hd : decode cc pc = .ok (.getfield 145, 3)) (hp : pc + 3 = n) (kk : gW E w nL σ n L (.int (rF σ (g + 10)) :: st)) : gW E w nL σ pc L (.ref (w.1 g) :: st) := by
  rcases isG_e hg with rfl | rfl
  · exact g_get X (k := 10) (j := 0) (by decide) rfl rfl (by decide) rfl uw_1 gl_RX8_145 rfl hd hp kk
  · exact g_get X (k := 28) (j := 0) (by decide) rfl rfl (by decide) rfl uw_1 gl_RX8_145 rfl hd hp kk
theorem gp_RX8_145 {g : Nat} {x : Int32} (hg : isG g = true) (X : gC E w cc nL RX8 h) (hd : decode cc pc = .ok (.putfield 145, 3)) (hp : pc + 3 = n) (kk : ∀ σ1 : St, σ1 = stF σ (g + 10) x → gW E w nL σ1 n L st) : gW E w nL σ pc L (.int x :: .ref (w.1 g) :: st) := by
  rcases isG_e hg with rfl | rfl
  · exact g_putI X (k := 10) (j := 0) tyX1 tyX1_ok nmX1 (by decide) rfl rfl (by decide) rfl (by decide) uw_1 gl_RX8_145 rfl rfl rfl hd hp kk
  · exact g_putI X (k := 28) (j := 0) tyX1 tyX1_ok nmX1 (by decide) rfl rfl (by decide) rfl (by decide) uw_1 gl_RX8_145 rfl rfl rfl hd hp kk
theorem gl_RX1_15 : Cond.fieldLink RX1 15 RX1 (TX1 1).2.1 (TX1 1).2.2.1 ∈ lw_tbl := tb_in 190 (by decide +kernel)
theorem gf_RX1_15 {g : Nat} (hg : isG g = true) (X : gC E w cc nL RX1 h) (hd : decode cc pc = .ok (.getfield 15, 3)) (hp : pc + 3 = n) (kk : gW E w nL σ n L (.ref (w.1 (g + 1)) :: st)) : gW E w nL σ pc L (.ref (w.1 g) :: st) := by
  rcases isG_e hg with rfl | rfl
  · exact g_get X (k := 10) (j := 1) (by decide) rfl rfl (by decide) rfl uw_1 gl_RX1_15 rfl hd hp kk
  · exact g_get X (k := 28) (j := 1) (by decide) rfl rfl (by decide) rfl uw_1 gl_RX1_15 rfl hd hp kk
theorem gl_RX3_34 : Cond.fieldLink RX3 34 RX1 (TX1 1).2.1 (TX1 1).2.2.1 ∈ lw_tbl := tb_in 191 (by decide +kernel)
theorem gf_RX3_34 {g : Nat} (hg : isG g = true) (X : gC E w cc nL RX3 h) (hd : decode cc pc = .ok (.getfield 34, 3)) (hp : pc + 3 = n) (kk : gW E w nL σ n L (.ref (w.1 (g + 1)) :: st)) : gW E w nL σ pc L (.ref (w.1 g) :: st) := by
  rcases isG_e hg with rfl | rfl
  · exact g_get X (k := 10) (j := 1) (by decide) rfl rfl (by decide) rfl uw_1 gl_RX3_34 rfl hd hp kk
  · exact g_get X (k := 28) (j := 1) (by decide) rfl rfl (by decide) rfl uw_1 gl_RX3_34 rfl hd hp kk
theorem gl_RX4_79 : Cond.fieldLink RX4 79 RX1 (TX1 1).2.1 (TX1 1).2.2.1 ∈ lw_tbl := tb_in 192 (by decide +kernel)
theorem gf_RX4_79 {g : Nat} (hg : isG g = true) (X : gC E w cc nL RX4 h) (hd : decode cc pc = .ok (.getfield 79, 3)) (hp : pc + 3 = n) (kk : gW E w nL σ n L (.ref (w.1 (g + 1)) :: st)) : gW E w nL σ pc L (.ref (w.1 g) :: st) := by
  rcases isG_e hg with rfl | rfl
  · exact g_get X (k := 10) (j := 1) (by decide) rfl rfl (by decide) rfl uw_1 gl_RX4_79 rfl hd hp kk
  · exact g_get X (k := 28) (j := 1) (by decide) rfl rfl (by decide) rfl uw_1 gl_RX4_79 rfl hd hp kk
theorem gl_RX8_151 : Cond.fieldLink RX8 151 RX1 (TX1 1).2.1 (TX1 1).2.2.1 ∈ lw_tbl := tb_in 193 (by decide +kernel)
theorem gf_RX8_151 {g : Nat} (hg : isG g = true) (X : gC E w cc nL RX8 h) (hd : decode cc pc = .ok (.getfield 151, 3)) (hp : pc + 3 = n) (kk : gW E w nL σ n L (.ref (w.1 (g + 1)) :: st)) : gW E w nL σ pc L (.ref (w.1 g) :: st) := by
  rcases isG_e hg with rfl | rfl
  · exact g_get X (k := 10) (j := 1) (by decide) rfl rfl (by decide) rfl uw_1 gl_RX8_151 rfl hd hp kk
  · exact g_get X (k := 28) (j := 1) (by decide) rfl rfl (by decide) rfl uw_1 gl_RX8_151 rfl hd hp kk
theorem gl_RX6_111 : Cond.fieldLink RX6 111 RX1 (TX1 1).2.1 (TX1 1).2.2.1 ∈ lw_tbl := tb_in 194 (by decide +kernel)
theorem gf_RX6_111 {g : Nat} (hg : isG g = true) (X : gC E w cc nL RX6 h) (hd : decode cc pc = .ok (.getfield 111, 3)) (hp : pc + 3 = n) (kk : gW E w nL σ n L (.ref (w.1 (g + 1)) :: st)) : gW E w nL σ pc L (.ref (w.1 g) :: st) := by
  rcases isG_e hg with rfl | rfl
  · exact g_get X (k := 10) (j := 1) (by decide) rfl rfl (by decide) rfl uw_1 gl_RX6_111 rfl hd hp kk
  · exact g_get X (k := 28) (j := 1) (by decide) rfl rfl (by decide) rfl uw_1 gl_RX6_111 rfl hd hp kk
theorem gl_RX1_19 : Cond.fieldLink RX1 19 RX1 (TX1 2).2.1 (TX1 2).2.2.1 ∈ lw_tbl := tb_in 195 (by decide +kernel)
theorem gf_RX1_19 {g : Nat} (hg : isG g = true) (X : gC E w cc nL RX1 h) (hd : decode cc pc = .ok (.getfield 19, 3)) (hp : pc + 3 = n) (kk : gW E w nL σ n L (.ref (w.1 (g + 2)) :: st)) : gW E w nL σ pc L (.ref (w.1 g) :: st) := by
  rcases isG_e hg with rfl | rfl
  · exact g_get X (k := 10) (j := 2) (by decide) rfl rfl (by decide) rfl uw_1 gl_RX1_19 rfl hd hp kk
  · exact g_get X (k := 28) (j := 2) (by decide) rfl rfl (by decide) rfl uw_1 gl_RX1_19 rfl hd hp kk
theorem gl_RX4_70 : Cond.fieldLink RX4 70 RX1 (TX1 2).2.1 (TX1 2).2.2.1 ∈ lw_tbl := tb_in 196 (by decide +kernel)
theorem gf_RX4_70 {g : Nat} (hg : isG g = true) (X : gC E w cc nL RX4 h) (hd : decode cc pc = .ok (.getfield 70, 3)) (hp : pc + 3 = n) (kk : gW E w nL σ n L (.ref (w.1 (g + 2)) :: st)) : gW E w nL σ pc L (.ref (w.1 g) :: st) := by
  rcases isG_e hg with rfl | rfl
  · exact g_get X (k := 10) (j := 2) (by decide) rfl rfl (by decide) rfl uw_1 gl_RX4_70 rfl hd hp kk
  · exact g_get X (k := 28) (j := 2) (by decide) rfl rfl (by decide) rfl uw_1 gl_RX4_70 rfl hd hp kk
theorem gl_RX0_49 : Cond.fieldLink RX0 49 RX1 (TX1 2).2.1 (TX1 2).2.2.1 ∈ lw_tbl := tb_in 197 (by decide +kernel)
theorem gf_RX0_49 {g : Nat} (hg : isG g = true) (X : gC E w cc nL RX0 h) (hd : decode cc pc = .ok (.getfield 49, 3)) (hp : pc + 3 = n) (kk : gW E w nL σ n L (.ref (w.1 (g + 2)) :: st)) : gW E w nL σ pc L (.ref (w.1 g) :: st) := by
  rcases isG_e hg with rfl | rfl
  · exact g_get X (k := 10) (j := 2) (by decide) rfl rfl (by decide) rfl uw_1 gl_RX0_49 rfl hd hp kk
  · exact g_get X (k := 28) (j := 2) (by decide) rfl rfl (by decide) rfl uw_1 gl_RX0_49 rfl hd hp kk
theorem gl_RX8_154 : Cond.fieldLink RX8 154 RX1 (TX1 2).2.1 (TX1 2).2.2.1 ∈ lw_tbl := tb_in 198 (by decide +kernel)
theorem gf_RX8_154 {g : Nat} (hg : isG g = true) (X : gC E w cc nL RX8 h) (hd : decode cc pc = .ok (.getfield 154, 3)) (hp : pc + 3 = n) (kk : gW E w nL σ n L (.ref (w.1 (g + 2)) :: st)) : gW E w nL σ pc L (.ref (w.1 g) :: st) := by
  rcases isG_e hg with rfl | rfl
  · exact g_get X (k := 10) (j := 2) (by decide) rfl rfl (by decide) rfl uw_1 gl_RX8_154 rfl hd hp kk
  · exact g_get X (k := 28) (j := 2) (by decide) rfl rfl (by decide) rfl uw_1 gl_RX8_154 rfl hd hp kk
theorem gl_RX6_114 : Cond.fieldLink RX6 114 RX1 (TX1 2).2.1 (TX1 2).2.2.1 ∈ lw_tbl := tb_in 199 (by decide +kernel)
theorem gf_RX6_114 {g : Nat} (hg : isG g = true) (X : gC E w cc nL RX6 h) (hd : decode cc pc = .ok (.getfield 114, 3)) (hp : pc + 3 = n) (kk : gW E w nL σ n L (.ref (w.1 (g + 2)) :: st)) : gW E w nL σ pc L (.ref (w.1 g) :: st) := by
  rcases isG_e hg with rfl | rfl
  · exact g_get X (k := 10) (j := 2) (by decide) rfl rfl (by decide) rfl uw_1 gl_RX6_114 rfl hd hp kk
  · exact g_get X (k := 28) (j := 2) (by decide) rfl rfl (by decide) rfl uw_1 gl_RX6_114 rfl hd hp kk
theorem gl_RX1_22 : Cond.fieldLink RX1 22 RX1 (TX1 3).2.1 (TX1 3).2.2.1 ∈ lw_tbl := tb_in 200 (by decide +kernel)
theorem gf_RX1_22 {g : Nat} (hg : isG g = true) (X : gC E w cc nL RX1 h) (hd : decode cc pc = .ok (.getfield 22, 3)) (hp : pc + 3 = n) (kk : gW E w nL σ n L (.ref (w.1 (g + 3)) :: st)) : gW E w nL σ pc L (.ref (w.1 g) :: st) := by
  rcases isG_e hg with rfl | rfl
  · exact g_get X (k := 10) (j := 3) (by decide) rfl rfl (by decide) rfl uw_1 gl_RX1_22 rfl hd hp kk
  · exact g_get X (k := 28) (j := 3) (by decide) rfl rfl (by decide) rfl uw_1 gl_RX1_22 rfl hd hp kk
theorem gl_RX6_70 : Cond.fieldLink RX6 70 RX1 (TX1 3).2.1 (TX1 3).2.2.1 ∈ lw_tbl := tb_in 201 (by decide +kernel)
theorem gf_RX6_70 {g : Nat} (hg : isG g = true) (X : gC E w cc nL RX6 h) (hd : decode cc pc = .ok (.getfield 70, 3)) (hp : pc + 3 = n) (kk : gW E w nL σ n L (.ref (w.1 (g + 3)) :: st)) : gW E w nL σ pc L (.ref (w.1 g) :: st) := by
  rcases isG_e hg with rfl | rfl
  · exact g_get X (k := 10) (j := 3) (by decide) rfl rfl (by decide) rfl uw_1 gl_RX6_70 rfl hd hp kk
  · exact g_get X (k := 28) (j := 3) (by decide) rfl rfl (by decide) rfl uw_1 gl_RX6_70 rfl hd hp kk
theorem gl_RX3_40 : Cond.fieldLink RX3 40 RX1 (TX1 3).2.1 (TX1 3).2.2.1 ∈ lw_tbl := tb_in 202 (by decide +kernel)
theorem gf_RX3_40 {g : Nat} (hg : isG g = true) (X : gC E w cc nL RX3 h) (hd : decode cc pc = .ok (.getfield 40, 3)) (hp : pc + 3 = n) (kk : gW E w nL σ n L (.ref (w.1 (g + 3)) :: st)) : gW E w nL σ pc L (.ref (w.1 g) :: st) := by
  rcases isG_e hg with rfl | rfl
  · exact g_get X (k := 10) (j := 3) (by decide) rfl rfl (by decide) rfl uw_1 gl_RX3_40 rfl hd hp kk
  · exact g_get X (k := 28) (j := 3) (by decide) rfl rfl (by decide) rfl uw_1 gl_RX3_40 rfl hd hp kk
theorem gl_RX0_46 : Cond.fieldLink RX0 46 RX1 (TX1 3).2.1 (TX1 3).2.2.1 ∈ lw_tbl := tb_in 203 (by decide +kernel)
theorem gf_RX0_46 {g : Nat} (hg : isG g = true) (X : gC E w cc nL RX0 h) (hd : decode cc pc = .ok (.getfield 46, 3)) (hp : pc + 3 = n) (kk : gW E w nL σ n L (.ref (w.1 (g + 3)) :: st)) : gW E w nL σ pc L (.ref (w.1 g) :: st) := by
  rcases isG_e hg with rfl | rfl
  · exact g_get X (k := 10) (j := 3) (by decide) rfl rfl (by decide) rfl uw_1 gl_RX0_46 rfl hd hp kk
  · exact g_get X (k := 28) (j := 3) (by decide) rfl rfl (by decide) rfl uw_1 gl_RX0_46 rfl hd hp kk
theorem gl_RX8_157 : Cond.fieldLink RX8 157 RX1 (TX1 3).2.1 (TX1 3).2.2.1 ∈ lw_tbl := tb_in 204 (by decide +kernel)
theorem gf_RX8_157 {g : Nat} (hg : isG g = true) (X : gC E w cc nL RX8 h) (hd : decode cc pc = .ok (.getfield 157, 3)) (hp : pc + 3 = n) (kk : gW E w nL σ n L (.ref (w.1 (g + 3)) :: st)) : gW E w nL σ pc L (.ref (w.1 g) :: st) := by
  rcases isG_e hg with rfl | rfl
  · exact g_get X (k := 10) (j := 3) (by decide) rfl rfl (by decide) rfl uw_1 gl_RX8_157 rfl hd hp kk
  · exact g_get X (k := 28) (j := 3) (by decide) rfl rfl (by decide) rfl uw_1 gl_RX8_157 rfl hd hp kk
theorem gl_RX1_25 : Cond.fieldLink RX1 25 RX1 (TX1 4).2.1 (TX1 4).2.2.1 ∈ lw_tbl := tb_in 205 (by decide +kernel)
theorem gf_RX1_25 {g : Nat} (hg : isG g = true) (X : gC E w cc nL RX1 h) (hd : decode cc pc = .ok (.getfield 25, 3)) (hp : pc + 3 = n) (kk : gW E w nL σ n L (.ref (w.1 (g + 4)) :: st)) : gW E w nL σ pc L (.ref (w.1 g) :: st) := by
  rcases isG_e hg with rfl | rfl
  · exact g_get X (k := 10) (j := 4) (by decide) rfl rfl (by decide) rfl uw_1 gl_RX1_25 rfl hd hp kk
  · exact g_get X (k := 28) (j := 4) (by decide) rfl rfl (by decide) rfl uw_1 gl_RX1_25 rfl hd hp kk
theorem gl_RX4_76 : Cond.fieldLink RX4 76 RX1 (TX1 4).2.1 (TX1 4).2.2.1 ∈ lw_tbl := tb_in 206 (by decide +kernel)
theorem gf_RX4_76 {g : Nat} (hg : isG g = true) (X : gC E w cc nL RX4 h) (hd : decode cc pc = .ok (.getfield 76, 3)) (hp : pc + 3 = n) (kk : gW E w nL σ n L (.ref (w.1 (g + 4)) :: st)) : gW E w nL σ pc L (.ref (w.1 g) :: st) := by
  rcases isG_e hg with rfl | rfl
  · exact g_get X (k := 10) (j := 4) (by decide) rfl rfl (by decide) rfl uw_1 gl_RX4_76 rfl hd hp kk
  · exact g_get X (k := 28) (j := 4) (by decide) rfl rfl (by decide) rfl uw_1 gl_RX4_76 rfl hd hp kk
theorem gl_RX0_40 : Cond.fieldLink RX0 40 RX1 (TX1 4).2.1 (TX1 4).2.2.1 ∈ lw_tbl := tb_in 207 (by decide +kernel)
theorem gf_RX0_40 {g : Nat} (hg : isG g = true) (X : gC E w cc nL RX0 h) (hd : decode cc pc = .ok (.getfield 40, 3)) (hp : pc + 3 = n) (kk : gW E w nL σ n L (.ref (w.1 (g + 4)) :: st)) : gW E w nL σ pc L (.ref (w.1 g) :: st) := by
  rcases isG_e hg with rfl | rfl
  · exact g_get X (k := 10) (j := 4) (by decide) rfl rfl (by decide) rfl uw_1 gl_RX0_40 rfl hd hp kk
  · exact g_get X (k := 28) (j := 4) (by decide) rfl rfl (by decide) rfl uw_1 gl_RX0_40 rfl hd hp kk
theorem gl_RX6_85 : Cond.fieldLink RX6 85 RX1 (TX1 4).2.1 (TX1 4).2.2.1 ∈ lw_tbl := tb_in 208 (by decide +kernel)
theorem gf_RX6_85 {g : Nat} (hg : isG g = true) (X : gC E w cc nL RX6 h) (hd : decode cc pc = .ok (.getfield 85, 3)) (hp : pc + 3 = n) (kk : gW E w nL σ n L (.ref (w.1 (g + 4)) :: st)) : gW E w nL σ pc L (.ref (w.1 g) :: st) := by
  rcases isG_e hg with rfl | rfl
  · exact g_get X (k := 10) (j := 4) (by decide) rfl rfl (by decide) rfl uw_1 gl_RX6_85 rfl hd hp kk
  · exact g_get X (k := 28) (j := 4) (by decide) rfl rfl (by decide) rfl uw_1 gl_RX6_85 rfl hd hp kk
theorem gl_RX8_160 : Cond.fieldLink RX8 160 RX1 (TX1 4).2.1 (TX1 4).2.2.1 ∈ lw_tbl := tb_in 209 (by decide +kernel)
theorem gf_RX8_160 {g : Nat} (hg : isG g = true) (X : gC E w cc nL RX8 h) (hd : decode cc pc = .ok (.getfield 160, 3)) (hp : pc + 3 = n) (kk : gW E w nL σ n L (.ref (w.1 (g + 4)) :: st)) : gW E w nL σ pc L (.ref (w.1 g) :: st) := by
  rcases isG_e hg with rfl | rfl
  · exact g_get X (k := 10) (j := 4) (by decide) rfl rfl (by decide) rfl uw_1 gl_RX8_160 rfl hd hp kk
  · exact g_get X (k := 28) (j := 4) (by decide) rfl rfl (by decide) rfl uw_1 gl_RX8_160 rfl hd hp kk
theorem gl_RX1_28 : Cond.fieldLink RX1 28 RX1 (TX1 5).2.1 (TX1 5).2.2.1 ∈ lw_tbl := tb_in 210 (by decide +kernel)
theorem gf_RX1_28 {g : Nat} (hg : isG g = true) (X : gC E w cc nL RX1 h) (hd : decode cc pc = .ok (.getfield 28, 3)) (hp : pc + 3 = n) (kk : gW E w nL σ n L (.ref (w.1 (g + 5)) :: st)) : gW E w nL σ pc L (.ref (w.1 g) :: st) := by
  rcases isG_e hg with rfl | rfl
  · exact g_get X (k := 10) (j := 5) (by decide) rfl rfl (by decide) rfl uw_1 gl_RX1_28 rfl hd hp kk
  · exact g_get X (k := 28) (j := 5) (by decide) rfl rfl (by decide) rfl uw_1 gl_RX1_28 rfl hd hp kk
theorem gl_RX6_67 : Cond.fieldLink RX6 67 RX1 (TX1 5).2.1 (TX1 5).2.2.1 ∈ lw_tbl := tb_in 211 (by decide +kernel)
theorem gf_RX6_67 {g : Nat} (hg : isG g = true) (X : gC E w cc nL RX6 h) (hd : decode cc pc = .ok (.getfield 67, 3)) (hp : pc + 3 = n) (kk : gW E w nL σ n L (.ref (w.1 (g + 5)) :: st)) : gW E w nL σ pc L (.ref (w.1 g) :: st) := by
  rcases isG_e hg with rfl | rfl
  · exact g_get X (k := 10) (j := 5) (by decide) rfl rfl (by decide) rfl uw_1 gl_RX6_67 rfl hd hp kk
  · exact g_get X (k := 28) (j := 5) (by decide) rfl rfl (by decide) rfl uw_1 gl_RX6_67 rfl hd hp kk
theorem gl_RX3_31 : Cond.fieldLink RX3 31 RX1 (TX1 5).2.1 (TX1 5).2.2.1 ∈ lw_tbl := tb_in 212 (by decide +kernel)
theorem gf_RX3_31 {g : Nat} (hg : isG g = true) (X : gC E w cc nL RX3 h) (hd : decode cc pc = .ok (.getfield 31, 3)) (hp : pc + 3 = n) (kk : gW E w nL σ n L (.ref (w.1 (g + 5)) :: st)) : gW E w nL σ pc L (.ref (w.1 g) :: st) := by
  rcases isG_e hg with rfl | rfl
  · exact g_get X (k := 10) (j := 5) (by decide) rfl rfl (by decide) rfl uw_1 gl_RX3_31 rfl hd hp kk
  · exact g_get X (k := 28) (j := 5) (by decide) rfl rfl (by decide) rfl uw_1 gl_RX3_31 rfl hd hp kk
theorem gl_RX8_163 : Cond.fieldLink RX8 163 RX1 (TX1 5).2.1 (TX1 5).2.2.1 ∈ lw_tbl := tb_in 213 (by decide +kernel)
theorem gf_RX8_163 {g : Nat} (hg : isG g = true) (X : gC E w cc nL RX8 h) (hd : decode cc pc = .ok (.getfield 163, 3)) (hp : pc + 3 = n) (kk : gW E w nL σ n L (.ref (w.1 (g + 5)) :: st)) : gW E w nL σ pc L (.ref (w.1 g) :: st) := by
  rcases isG_e hg with rfl | rfl
  · exact g_get X (k := 10) (j := 5) (by decide) rfl rfl (by decide) rfl uw_1 gl_RX8_163 rfl hd hp kk
  · exact g_get X (k := 28) (j := 5) (by decide) rfl rfl (by decide) rfl uw_1 gl_RX8_163 rfl hd hp kk
theorem gl_RX1_31 : Cond.fieldLink RX1 31 RX1 (TX1 6).2.1 (TX1 6).2.2.1 ∈ lw_tbl := tb_in 214 (by decide +kernel)
theorem gf_RX1_31 {g : Nat} (hg : isG g = true) (X : gC E w cc nL RX1 h) (hd : decode cc pc = .ok (.getfield 31, 3)) (hp : pc + 3 = n) (kk : gW E w nL σ n L (.ref (w.1 (g + 6)) :: st)) : gW E w nL σ pc L (.ref (w.1 g) :: st) := by
  rcases isG_e hg with rfl | rfl
  · exact g_get X (k := 10) (j := 6) (by decide) rfl rfl (by decide) rfl uw_1 gl_RX1_31 rfl hd hp kk
  · exact g_get X (k := 28) (j := 6) (by decide) rfl rfl (by decide) rfl uw_1 gl_RX1_31 rfl hd hp kk
theorem gl_RX4_49 : Cond.fieldLink RX4 49 RX1 (TX1 6).2.1 (TX1 6).2.2.1 ∈ lw_tbl := tb_in 215 (by decide +kernel)
theorem gf_RX4_49 {g : Nat} (hg : isG g = true) (X : gC E w cc nL RX4 h) (hd : decode cc pc = .ok (.getfield 49, 3)) (hp : pc + 3 = n) (kk : gW E w nL σ n L (.ref (w.1 (g + 6)) :: st)) : gW E w nL σ pc L (.ref (w.1 g) :: st) := by
  rcases isG_e hg with rfl | rfl
  · exact g_get X (k := 10) (j := 6) (by decide) rfl rfl (by decide) rfl uw_1 gl_RX4_49 rfl hd hp kk
  · exact g_get X (k := 28) (j := 6) (by decide) rfl rfl (by decide) rfl uw_1 gl_RX4_49 rfl hd hp kk
theorem gl_RX8_166 : Cond.fieldLink RX8 166 RX1 (TX1 6).2.1 (TX1 6).2.2.1 ∈ lw_tbl := tb_in 216 (by decide +kernel)
theorem gf_RX8_166 {g : Nat} (hg : isG g = true) (X : gC E w cc nL RX8 h) (hd : decode cc pc = .ok (.getfield 166, 3)) (hp : pc + 3 = n) (kk : gW E w nL σ n L (.ref (w.1 (g + 6)) :: st)) : gW E w nL σ pc L (.ref (w.1 g) :: st) := by
  rcases isG_e hg with rfl | rfl
  · exact g_get X (k := 10) (j := 6) (by decide) rfl rfl (by decide) rfl uw_1 gl_RX8_166 rfl hd hp kk
  · exact g_get X (k := 28) (j := 6) (by decide) rfl rfl (by decide) rfl uw_1 gl_RX8_166 rfl hd hp kk
theorem gl_RX1_34 : Cond.fieldLink RX1 34 RX1 (TX1 7).2.1 (TX1 7).2.2.1 ∈ lw_tbl := tb_in 217 (by decide +kernel)
theorem gf_RX1_34 {g : Nat} (hg : isG g = true) (X : gC E w cc nL RX1 h) (hd : decode cc pc = .ok (.getfield 34, 3)) (hp : pc + 3 = n) (kk : gW E w nL σ n L (.ref (w.1 (g + 7)) :: st)) : gW E w nL σ pc L (.ref (w.1 g) :: st) := by
  rcases isG_e hg with rfl | rfl
  · exact g_get X (k := 10) (j := 7) (by decide) rfl rfl (by decide) rfl uw_1 gl_RX1_34 rfl hd hp kk
  · exact g_get X (k := 28) (j := 7) (by decide) rfl rfl (by decide) rfl uw_1 gl_RX1_34 rfl hd hp kk
theorem gl_RX3_43 : Cond.fieldLink RX3 43 RX1 (TX1 7).2.1 (TX1 7).2.2.1 ∈ lw_tbl := tb_in 218 (by decide +kernel)
theorem gf_RX3_43 {g : Nat} (hg : isG g = true) (X : gC E w cc nL RX3 h) (hd : decode cc pc = .ok (.getfield 43, 3)) (hp : pc + 3 = n) (kk : gW E w nL σ n L (.ref (w.1 (g + 7)) :: st)) : gW E w nL σ pc L (.ref (w.1 g) :: st) := by
  rcases isG_e hg with rfl | rfl
  · exact g_get X (k := 10) (j := 7) (by decide) rfl rfl (by decide) rfl uw_1 gl_RX3_43 rfl hd hp kk
  · exact g_get X (k := 28) (j := 7) (by decide) rfl rfl (by decide) rfl uw_1 gl_RX3_43 rfl hd hp kk
theorem gl_RX1_37 : Cond.fieldLink RX1 37 RX1 (TX1 8).2.1 (TX1 8).2.2.1 ∈ lw_tbl := tb_in 219 (by decide +kernel)
theorem gf_RX1_37 {g : Nat} (hg : isG g = true) (X : gC E w cc nL RX1 h) (hd : decode cc pc = .ok (.getfield 37, 3)) (hp : pc + 3 = n) (kk : gW E w nL σ n L (.ref (w.1 (g + 8)) :: st)) : gW E w nL σ pc L (.ref (w.1 g) :: st) := by
  rcases isG_e hg with rfl | rfl
  · exact g_get X (k := 10) (j := 8) (by decide) rfl rfl (by decide) rfl uw_1 gl_RX1_37 rfl hd hp kk
  · exact g_get X (k := 28) (j := 8) (by decide) rfl rfl (by decide) rfl uw_1 gl_RX1_37 rfl hd hp kk
theorem gl_RX3_37 : Cond.fieldLink RX3 37 RX1 (TX1 8).2.1 (TX1 8).2.2.1 ∈ lw_tbl := tb_in 220 (by decide +kernel)
theorem gf_RX3_37 {g : Nat} (hg : isG g = true) (X : gC E w cc nL RX3 h) (hd : decode cc pc = .ok (.getfield 37, 3)) (hp : pc + 3 = n) (kk : gW E w nL σ n L (.ref (w.1 (g + 8)) :: st)) : gW E w nL σ pc L (.ref (w.1 g) :: st) := by
  rcases isG_e hg with rfl | rfl
  · exact g_get X (k := 10) (j := 8) (by decide) rfl rfl (by decide) rfl uw_1 gl_RX3_37 rfl hd hp kk
  · exact g_get X (k := 28) (j := 8) (by decide) rfl rfl (by decide) rfl uw_1 gl_RX3_37 rfl hd hp kk
theorem gl_RX1_40 : Cond.fieldLink RX1 40 RX1 (TX1 9).2.1 (TX1 9).2.2.1 ∈ lw_tbl := tb_in 221 (by decide +kernel)
theorem gf_RX1_40 {g : Nat} (hg : isG g = true) (X : gC E w cc nL RX1 h) (hd : decode cc pc = .ok (.getfield 40, 3)) (hp : pc + 3 = n) (kk : gW E w nL σ n L (.ref (w.1 (g + 9)) :: st)) : gW E w nL σ pc L (.ref (w.1 g) :: st) := by
  rcases isG_e hg with rfl | rfl
  · exact g_get X (k := 10) (j := 9) (by decide) rfl rfl (by decide) rfl uw_1 gl_RX1_40 rfl hd hp kk
  · exact g_get X (k := 28) (j := 9) (by decide) rfl rfl (by decide) rfl uw_1 gl_RX1_40 rfl hd hp kk
theorem gl_RX1_43 : Cond.fieldLink RX1 43 RX1 (TX1 10).2.1 (TX1 10).2.2.1 ∈ lw_tbl := tb_in 222 (by decide +kernel)
theorem gf_RX1_43 {g : Nat} (hg : isG g = true) (X : gC E w cc nL RX1 h) (hd : decode cc pc = .ok (.getfield 43, 3)) (hp : pc + 3 = n) (kk : gW E w nL σ n L (.ref (w.1 (g + 10)) :: st)) : gW E w nL σ pc L (.ref (w.1 g) :: st) := by
  rcases isG_e hg with rfl | rfl
  · exact g_get X (k := 10) (j := 10) (by decide) rfl rfl (by decide) rfl uw_1 gl_RX1_43 rfl hd hp kk
  · exact g_get X (k := 28) (j := 10) (by decide) rfl rfl (by decide) rfl uw_1 gl_RX1_43 rfl hd hp kk
theorem gl_RX0_56 : Cond.fieldLink RX0 56 RX1 (TX1 10).2.1 (TX1 10).2.2.1 ∈ lw_tbl := tb_in 223 (by decide +kernel)
theorem gf_RX0_56 {g : Nat} (hg : isG g = true) (X : gC E w cc nL RX0 h) (hd : decode cc pc = .ok (.getfield 56, 3)) (hp : pc + 3 = n) (kk : gW E w nL σ n L (.ref (w.1 (g + 10)) :: st)) : gW E w nL σ pc L (.ref (w.1 g) :: st) := by
  rcases isG_e hg with rfl | rfl
  · exact g_get X (k := 10) (j := 10) (by decide) rfl rfl (by decide) rfl uw_1 gl_RX0_56 rfl hd hp kk
  · exact g_get X (k := 28) (j := 10) (by decide) rfl rfl (by decide) rfl uw_1 gl_RX0_56 rfl hd hp kk
theorem gl_RX1_46 : Cond.fieldLink RX1 46 RX1 (TX1 11).2.1 (TX1 11).2.2.1 ∈ lw_tbl := tb_in 224 (by decide +kernel)
theorem gf_RX1_46 {g : Nat} (hg : isG g = true) (X : gC E w cc nL RX1 h) (hd : decode cc pc = .ok (.getfield 46, 3)) (hp : pc + 3 = n) (kk : gW E w nL σ n L (.ref (w.1 (g + 11)) :: st)) : gW E w nL σ pc L (.ref (w.1 g) :: st) := by
  rcases isG_e hg with rfl | rfl
  · exact g_get X (k := 10) (j := 11) (by decide) rfl rfl (by decide) rfl uw_1 gl_RX1_46 rfl hd hp kk
  · exact g_get X (k := 28) (j := 11) (by decide) rfl rfl (by decide) rfl uw_1 gl_RX1_46 rfl hd hp kk
theorem gl_RX1_49 : Cond.fieldLink RX1 49 RX1 (TX1 12).2.1 (TX1 12).2.2.1 ∈ lw_tbl := tb_in 225 (by decide +kernel)
theorem gf_RX1_49 {g : Nat} (hg : isG g = true) (X : gC E w cc nL RX1 h) (hd : decode cc pc = .ok (.getfield 49, 3)) (hp : pc + 3 = n) (kk : gW E w nL σ n L (.ref (w.1 (g + 12)) :: st)) : gW E w nL σ pc L (.ref (w.1 g) :: st) := by
  rcases isG_e hg with rfl | rfl
  · exact g_get X (k := 10) (j := 12) (by decide) rfl rfl (by decide) rfl uw_1 gl_RX1_49 rfl hd hp kk
  · exact g_get X (k := 28) (j := 12) (by decide) rfl rfl (by decide) rfl uw_1 gl_RX1_49 rfl hd hp kk
theorem gl_RX1_53 : Cond.fieldLink RX1 53 RX1 (TX1 13).2.1 (TX1 13).2.2.1 ∈ lw_tbl := tb_in 226 (by decide +kernel)
theorem gf_RX1_53 {g : Nat} (hg : isG g = true) (X : gC E w cc nL RX1 h) (hd : decode cc pc = .ok (.getfield 53, 3)) (hp : pc + 3 = n) (kk : gW E w nL σ n L (.ref (w.1 (g + 13)) :: st)) : gW E w nL σ pc L (.ref (w.1 g) :: st) := by
  rcases isG_e hg with rfl | rfl
  · exact g_get X (k := 10) (j := 13) (by decide) rfl rfl (by decide) rfl uw_1 gl_RX1_53 rfl hd hp kk
  · exact g_get X (k := 28) (j := 13) (by decide) rfl rfl (by decide) rfl uw_1 gl_RX1_53 rfl hd hp kk
theorem gl_RX2_65 : Cond.fieldLink RX2 65 RX1 (TX1 13).2.1 (TX1 13).2.2.1 ∈ lw_tbl := tb_in 227 (by decide +kernel)
theorem gf_RX2_65 {g : Nat} (hg : isG g = true) (X : gC E w cc nL RX2 h) (hd : decode cc pc = .ok (.getfield 65, 3)) (hp : pc + 3 = n) (kk : gW E w nL σ n L (.ref (w.1 (g + 13)) :: st)) : gW E w nL σ pc L (.ref (w.1 g) :: st) := by
  rcases isG_e hg with rfl | rfl
  · exact g_get X (k := 10) (j := 13) (by decide) rfl rfl (by decide) rfl uw_1 gl_RX2_65 rfl hd hp kk
  · exact g_get X (k := 28) (j := 13) (by decide) rfl rfl (by decide) rfl uw_1 gl_RX2_65 rfl hd hp kk
theorem gl_RX8_169 : Cond.fieldLink RX8 169 RX1 (TX1 13).2.1 (TX1 13).2.2.1 ∈ lw_tbl := tb_in 228 (by decide +kernel)
theorem gf_RX8_169 {g : Nat} (hg : isG g = true) (X : gC E w cc nL RX8 h) (hd : decode cc pc = .ok (.getfield 169, 3)) (hp : pc + 3 = n) (kk : gW E w nL σ n L (.ref (w.1 (g + 13)) :: st)) : gW E w nL σ pc L (.ref (w.1 g) :: st) := by
  rcases isG_e hg with rfl | rfl
  · exact g_get X (k := 10) (j := 13) (by decide) rfl rfl (by decide) rfl uw_1 gl_RX8_169 rfl hd hp kk
  · exact g_get X (k := 28) (j := 13) (by decide) rfl rfl (by decide) rfl uw_1 gl_RX8_169 rfl hd hp kk
theorem gl_RX1_56 : Cond.fieldLink RX1 56 RX1 (TX1 14).2.1 (TX1 14).2.2.1 ∈ lw_tbl := tb_in 229 (by decide +kernel)
theorem gf_RX1_56 {g : Nat} (hg : isG g = true) (X : gC E w cc nL RX1 h) (hd : decode cc pc = .ok (.getfield 56, 3)) (hp : pc + 3 = n) (kk : gW E w nL σ n L (.ref (w.1 (g + 14)) :: st)) : gW E w nL σ pc L (.ref (w.1 g) :: st) := by
  rcases isG_e hg with rfl | rfl
  · exact g_get X (k := 10) (j := 14) (by decide) rfl rfl (by decide) rfl uw_1 gl_RX1_56 rfl hd hp kk
  · exact g_get X (k := 28) (j := 14) (by decide) rfl rfl (by decide) rfl uw_1 gl_RX1_56 rfl hd hp kk
theorem gl_RX8_172 : Cond.fieldLink RX8 172 RX1 (TX1 14).2.1 (TX1 14).2.2.1 ∈ lw_tbl := tb_in 230 (by decide +kernel)
theorem gf_RX8_172 {g : Nat} (hg : isG g = true) (X : gC E w cc nL RX8 h) (hd : decode cc pc = .ok (.getfield 172, 3)) (hp : pc + 3 = n) (kk : gW E w nL σ n L (.ref (w.1 (g + 14)) :: st)) : gW E w nL σ pc L (.ref (w.1 g) :: st) := by
  rcases isG_e hg with rfl | rfl
  · exact g_get X (k := 10) (j := 14) (by decide) rfl rfl (by decide) rfl uw_1 gl_RX8_172 rfl hd hp kk
  · exact g_get X (k := 28) (j := 14) (by decide) rfl rfl (by decide) rfl uw_1 gl_RX8_172 rfl hd hp kk
theorem gl_RX1_59 : Cond.fieldLink RX1 59 RX1 (TX1 15).2.1 (TX1 15).2.2.1 ∈ lw_tbl := tb_in 231 (by decide +kernel)
theorem gf_RX1_59 {g : Nat} (hg : isG g = true) (X : gC E w cc nL RX1 h) (hd : decode cc pc = .ok (.getfield 59, 3)) (hp : pc + 3 = n) (kk : gW E w nL σ n L (.ref (w.1 (g + 15)) :: st)) : gW E w nL σ pc L (.ref (w.1 g) :: st) := by
  rcases isG_e hg with rfl | rfl
  · exact g_get X (k := 10) (j := 15) (by decide) rfl rfl (by decide) rfl uw_1 gl_RX1_59 rfl hd hp kk
  · exact g_get X (k := 28) (j := 15) (by decide) rfl rfl (by decide) rfl uw_1 gl_RX1_59 rfl hd hp kk
theorem gl_RX0_43 : Cond.fieldLink RX0 43 RX1 (TX1 15).2.1 (TX1 15).2.2.1 ∈ lw_tbl := tb_in 232 (by decide +kernel)
theorem gf_RX0_43 {g : Nat} (hg : isG g = true) (X : gC E w cc nL RX0 h) (hd : decode cc pc = .ok (.getfield 43, 3)) (hp : pc + 3 = n) (kk : gW E w nL σ n L (.ref (w.1 (g + 15)) :: st)) : gW E w nL σ pc L (.ref (w.1 g) :: st) := by
  rcases isG_e hg with rfl | rfl
  · exact g_get X (k := 10) (j := 15) (by decide) rfl rfl (by decide) rfl uw_1 gl_RX0_43 rfl hd hp kk
  · exact g_get X (k := 28) (j := 15) (by decide) rfl rfl (by decide) rfl uw_1 gl_RX0_43 rfl hd hp kk
theorem gl_RX8_175 : Cond.fieldLink RX8 175 RX1 (TX1 15).2.1 (TX1 15).2.2.1 ∈ lw_tbl := tb_in 233 (by decide +kernel)
theorem gf_RX8_175 {g : Nat} (hg : isG g = true) (X : gC E w cc nL RX8 h) (hd : decode cc pc = .ok (.getfield 175, 3)) (hp : pc + 3 = n) (kk : gW E w nL σ n L (.ref (w.1 (g + 15)) :: st)) : gW E w nL σ pc L (.ref (w.1 g) :: st) := by
  rcases isG_e hg with rfl | rfl
  · exact g_get X (k := 10) (j := 15) (by decide) rfl rfl (by decide) rfl uw_1 gl_RX8_175 rfl hd hp kk
  · exact g_get X (k := 28) (j := 15) (by decide) rfl rfl (by decide) rfl uw_1 gl_RX8_175 rfl hd hp kk
theorem gl_RX1_62 : Cond.fieldLink RX1 62 RX1 (TX1 16).2.1 (TX1 16).2.2.1 ∈ lw_tbl := tb_in 234 (by decide +kernel)
theorem gf_RX1_62 {g : Nat} (hg : isG g = true) (X : gC E w cc nL RX1 h) (hd : decode cc pc = .ok (.getfield 62, 3)) (hp : pc + 3 = n) (kk : gW E w nL σ n L (.ref (w.1 (g + 16)) :: st)) : gW E w nL σ pc L (.ref (w.1 g) :: st) := by
  rcases isG_e hg with rfl | rfl
  · exact g_get X (k := 10) (j := 16) (by decide) rfl rfl (by decide) rfl uw_1 gl_RX1_62 rfl hd hp kk
  · exact g_get X (k := 28) (j := 16) (by decide) rfl rfl (by decide) rfl uw_1 gl_RX1_62 rfl hd hp kk
theorem gl_RX6_61 : Cond.fieldLink RX6 61 RX1 (TX1 16).2.1 (TX1 16).2.2.1 ∈ lw_tbl := tb_in 235 (by decide +kernel)
theorem gf_RX6_61 {g : Nat} (hg : isG g = true) (X : gC E w cc nL RX6 h) (hd : decode cc pc = .ok (.getfield 61, 3)) (hp : pc + 3 = n) (kk : gW E w nL σ n L (.ref (w.1 (g + 16)) :: st)) : gW E w nL σ pc L (.ref (w.1 g) :: st) := by
  rcases isG_e hg with rfl | rfl
  · exact g_get X (k := 10) (j := 16) (by decide) rfl rfl (by decide) rfl uw_1 gl_RX6_61 rfl hd hp kk
  · exact g_get X (k := 28) (j := 16) (by decide) rfl rfl (by decide) rfl uw_1 gl_RX6_61 rfl hd hp kk
theorem gl_RX1_65 : Cond.fieldLink RX1 65 RX1 (TX1 17).2.1 (TX1 17).2.2.1 ∈ lw_tbl := tb_in 236 (by decide +kernel)
theorem gf_RX1_65 {g : Nat} (hg : isG g = true) (X : gC E w cc nL RX1 h) (hd : decode cc pc = .ok (.getfield 65, 3)) (hp : pc + 3 = n) (kk : gW E w nL σ n L (.ref (w.1 (g + 17)) :: st)) : gW E w nL σ pc L (.ref (w.1 g) :: st) := by
  rcases isG_e hg with rfl | rfl
  · exact g_get X (k := 10) (j := 17) (by decide) rfl rfl (by decide) rfl uw_1 gl_RX1_65 rfl hd hp kk
  · exact g_get X (k := 28) (j := 17) (by decide) rfl rfl (by decide) rfl uw_1 gl_RX1_65 rfl hd hp kk
theorem gl_RX8_181 : Cond.fieldLink RX8 181 RX1 (TX1 17).2.1 (TX1 17).2.2.1 ∈ lw_tbl := tb_in 237 (by decide +kernel)
theorem gf_RX8_181 {g : Nat} (hg : isG g = true) (X : gC E w cc nL RX8 h) (hd : decode cc pc = .ok (.getfield 181, 3)) (hp : pc + 3 = n) (kk : gW E w nL σ n L (.ref (w.1 (g + 17)) :: st)) : gW E w nL σ pc L (.ref (w.1 g) :: st) := by
  rcases isG_e hg with rfl | rfl
  · exact g_get X (k := 10) (j := 17) (by decide) rfl rfl (by decide) rfl uw_1 gl_RX8_181 rfl hd hp kk
  · exact g_get X (k := 28) (j := 17) (by decide) rfl rfl (by decide) rfl uw_1 gl_RX8_181 rfl hd hp kk
theorem gl_RX8_12 : Cond.fieldLink RX8 12 RX8 (TX8 0).2.1 (TX8 0).2.2.1 ∈ lw_tbl := tb_in 276 (by decide +kernel)
theorem gf_RX8_12 (X : gC E w cc nL RX8 h) (hd : decode cc pc = .ok (.getfield 12, 3)) (hp : pc + 3 = n) (kk : gW E w nL σ n L (.ref (w.1 1) :: st)) : gW E w nL σ pc L (.ref (w.1 0) :: st) := g_get X (k := 0) (j := 0) (by decide) rfl rfl (by decide) rfl uw_8 gl_RX8_12 rfl hd hp kk
theorem gl_RX8_19 : Cond.fieldLink RX8 19 RX8 (TX8 1).2.1 (TX8 1).2.2.1 ∈ lw_tbl := tb_in 277 (by decide +kernel)
theorem gf_RX8_19 (X : gC E w cc nL RX8 h) (hd : decode cc pc = .ok (.getfield 19, 3)) (hp : pc + 3 = n) (kk : gW E w nL σ n L (.ref (w.1 2) :: st)) : gW E w nL σ pc L (.ref (w.1 0) :: st) := g_get X (k := 0) (j := 1) (by decide) rfl rfl (by decide) rfl uw_8 gl_RX8_19 rfl hd hp kk
theorem gl_RX8_26 : Cond.fieldLink RX8 26 RX8 (TX8 2).2.1 (TX8 2).2.2.1 ∈ lw_tbl := tb_in 278 (by decide +kernel)
theorem gf_RX8_26 (X : gC E w cc nL RX8 h) (hd : decode cc pc = .ok (.getfield 26, 3)) (hp : pc + 3 = n) (kk : gW E w nL σ n L (.ref (w.1 3) :: st)) : gW E w nL σ pc L (.ref (w.1 0) :: st) := g_get X (k := 0) (j := 2) (by decide) rfl rfl (by decide) rfl uw_8 gl_RX8_26 rfl hd hp kk
theorem gl_RX8_33 : Cond.fieldLink RX8 33 RX8 (TX8 3).2.1 (TX8 3).2.2.1 ∈ lw_tbl := tb_in 279 (by decide +kernel)
theorem gf_RX8_33 (X : gC E w cc nL RX8 h) (hd : decode cc pc = .ok (.getfield 33, 3)) (hp : pc + 3 = n) (kk : gW E w nL σ n L (.ref (w.1 4) :: st)) : gW E w nL σ pc L (.ref (w.1 0) :: st) := g_get X (k := 0) (j := 3) (by decide) rfl rfl (by decide) rfl uw_8 gl_RX8_33 rfl hd hp kk
theorem gl_RX8_40 : Cond.fieldLink RX8 40 RX8 (TX8 4).2.1 (TX8 4).2.2.1 ∈ lw_tbl := tb_in 280 (by decide +kernel)
theorem gf_RX8_40 (X : gC E w cc nL RX8 h) (hd : decode cc pc = .ok (.getfield 40, 3)) (hp : pc + 3 = n) (kk : gW E w nL σ n L (.ref (w.1 6) :: st)) : gW E w nL σ pc L (.ref (w.1 0) :: st) := g_get X (k := 0) (j := 4) (by decide) rfl rfl (by decide) rfl uw_8 gl_RX8_40 rfl hd hp kk
theorem gl_RX8_47 : Cond.fieldLink RX8 47 RX8 (TX8 5).2.1 (TX8 5).2.2.1 ∈ lw_tbl := tb_in 281 (by decide +kernel)
theorem gf_RX8_47 (X : gC E w cc nL RX8 h) (hd : decode cc pc = .ok (.getfield 47, 3)) (hp : pc + 3 = n) (kk : gW E w nL σ n L (.ref (w.1 7) :: st)) : gW E w nL σ pc L (.ref (w.1 0) :: st) := g_get X (k := 0) (j := 5) (by decide) rfl rfl (by decide) rfl uw_8 gl_RX8_47 rfl hd hp kk
theorem gl_RX8_54 : Cond.fieldLink RX8 54 RX8 (TX8 6).2.1 (TX8 6).2.2.1 ∈ lw_tbl := tb_in 282 (by decide +kernel)
theorem gf_RX8_54 (X : gC E w cc nL RX8 h) (hd : decode cc pc = .ok (.getfield 54, 3)) (hp : pc + 3 = n) (kk : gW E w nL σ n L (.ref (w.1 8) :: st)) : gW E w nL σ pc L (.ref (w.1 0) :: st) := g_get X (k := 0) (j := 6) (by decide) rfl rfl (by decide) rfl uw_8 gl_RX8_54 rfl hd hp kk
theorem gl_RX8_58 : Cond.fieldLink RX8 58 RX8 (TX8 7).2.1 (TX8 7).2.2.1 ∈ lw_tbl := tb_in 283 (by decide +kernel)
theorem gf_RX8_58 (X : gC E w cc nL RX8 h) (hd : decode cc pc = .ok (.getfield 58, 3)) (hp : pc + 3 = n) (kk : gW E w nL σ n L (.ref (w.1 46) :: st)) : gW E w nL σ pc L (.ref (w.1 0) :: st) := g_get X (k := 0) (j := 7) (by decide) rfl rfl (by decide) rfl uw_8 gl_RX8_58 rfl hd hp kk
theorem gl_RX8_65 : Cond.fieldLink RX8 65 RX8 (TX8 8).2.1 (TX8 8).2.2.1 ∈ lw_tbl := tb_in 284 (by decide +kernel)
theorem gf_RX8_65 (X : gC E w cc nL RX8 h) (hd : decode cc pc = .ok (.getfield 65, 3)) (hp : pc + 3 = n) (kk : gW E w nL σ n L (.ref (w.1 (rR σ 0)) :: st)) : gW E w nL σ pc L (.ref (w.1 0) :: st) := g_get X (k := 0) (j := 8) (by decide) rfl rfl (by decide) rfl uw_8 gl_RX8_65 rfl hd hp kk
theorem gp_RX8_65 {x : Nat} (X : gC E w cc nL RX8 h) (hd : decode cc pc = .ok (.putfield 65, 3)) (hp : pc + 3 = n) (kk : ∀ σ1 : St, σ1 = stR σ 0 x → gW E w nL σ1 n L st) : gW E w nL σ pc L (.ref (w.1 x) :: .ref (w.1 0) :: st) := g_putR X (k := 0) (j := 8) (D0 := RX1) tyX8 tyX8_ok nmX8 (by decide) rfl rfl (by decide) rfl (by decide) uw_8 gl_RX8_65 rfl rfl (by decide +kernel) hd hp kk
theorem gl_RX8_69 : Cond.fieldLink RX8 69 RX8 (TX8 9).2.1 (TX8 9).2.2.1 ∈ lw_tbl := tb_in 285 (by decide +kernel)
theorem gf_RX8_69 (X : gC E w cc nL RX8 h) (hd : decode cc pc = .ok (.getfield 69, 3)) (hp : pc + 3 = n) (kk : gW E w nL σ n L (.ref (w.1 (rR σ 1)) :: st)) : gW E w nL σ pc L (.ref (w.1 0) :: st) := g_get X (k := 0) (j := 9) (by decide) rfl rfl (by decide) rfl uw_8 gl_RX8_69 rfl hd hp kk
theorem gp_RX8_69 {x : Nat} (X : gC E w cc nL RX8 h) (hd : decode cc pc = .ok (.putfield 69, 3)) (hp : pc + 3 = n) (kk : ∀ σ1 : St, σ1 = stR σ 1 x → gW E w nL σ1 n L st) : gW E w nL σ pc L (.ref (w.1 x) :: .ref (w.1 0) :: st) := g_putR X (k := 0) (j := 9) (D0 := RX1) tyX8 tyX8_ok nmX8 (by decide) rfl rfl (by decide) rfl (by decide) uw_8 gl_RX8_69 rfl rfl (by decide +kernel) hd hp kk
theorem gl_RX8_72 : Cond.fieldLink RX8 72 RX8 (TX8 10).2.1 (TX8 10).2.2.1 ∈ lw_tbl := tb_in 286 (by decide +kernel)
theorem gf_RX8_72 (X : gC E w cc nL RX8 h) (hd : decode cc pc = .ok (.getfield 72, 3)) (hp : pc + 3 = n) (kk : gW E w nL σ n L (.int (rF σ 0) :: st)) : gW E w nL σ pc L (.ref (w.1 0) :: st) := g_get X (k := 0) (j := 10) (by decide) rfl rfl (by decide) rfl uw_8 gl_RX8_72 rfl hd hp kk
theorem gp_RX8_72 {x : Int32} (X : gC E w cc nL RX8 h) (hd : decode cc pc = .ok (.putfield 72, 3)) (hp : pc + 3 = n) (kk : ∀ σ1 : St, σ1 = stF σ 0 x → gW E w nL σ1 n L st) : gW E w nL σ pc L (.int x :: .ref (w.1 0) :: st) := g_putI X (k := 0) (j := 10) tyX8 tyX8_ok nmX8 (by decide) rfl rfl (by decide) rfl (by decide) uw_8 gl_RX8_72 rfl rfl rfl hd hp kk
theorem gl_RX8_76 : Cond.fieldLink RX8 76 RX8 (TX8 11).2.1 (TX8 11).2.2.1 ∈ lw_tbl := tb_in 287 (by decide +kernel)
theorem gf_RX8_76 (X : gC E w cc nL RX8 h) (hd : decode cc pc = .ok (.getfield 76, 3)) (hp : pc + 3 = n) (kk : gW E w nL σ n L (.int (rF σ 1) :: st)) : gW E w nL σ pc L (.ref (w.1 0) :: st) := g_get X (k := 0) (j := 11) (by decide) rfl rfl (by decide) rfl uw_8 gl_RX8_76 rfl hd hp kk
theorem gp_RX8_76 {x : Int32} (X : gC E w cc nL RX8 h) (hd : decode cc pc = .ok (.putfield 76, 3)) (hp : pc + 3 = n) (kk : ∀ σ1 : St, σ1 = stF σ 1 x → gW E w nL σ1 n L st) : gW E w nL σ pc L (.int x :: .ref (w.1 0) :: st) := g_putI X (k := 0) (j := 11) tyX8 tyX8_ok nmX8 (by decide) rfl rfl (by decide) rfl (by decide) uw_8 gl_RX8_76 rfl rfl rfl hd hp kk
theorem gl_RX9_7 : Cond.fieldLink RX9 7 RX9 (TX9 0).2.1 (TX9 0).2.2.1 ∈ lw_tbl := tb_in 838 (by decide +kernel)
theorem gf_RX9_7 (X : gC E w cc nL RX9 h) (hd : decode cc pc = .ok (.getfield 7, 3)) (hp : pc + 3 = n) (kk : gW E w nL σ n L (.ref (w.1 63) :: st)) : gW E w nL σ pc L (.ref (w.1 9) :: st) := g_get X (k := 9) (j := 0) (by decide) rfl rfl (by decide) rfl uw_9 gl_RX9_7 rfl hd hp kk
theorem gl_RX9_13 : Cond.fieldLink RX9 13 RX9 (TX9 1).2.1 (TX9 1).2.2.1 ∈ lw_tbl := tb_in 839 (by decide +kernel)
theorem gf_RX9_13 (X : gC E w cc nL RX9 h) (hd : decode cc pc = .ok (.getfield 13, 3)) (hp : pc + 3 = n) (kk : gW E w nL σ n L (.ref (w.1 64) :: st)) : gW E w nL σ pc L (.ref (w.1 9) :: st) := g_get X (k := 9) (j := 1) (by decide) rfl rfl (by decide) rfl uw_9 gl_RX9_13 rfl hd hp kk
theorem gl_RX9_16 : Cond.fieldLink RX9 16 RX9 (TX9 2).2.1 (TX9 2).2.2.1 ∈ lw_tbl := tb_in 840 (by decide +kernel)
theorem gf_RX9_16 (X : gC E w cc nL RX9 h) (hd : decode cc pc = .ok (.getfield 16, 3)) (hp : pc + 3 = n) (kk : gW E w nL σ n L (.ref (w.1 65) :: st)) : gW E w nL σ pc L (.ref (w.1 9) :: st) := g_get X (k := 9) (j := 2) (by decide) rfl rfl (by decide) rfl uw_9 gl_RX9_16 rfl hd hp kk
theorem gl_RX9_95 : Cond.fieldLink RX9 95 RX9 (TX9 3).2.1 (TX9 3).2.2.1 ∈ lw_tbl := tb_in 841 (by decide +kernel)
theorem gf_RX9_95 (X : gC E w cc nL RX9 h) (hd : decode cc pc = .ok (.getfield 95, 3)) (hp : pc + 3 = n) (kk : gW E w nL σ n L (.int (rF σ 40) :: st)) : gW E w nL σ pc L (.ref (w.1 9) :: st) := g_get X (k := 9) (j := 3) (by decide) rfl rfl (by decide) rfl uw_9 gl_RX9_95 rfl hd hp kk
theorem gp_RX9_95 {x : Int32} (X : gC E w cc nL RX9 h) (hd : decode cc pc = .ok (.putfield 95, 3)) (hp : pc + 3 = n) (kk : ∀ σ1 : St, σ1 = stF σ 40 x → gW E w nL σ1 n L st) : gW E w nL σ pc L (.int x :: .ref (w.1 9) :: st) := g_putI X (k := 9) (j := 3) tyX9 tyX9_ok nmX9 (by decide) rfl rfl (by decide) rfl (by decide) uw_9 gl_RX9_95 rfl rfl rfl hd hp kk
theorem gl_RX9_19 : Cond.fieldLink RX9 19 RX9 (TX9 4).2.1 (TX9 4).2.2.1 ∈ lw_tbl := tb_in 842 (by decide +kernel)
theorem gf_RX9_19 (X : gC E w cc nL RX9 h) (hd : decode cc pc = .ok (.getfield 19, 3)) (hp : pc + 3 = n) (kk : gW E w nL σ n L (.ref (w.1 66) :: st)) : gW E w nL σ pc L (.ref (w.1 9) :: st) := g_get X (k := 9) (j := 4) (by decide) rfl rfl (by decide) rfl uw_9 gl_RX9_19 rfl hd hp kk
theorem gl_RX9_119 : Cond.fieldLink RX9 119 RX9 (TX9 5).2.1 (TX9 5).2.2.1 ∈ lw_tbl := tb_in 843 (by decide +kernel)
theorem gf_RX9_119 (X : gC E w cc nL RX9 h) (hd : decode cc pc = .ok (.getfield 119, 3)) (hp : pc + 3 = n) (kk : gW E w nL σ n L (.int (rF σ 41) :: st)) : gW E w nL σ pc L (.ref (w.1 9) :: st) := g_get X (k := 9) (j := 5) (by decide) rfl rfl (by decide) rfl uw_9 gl_RX9_119 rfl hd hp kk
theorem gp_RX9_119 {x : Int32} (X : gC E w cc nL RX9 h) (hd : decode cc pc = .ok (.putfield 119, 3)) (hp : pc + 3 = n) (kk : ∀ σ1 : St, σ1 = stF σ 41 x → gW E w nL σ1 n L st) : gW E w nL σ pc L (.int x :: .ref (w.1 9) :: st) := g_putI X (k := 9) (j := 5) tyX9 tyX9_ok nmX9 (by decide) rfl rfl (by decide) rfl (by decide) uw_9 gl_RX9_119 rfl rfl rfl hd hp kk
theorem gl_RX9_187 : Cond.fieldLink RX9 187 RX9 (TX9 6).2.1 (TX9 6).2.2.1 ∈ lw_tbl := tb_in 844 (by decide +kernel)
theorem gf_RX9_187 (X : gC E w cc nL RX9 h) (hd : decode cc pc = .ok (.getfield 187, 3)) (hp : pc + 3 = n) (kk : gW E w nL σ n L (.int (rF σ 42) :: st)) : gW E w nL σ pc L (.ref (w.1 9) :: st) := g_get X (k := 9) (j := 6) (by decide) rfl rfl (by decide) rfl uw_9 gl_RX9_187 rfl hd hp kk
theorem gp_RX9_187 {x : Int32} (X : gC E w cc nL RX9 h) (hd : decode cc pc = .ok (.putfield 187, 3)) (hp : pc + 3 = n) (kk : ∀ σ1 : St, σ1 = stF σ 42 x → gW E w nL σ1 n L st) : gW E w nL σ pc L (.int x :: .ref (w.1 9) :: st) := g_putI X (k := 9) (j := 6) tyX9 tyX9_ok nmX9 (by decide) rfl rfl (by decide) rfl (by decide) uw_9 gl_RX9_187 rfl rfl rfl hd hp kk
theorem gl_RX9_22 : Cond.fieldLink RX9 22 RX9 (TX9 7).2.1 (TX9 7).2.2.1 ∈ lw_tbl := tb_in 845 (by decide +kernel)
theorem gf_RX9_22 (X : gC E w cc nL RX9 h) (hd : decode cc pc = .ok (.getfield 22, 3)) (hp : pc + 3 = n) (kk : gW E w nL σ n L (.ref (w.1 67) :: st)) : gW E w nL σ pc L (.ref (w.1 9) :: st) := g_get X (k := 9) (j := 7) (by decide) rfl rfl (by decide) rfl uw_9 gl_RX9_22 rfl hd hp kk
theorem gl_RX9_25 : Cond.fieldLink RX9 25 RX9 (TX9 8).2.1 (TX9 8).2.2.1 ∈ lw_tbl := tb_in 846 (by decide +kernel)
theorem gf_RX9_25 (X : gC E w cc nL RX9 h) (hd : decode cc pc = .ok (.getfield 25, 3)) (hp : pc + 3 = n) (kk : gW E w nL σ n L (.ref (w.1 68) :: st)) : gW E w nL σ pc L (.ref (w.1 9) :: st) := g_get X (k := 9) (j := 8) (by decide) rfl rfl (by decide) rfl uw_9 gl_RX9_25 rfl hd hp kk
theorem gl_RX9_28 : Cond.fieldLink RX9 28 RX9 (TX9 9).2.1 (TX9 9).2.2.1 ∈ lw_tbl := tb_in 847 (by decide +kernel)
theorem gf_RX9_28 (X : gC E w cc nL RX9 h) (hd : decode cc pc = .ok (.getfield 28, 3)) (hp : pc + 3 = n) (kk : gW E w nL σ n L (.ref (w.1 69) :: st)) : gW E w nL σ pc L (.ref (w.1 9) :: st) := g_get X (k := 9) (j := 9) (by decide) rfl rfl (by decide) rfl uw_9 gl_RX9_28 rfl hd hp kk
theorem gl_RX9_31 : Cond.fieldLink RX9 31 RX9 (TX9 10).2.1 (TX9 10).2.2.1 ∈ lw_tbl := tb_in 848 (by decide +kernel)
theorem gf_RX9_31 (X : gC E w cc nL RX9 h) (hd : decode cc pc = .ok (.getfield 31, 3)) (hp : pc + 3 = n) (kk : gW E w nL σ n L (.ref (w.1 70) :: st)) : gW E w nL σ pc L (.ref (w.1 9) :: st) := g_get X (k := 9) (j := 10) (by decide) rfl rfl (by decide) rfl uw_9 gl_RX9_31 rfl hd hp kk
theorem gl_RX9_34 : Cond.fieldLink RX9 34 RX9 (TX9 11).2.1 (TX9 11).2.2.1 ∈ lw_tbl := tb_in 849 (by decide +kernel)
theorem gf_RX9_34 (X : gC E w cc nL RX9 h) (hd : decode cc pc = .ok (.getfield 34, 3)) (hp : pc + 3 = n) (kk : gW E w nL σ n L (.ref (w.1 71) :: st)) : gW E w nL σ pc L (.ref (w.1 9) :: st) := g_get X (k := 9) (j := 11) (by decide) rfl rfl (by decide) rfl uw_9 gl_RX9_34 rfl hd hp kk
theorem gl_RX9_37 : Cond.fieldLink RX9 37 RX9 (TX9 12).2.1 (TX9 12).2.2.1 ∈ lw_tbl := tb_in 850 (by decide +kernel)
theorem gf_RX9_37 (X : gC E w cc nL RX9 h) (hd : decode cc pc = .ok (.getfield 37, 3)) (hp : pc + 3 = n) (kk : gW E w nL σ n L (.ref (w.1 72) :: st)) : gW E w nL σ pc L (.ref (w.1 9) :: st) := g_get X (k := 9) (j := 12) (by decide) rfl rfl (by decide) rfl uw_9 gl_RX9_37 rfl hd hp kk
theorem gl_RX9_40 : Cond.fieldLink RX9 40 RX9 (TX9 13).2.1 (TX9 13).2.2.1 ∈ lw_tbl := tb_in 851 (by decide +kernel)
theorem gf_RX9_40 (X : gC E w cc nL RX9 h) (hd : decode cc pc = .ok (.getfield 40, 3)) (hp : pc + 3 = n) (kk : gW E w nL σ n L (.ref (w.1 73) :: st)) : gW E w nL σ pc L (.ref (w.1 9) :: st) := g_get X (k := 9) (j := 13) (by decide) rfl rfl (by decide) rfl uw_9 gl_RX9_40 rfl hd hp kk
theorem gl_RX9_43 : Cond.fieldLink RX9 43 RX9 (TX9 14).2.1 (TX9 14).2.2.1 ∈ lw_tbl := tb_in 852 (by decide +kernel)
theorem gf_RX9_43 (X : gC E w cc nL RX9 h) (hd : decode cc pc = .ok (.getfield 43, 3)) (hp : pc + 3 = n) (kk : gW E w nL σ n L (.ref (w.1 74) :: st)) : gW E w nL σ pc L (.ref (w.1 9) :: st) := g_get X (k := 9) (j := 14) (by decide) rfl rfl (by decide) rfl uw_9 gl_RX9_43 rfl hd hp kk
theorem gl_RX9_46 : Cond.fieldLink RX9 46 RX9 (TX9 15).2.1 (TX9 15).2.2.1 ∈ lw_tbl := tb_in 853 (by decide +kernel)
theorem gf_RX9_46 (X : gC E w cc nL RX9 h) (hd : decode cc pc = .ok (.getfield 46, 3)) (hp : pc + 3 = n) (kk : gW E w nL σ n L (.ref (w.1 75) :: st)) : gW E w nL σ pc L (.ref (w.1 9) :: st) := g_get X (k := 9) (j := 15) (by decide) rfl rfl (by decide) rfl uw_9 gl_RX9_46 rfl hd hp kk
theorem gl_RX9_192 : Cond.fieldLink RX9 192 RX9 (TX9 16).2.1 (TX9 16).2.2.1 ∈ lw_tbl := tb_in 854 (by decide +kernel)
theorem gf_RX9_192 (X : gC E w cc nL RX9 h) (hd : decode cc pc = .ok (.getfield 192, 3)) (hp : pc + 3 = n) (kk : gW E w nL σ n L (.int (rF σ 43) :: st)) : gW E w nL σ pc L (.ref (w.1 9) :: st) := g_get X (k := 9) (j := 16) (by decide) rfl rfl (by decide) rfl uw_9 gl_RX9_192 rfl hd hp kk
theorem gp_RX9_192 {x : Int32} (X : gC E w cc nL RX9 h) (hd : decode cc pc = .ok (.putfield 192, 3)) (hp : pc + 3 = n) (kk : ∀ σ1 : St, σ1 = stF σ 43 x → gW E w nL σ1 n L st) : gW E w nL σ pc L (.int x :: .ref (w.1 9) :: st) := g_putI X (k := 9) (j := 16) tyX9 tyX9_ok nmX9 (by decide) rfl rfl (by decide) rfl (by decide) uw_9 gl_RX9_192 rfl rfl rfl hd hp kk
theorem gl_RX9_49 : Cond.fieldLink RX9 49 RX9 (TX9 17).2.1 (TX9 17).2.2.1 ∈ lw_tbl := tb_in 855 (by decide +kernel)
theorem gf_RX9_49 (X : gC E w cc nL RX9 h) (hd : decode cc pc = .ok (.getfield 49, 3)) (hp : pc + 3 = n) (kk : gW E w nL σ n L (.ref (w.1 76) :: st)) : gW E w nL σ pc L (.ref (w.1 9) :: st) := g_get X (k := 9) (j := 17) (by decide) rfl rfl (by decide) rfl uw_9 gl_RX9_49 rfl hd hp kk
theorem gl_RX9_52 : Cond.fieldLink RX9 52 RX9 (TX9 18).2.1 (TX9 18).2.2.1 ∈ lw_tbl := tb_in 856 (by decide +kernel)
theorem gf_RX9_52 (X : gC E w cc nL RX9 h) (hd : decode cc pc = .ok (.getfield 52, 3)) (hp : pc + 3 = n) (kk : gW E w nL σ n L (.ref (w.1 77) :: st)) : gW E w nL σ pc L (.ref (w.1 9) :: st) := g_get X (k := 9) (j := 18) (by decide) rfl rfl (by decide) rfl uw_9 gl_RX9_52 rfl hd hp kk
theorem gl_RX9_55 : Cond.fieldLink RX9 55 RX9 (TX9 19).2.1 (TX9 19).2.2.1 ∈ lw_tbl := tb_in 857 (by decide +kernel)
theorem gf_RX9_55 (X : gC E w cc nL RX9 h) (hd : decode cc pc = .ok (.getfield 55, 3)) (hp : pc + 3 = n) (kk : gW E w nL σ n L (.ref (w.1 78) :: st)) : gW E w nL σ pc L (.ref (w.1 9) :: st) := g_get X (k := 9) (j := 19) (by decide) rfl rfl (by decide) rfl uw_9 gl_RX9_55 rfl hd hp kk
theorem gl_RX9_58 : Cond.fieldLink RX9 58 RX9 (TX9 20).2.1 (TX9 20).2.2.1 ∈ lw_tbl := tb_in 858 (by decide +kernel)
theorem gf_RX9_58 (X : gC E w cc nL RX9 h) (hd : decode cc pc = .ok (.getfield 58, 3)) (hp : pc + 3 = n) (kk : gW E w nL σ n L (.ref (w.1 79) :: st)) : gW E w nL σ pc L (.ref (w.1 9) :: st) := g_get X (k := 9) (j := 20) (by decide) rfl rfl (by decide) rfl uw_9 gl_RX9_58 rfl hd hp kk
theorem gl_RX9_195 : Cond.fieldLink RX9 195 RX9 (TX9 21).2.1 (TX9 21).2.2.1 ∈ lw_tbl := tb_in 859 (by decide +kernel)
theorem gf_RX9_195 (X : gC E w cc nL RX9 h) (hd : decode cc pc = .ok (.getfield 195, 3)) (hp : pc + 3 = n) (kk : gW E w nL σ n L (.int (rF σ 44) :: st)) : gW E w nL σ pc L (.ref (w.1 9) :: st) := g_get X (k := 9) (j := 21) (by decide) rfl rfl (by decide) rfl uw_9 gl_RX9_195 rfl hd hp kk
theorem gp_RX9_195 {x : Int32} (X : gC E w cc nL RX9 h) (hd : decode cc pc = .ok (.putfield 195, 3)) (hp : pc + 3 = n) (kk : ∀ σ1 : St, σ1 = stF σ 44 x → gW E w nL σ1 n L st) : gW E w nL σ pc L (.int x :: .ref (w.1 9) :: st) := g_putI X (k := 9) (j := 21) tyX9 tyX9_ok nmX9 (by decide) rfl rfl (by decide) rfl (by decide) uw_9 gl_RX9_195 rfl rfl rfl hd hp kk
theorem gl_RX9_61 : Cond.fieldLink RX9 61 RX9 (TX9 22).2.1 (TX9 22).2.2.1 ∈ lw_tbl := tb_in 860 (by decide +kernel)
theorem gf_RX9_61 (X : gC E w cc nL RX9 h) (hd : decode cc pc = .ok (.getfield 61, 3)) (hp : pc + 3 = n) (kk : gW E w nL σ n L (.ref (w.1 80) :: st)) : gW E w nL σ pc L (.ref (w.1 9) :: st) := g_get X (k := 9) (j := 22) (by decide) rfl rfl (by decide) rfl uw_9 gl_RX9_61 rfl hd hp kk
theorem gl_RX9_294 : Cond.fieldLink RX9 294 RX9 (TX9 23).2.1 (TX9 23).2.2.1 ∈ lw_tbl := tb_in 861 (by decide +kernel)
theorem gf_RX9_294 (X : gC E w cc nL RX9 h) (hd : decode cc pc = .ok (.getfield 294, 3)) (hp : pc + 3 = n) (kk : gW E w nL σ n L (.int (rF σ 45) :: st)) : gW E w nL σ pc L (.ref (w.1 9) :: st) := g_get X (k := 9) (j := 23) (by decide) rfl rfl (by decide) rfl uw_9 gl_RX9_294 rfl hd hp kk
theorem gp_RX9_294 {x : Int32} (X : gC E w cc nL RX9 h) (hd : decode cc pc = .ok (.putfield 294, 3)) (hp : pc + 3 = n) (kk : ∀ σ1 : St, σ1 = stF σ 45 x → gW E w nL σ1 n L st) : gW E w nL σ pc L (.int x :: .ref (w.1 9) :: st) := g_putI X (k := 9) (j := 23) tyX9 tyX9_ok nmX9 (by decide) rfl rfl (by decide) rfl (by decide) uw_9 gl_RX9_294 rfl rfl rfl hd hp kk
theorem gl_RX9_126 : Cond.fieldLink RX9 126 RX9 (TX9 24).2.1 (TX9 24).2.2.1 ∈ lw_tbl := tb_in 862 (by decide +kernel)
theorem gf_RX9_126 (X : gC E w cc nL RX9 h) (hd : decode cc pc = .ok (.getfield 126, 3)) (hp : pc + 3 = n) (kk : gW E w nL σ n L (.int (rF σ 46) :: st)) : gW E w nL σ pc L (.ref (w.1 9) :: st) := g_get X (k := 9) (j := 24) (by decide) rfl rfl (by decide) rfl uw_9 gl_RX9_126 rfl hd hp kk
theorem gp_RX9_126 {x : Int32} (X : gC E w cc nL RX9 h) (hd : decode cc pc = .ok (.putfield 126, 3)) (hp : pc + 3 = n) (kk : ∀ σ1 : St, σ1 = stF σ 46 x → gW E w nL σ1 n L st) : gW E w nL σ pc L (.int x :: .ref (w.1 9) :: st) := g_putI X (k := 9) (j := 24) tyX9 tyX9_ok nmX9 (by decide) rfl rfl (by decide) rfl (by decide) uw_9 gl_RX9_126 rfl rfl rfl hd hp kk
theorem gl_RX9_129 : Cond.fieldLink RX9 129 RX9 (TX9 25).2.1 (TX9 25).2.2.1 ∈ lw_tbl := tb_in 863 (by decide +kernel)
theorem gf_RX9_129 (X : gC E w cc nL RX9 h) (hd : decode cc pc = .ok (.getfield 129, 3)) (hp : pc + 3 = n) (kk : gW E w nL σ n L (.int (rF σ 47) :: st)) : gW E w nL σ pc L (.ref (w.1 9) :: st) := g_get X (k := 9) (j := 25) (by decide) rfl rfl (by decide) rfl uw_9 gl_RX9_129 rfl hd hp kk
theorem gp_RX9_129 {x : Int32} (X : gC E w cc nL RX9 h) (hd : decode cc pc = .ok (.putfield 129, 3)) (hp : pc + 3 = n) (kk : ∀ σ1 : St, σ1 = stF σ 47 x → gW E w nL σ1 n L st) : gW E w nL σ pc L (.int x :: .ref (w.1 9) :: st) := g_putI X (k := 9) (j := 25) tyX9 tyX9_ok nmX9 (by decide) rfl rfl (by decide) rfl (by decide) uw_9 gl_RX9_129 rfl rfl rfl hd hp kk
theorem gl_RX9_132 : Cond.fieldLink RX9 132 RX9 (TX9 26).2.1 (TX9 26).2.2.1 ∈ lw_tbl := tb_in 864 (by decide +kernel)
theorem gf_RX9_132 (X : gC E w cc nL RX9 h) (hd : decode cc pc = .ok (.getfield 132, 3)) (hp : pc + 3 = n) (kk : gW E w nL σ n L (.int (rF σ 48) :: st)) : gW E w nL σ pc L (.ref (w.1 9) :: st) := g_get X (k := 9) (j := 26) (by decide) rfl rfl (by decide) rfl uw_9 gl_RX9_132 rfl hd hp kk
theorem gp_RX9_132 {x : Int32} (X : gC E w cc nL RX9 h) (hd : decode cc pc = .ok (.putfield 132, 3)) (hp : pc + 3 = n) (kk : ∀ σ1 : St, σ1 = stF σ 48 x → gW E w nL σ1 n L st) : gW E w nL σ pc L (.int x :: .ref (w.1 9) :: st) := g_putI X (k := 9) (j := 26) tyX9 tyX9_ok nmX9 (by decide) rfl rfl (by decide) rfl (by decide) uw_9 gl_RX9_132 rfl rfl rfl hd hp kk
theorem gl_RX9_143 : Cond.fieldLink RX9 143 RX9 (TX9 27).2.1 (TX9 27).2.2.1 ∈ lw_tbl := tb_in 865 (by decide +kernel)
theorem gf_RX9_143 (X : gC E w cc nL RX9 h) (hd : decode cc pc = .ok (.getfield 143, 3)) (hp : pc + 3 = n) (kk : gW E w nL σ n L (.int (rF σ 49) :: st)) : gW E w nL σ pc L (.ref (w.1 9) :: st) := g_get X (k := 9) (j := 27) (by decide) rfl rfl (by decide) rfl uw_9 gl_RX9_143 rfl hd hp kk
theorem gp_RX9_143 {x : Int32} (X : gC E w cc nL RX9 h) (hd : decode cc pc = .ok (.putfield 143, 3)) (hp : pc + 3 = n) (kk : ∀ σ1 : St, σ1 = stF σ 49 x → gW E w nL σ1 n L st) : gW E w nL σ pc L (.int x :: .ref (w.1 9) :: st) := g_putI X (k := 9) (j := 27) tyX9 tyX9_ok nmX9 (by decide) rfl rfl (by decide) rfl (by decide) uw_9 gl_RX9_143 rfl rfl rfl hd hp kk
theorem gl_RX9_64 : Cond.fieldLink RX9 64 RX9 (TX9 28).2.1 (TX9 28).2.2.1 ∈ lw_tbl := tb_in 866 (by decide +kernel)
theorem gf_RX9_64 (X : gC E w cc nL RX9 h) (hd : decode cc pc = .ok (.getfield 64, 3)) (hp : pc + 3 = n) (kk : gW E w nL σ n L (.ref (w.1 81) :: st)) : gW E w nL σ pc L (.ref (w.1 9) :: st) := g_get X (k := 9) (j := 28) (by decide) rfl rfl (by decide) rfl uw_9 gl_RX9_64 rfl hd hp kk
theorem gl_RX9_67 : Cond.fieldLink RX9 67 RX9 (TX9 29).2.1 (TX9 29).2.2.1 ∈ lw_tbl := tb_in 867 (by decide +kernel)
theorem gf_RX9_67 (X : gC E w cc nL RX9 h) (hd : decode cc pc = .ok (.getfield 67, 3)) (hp : pc + 3 = n) (kk : gW E w nL σ n L (.ref (w.1 82) :: st)) : gW E w nL σ pc L (.ref (w.1 9) :: st) := g_get X (k := 9) (j := 29) (by decide) rfl rfl (by decide) rfl uw_9 gl_RX9_67 rfl hd hp kk
theorem gl_RX9_70 : Cond.fieldLink RX9 70 RX9 (TX9 30).2.1 (TX9 30).2.2.1 ∈ lw_tbl := tb_in 868 (by decide +kernel)
theorem gf_RX9_70 (X : gC E w cc nL RX9 h) (hd : decode cc pc = .ok (.getfield 70, 3)) (hp : pc + 3 = n) (kk : gW E w nL σ n L (.ref (w.1 83) :: st)) : gW E w nL σ pc L (.ref (w.1 9) :: st) := g_get X (k := 9) (j := 30) (by decide) rfl rfl (by decide) rfl uw_9 gl_RX9_70 rfl hd hp kk
theorem gl_RX9_160 : Cond.fieldLink RX9 160 RX9 (TX9 31).2.1 (TX9 31).2.2.1 ∈ lw_tbl := tb_in 869 (by decide +kernel)
theorem gf_RX9_160 (X : gC E w cc nL RX9 h) (hd : decode cc pc = .ok (.getfield 160, 3)) (hp : pc + 3 = n) (kk : gW E w nL σ n L (.int (rF σ 50) :: st)) : gW E w nL σ pc L (.ref (w.1 9) :: st) := g_get X (k := 9) (j := 31) (by decide) rfl rfl (by decide) rfl uw_9 gl_RX9_160 rfl hd hp kk
theorem gp_RX9_160 {x : Int32} (X : gC E w cc nL RX9 h) (hd : decode cc pc = .ok (.putfield 160, 3)) (hp : pc + 3 = n) (kk : ∀ σ1 : St, σ1 = stF σ 50 x → gW E w nL σ1 n L st) : gW E w nL σ pc L (.int x :: .ref (w.1 9) :: st) := g_putI X (k := 9) (j := 31) tyX9 tyX9_ok nmX9 (by decide) rfl rfl (by decide) rfl (by decide) uw_9 gl_RX9_160 rfl rfl rfl hd hp kk
theorem gl_RX9_157 : Cond.fieldLink RX9 157 RX9 (TX9 32).2.1 (TX9 32).2.2.1 ∈ lw_tbl := tb_in 870 (by decide +kernel)
theorem gf_RX9_157 (X : gC E w cc nL RX9 h) (hd : decode cc pc = .ok (.getfield 157, 3)) (hp : pc + 3 = n) (kk : gW E w nL σ n L (.int (rF σ 51) :: st)) : gW E w nL σ pc L (.ref (w.1 9) :: st) := g_get X (k := 9) (j := 32) (by decide) rfl rfl (by decide) rfl uw_9 gl_RX9_157 rfl hd hp kk
theorem gp_RX9_157 {x : Int32} (X : gC E w cc nL RX9 h) (hd : decode cc pc = .ok (.putfield 157, 3)) (hp : pc + 3 = n) (kk : ∀ σ1 : St, σ1 = stF σ 51 x → gW E w nL σ1 n L st) : gW E w nL σ pc L (.int x :: .ref (w.1 9) :: st) := g_putI X (k := 9) (j := 32) tyX9 tyX9_ok nmX9 (by decide) rfl rfl (by decide) rfl (by decide) uw_9 gl_RX9_157 rfl rfl rfl hd hp kk
theorem gl_RX9_73 : Cond.fieldLink RX9 73 RX9 (TX9 33).2.1 (TX9 33).2.2.1 ∈ lw_tbl := tb_in 871 (by decide +kernel)
theorem gf_RX9_73 (X : gC E w cc nL RX9 h) (hd : decode cc pc = .ok (.getfield 73, 3)) (hp : pc + 3 = n) (kk : gW E w nL σ n L (.ref (w.1 84) :: st)) : gW E w nL σ pc L (.ref (w.1 9) :: st) := g_get X (k := 9) (j := 33) (by decide) rfl rfl (by decide) rfl uw_9 gl_RX9_73 rfl hd hp kk
theorem gl_RX9_77 : Cond.fieldLink RX9 77 RX9 (TX9 34).2.1 (TX9 34).2.2.1 ∈ lw_tbl := tb_in 872 (by decide +kernel)
theorem gf_RX9_77 (X : gC E w cc nL RX9 h) (hd : decode cc pc = .ok (.getfield 77, 3)) (hp : pc + 3 = n) (kk : gW E w nL σ n L (.ref (w.1 85) :: st)) : gW E w nL σ pc L (.ref (w.1 9) :: st) := g_get X (k := 9) (j := 34) (by decide) rfl rfl (by decide) rfl uw_9 gl_RX9_77 rfl hd hp kk
theorem gl_RX9_80 : Cond.fieldLink RX9 80 RX9 (TX9 35).2.1 (TX9 35).2.2.1 ∈ lw_tbl := tb_in 873 (by decide +kernel)
theorem gf_RX9_80 (X : gC E w cc nL RX9 h) (hd : decode cc pc = .ok (.getfield 80, 3)) (hp : pc + 3 = n) (kk : gW E w nL σ n L (.ref (w.1 86) :: st)) : gW E w nL σ pc L (.ref (w.1 9) :: st) := g_get X (k := 9) (j := 35) (by decide) rfl rfl (by decide) rfl uw_9 gl_RX9_80 rfl hd hp kk
theorem gl_RX9_83 : Cond.fieldLink RX9 83 RX9 (TX9 36).2.1 (TX9 36).2.2.1 ∈ lw_tbl := tb_in 874 (by decide +kernel)
theorem gf_RX9_83 (X : gC E w cc nL RX9 h) (hd : decode cc pc = .ok (.getfield 83, 3)) (hp : pc + 3 = n) (kk : gW E w nL σ n L (.ref (w.1 87) :: st)) : gW E w nL σ pc L (.ref (w.1 9) :: st) := g_get X (k := 9) (j := 36) (by decide) rfl rfl (by decide) rfl uw_9 gl_RX9_83 rfl hd hp kk
theorem gl_RX9_86 : Cond.fieldLink RX9 86 RX9 (TX9 37).2.1 (TX9 37).2.2.1 ∈ lw_tbl := tb_in 875 (by decide +kernel)
theorem gf_RX9_86 (X : gC E w cc nL RX9 h) (hd : decode cc pc = .ok (.getfield 86, 3)) (hp : pc + 3 = n) (kk : gW E w nL σ n L (.ref (w.1 88) :: st)) : gW E w nL σ pc L (.ref (w.1 9) :: st) := g_get X (k := 9) (j := 37) (by decide) rfl rfl (by decide) rfl uw_9 gl_RX9_86 rfl hd hp kk
theorem gl_RX9_246 : Cond.fieldLink RX9 246 RX9 (TX9 38).2.1 (TX9 38).2.2.1 ∈ lw_tbl := tb_in 876 (by decide +kernel)
theorem gf_RX9_246 (X : gC E w cc nL RX9 h) (hd : decode cc pc = .ok (.getfield 246, 3)) (hp : pc + 3 = n) (kk : gW E w nL σ n L (.int (rF σ 52) :: st)) : gW E w nL σ pc L (.ref (w.1 9) :: st) := g_get X (k := 9) (j := 38) (by decide) rfl rfl (by decide) rfl uw_9 gl_RX9_246 rfl hd hp kk
theorem gp_RX9_246 {x : Int32} (X : gC E w cc nL RX9 h) (hd : decode cc pc = .ok (.putfield 246, 3)) (hp : pc + 3 = n) (kk : ∀ σ1 : St, σ1 = stF σ 52 x → gW E w nL σ1 n L st) : gW E w nL σ pc L (.int x :: .ref (w.1 9) :: st) := g_putI X (k := 9) (j := 38) tyX9 tyX9_ok nmX9 (by decide) rfl rfl (by decide) rfl (by decide) uw_9 gl_RX9_246 rfl rfl rfl hd hp kk
theorem gl_RX9_249 : Cond.fieldLink RX9 249 RX9 (TX9 39).2.1 (TX9 39).2.2.1 ∈ lw_tbl := tb_in 877 (by decide +kernel)
theorem gf_RX9_249 (X : gC E w cc nL RX9 h) (hd : decode cc pc = .ok (.getfield 249, 3)) (hp : pc + 3 = n) (kk : gW E w nL σ n L (.int (rF σ 53) :: st)) : gW E w nL σ pc L (.ref (w.1 9) :: st) := g_get X (k := 9) (j := 39) (by decide) rfl rfl (by decide) rfl uw_9 gl_RX9_249 rfl hd hp kk
theorem gp_RX9_249 {x : Int32} (X : gC E w cc nL RX9 h) (hd : decode cc pc = .ok (.putfield 249, 3)) (hp : pc + 3 = n) (kk : ∀ σ1 : St, σ1 = stF σ 53 x → gW E w nL σ1 n L st) : gW E w nL σ pc L (.int x :: .ref (w.1 9) :: st) := g_putI X (k := 9) (j := 39) tyX9 tyX9_ok nmX9 (by decide) rfl rfl (by decide) rfl (by decide) uw_9 gl_RX9_249 rfl rfl rfl hd hp kk
end LK
end
section
theorem my_yJ7_fill_53178 : gY yJ7_fill_53178 cJ7_fill_53178 4 none 2 := ⟨tb_in 35 (by decide +kernel), tb_in 3 (by decide +kernel), ⟨by decide +kernel, by decide +kernel, by decide +kernel⟩, by decide⟩
theorem mt_yJ7_fill_53178 : Cond.static yJ7_fill_53178 ∈ lw_tbl := tb_in 34 (by decide +kernel)
theorem my_yX8_row : gY yX8_row cX8_row 4 (some .long) 3 := ⟨tb_in 316 (by decide +kernel), tb_in 1 (by decide +kernel), ⟨by decide +kernel, by decide +kernel, by decide +kernel⟩, by decide⟩
theorem mi_yX8_row : Cond.instanceMethod yX8_row ∈ lw_tbl := tb_in 314 (by decide +kernel)
theorem ms_yX8_row : Cond.selects yX8_row.cls yX8_row yX8_row ∈ lw_tbl := tb_in 315 (by decide +kernel)
theorem my_yX8_isRow : gY yX8_isRow cX8_isRow 1 (some .boolean) 1 := ⟨tb_in 319 (by decide +kernel), tb_in 1 (by decide +kernel), ⟨by decide +kernel, by decide +kernel, by decide +kernel⟩, by decide⟩
theorem mt_yX8_isRow : Cond.static yX8_isRow ∈ lw_tbl := tb_in 318 (by decide +kernel)
theorem my_yX8_found : gY yX8_found cX8_found 2 (some .long) 1 := ⟨tb_in 324 (by decide +kernel), tb_in 1 (by decide +kernel), ⟨by decide +kernel, by decide +kernel, by decide +kernel⟩, by decide⟩
theorem mi_yX8_found : Cond.instanceMethod yX8_found ∈ lw_tbl := tb_in 323 (by decide +kernel)
theorem ms_yX8_found : Cond.selects yX8_found.cls yX8_found yX8_found ∈ lw_tbl := sl_in (q := (yX8_found, 12)) 0 (by decide +kernel)
theorem my_yX5_lay : gY yX5_lay cX5_lay 5 none 3 := ⟨tb_in 329 (by decide +kernel), tb_in 2 (by decide +kernel), ⟨by decide +kernel, by decide +kernel, by decide +kernel⟩, by decide⟩
theorem mi_yX5_lay : Cond.instanceMethod yX5_lay ∈ lw_tbl := tb_in 327 (by decide +kernel)
theorem ms_yX5_lay : Cond.selects yX5_lay.cls yX5_lay yX5_lay ∈ lw_tbl := tb_in 328 (by decide +kernel)
theorem my_yX8_fine : gY yX8_fine cX8_fine 3 (some .long) 1 := ⟨tb_in 333 (by decide +kernel), tb_in 1 (by decide +kernel), ⟨by decide +kernel, by decide +kernel, by decide +kernel⟩, by decide⟩
theorem mi_yX8_fine : Cond.instanceMethod yX8_fine ∈ lw_tbl := tb_in 332 (by decide +kernel)
theorem ms_yX8_fine : Cond.selects yX8_fine.cls yX8_fine yX8_fine ∈ lw_tbl := sl_in (q := (yX8_fine, 12)) 1 (by decide +kernel)
theorem my_yX8_set : gY yX8_set cX8_set 4 (some .long) 3 := ⟨tb_in 337 (by decide +kernel), tb_in 1 (by decide +kernel), ⟨by decide +kernel, by decide +kernel, by decide +kernel⟩, by decide⟩
theorem mi_yX8_set : Cond.instanceMethod yX8_set ∈ lw_tbl := tb_in 335 (by decide +kernel)
theorem ms_yX8_set : Cond.selects yX8_set.cls yX8_set yX8_set ∈ lw_tbl := tb_in 336 (by decide +kernel)
theorem my_yX5_isMissing : gY yX5_isMissing cX5_isMissing 2 (some .boolean) 1 := ⟨tb_in 341 (by decide +kernel), tb_in 2 (by decide +kernel), ⟨by decide +kernel, by decide +kernel, by decide +kernel⟩, by decide⟩
theorem mi_yX5_isMissing : Cond.instanceMethod yX5_isMissing ∈ lw_tbl := tb_in 339 (by decide +kernel)
theorem ms_yX5_isMissing : Cond.selects yX5_isMissing.cls yX5_isMissing yX5_isMissing ∈ lw_tbl := tb_in 340 (by decide +kernel)
theorem my_yX5_hasItems : gY yX5_hasItems cX5_hasItems 4 (some .boolean) 3 := ⟨tb_in 345 (by decide +kernel), tb_in 2 (by decide +kernel), ⟨by decide +kernel, by decide +kernel, by decide +kernel⟩, by decide⟩
theorem mi_yX5_hasItems : Cond.instanceMethod yX5_hasItems ∈ lw_tbl := tb_in 343 (by decide +kernel)
theorem ms_yX5_hasItems : Cond.selects yX5_hasItems.cls yX5_hasItems yX5_hasItems ∈ lw_tbl := tb_in 344 (by decide +kernel)
theorem my_yX5_put : gY yX5_put cX5_put 5 (some .int) 3 := ⟨tb_in 349 (by decide +kernel), tb_in 2 (by decide +kernel), ⟨by decide +kernel, by decide +kernel, by decide +kernel⟩, by decide⟩
theorem mi_yX5_put : Cond.instanceMethod yX5_put ∈ lw_tbl := tb_in 347 (by decide +kernel)
theorem ms_yX5_put : Cond.selects yX5_put.cls yX5_put yX5_put ∈ lw_tbl := tb_in 348 (by decide +kernel)
theorem my_yX8_copy : gY yX8_copy cX8_copy 6 (some .long) 5 := ⟨tb_in 353 (by decide +kernel), tb_in 1 (by decide +kernel), ⟨by decide +kernel, by decide +kernel, by decide +kernel⟩, by decide⟩
theorem mi_yX8_copy : Cond.instanceMethod yX8_copy ∈ lw_tbl := tb_in 351 (by decide +kernel)
theorem ms_yX8_copy : Cond.selects yX8_copy.cls yX8_copy yX8_copy ∈ lw_tbl := tb_in 352 (by decide +kernel)
theorem my_yX5_bring : gY yX5_bring cX5_bring 6 none 5 := ⟨tb_in 357 (by decide +kernel), tb_in 2 (by decide +kernel), ⟨by decide +kernel, by decide +kernel, by decide +kernel⟩, by decide⟩
theorem mi_yX5_bring : Cond.instanceMethod yX5_bring ∈ lw_tbl := tb_in 355 (by decide +kernel)
theorem ms_yX5_bring : Cond.selects yX5_bring.cls yX5_bring yX5_bring ∈ lw_tbl := tb_in 356 (by decide +kernel)
theorem my_yX8_drop : gY yX8_drop cX8_drop 2 (some .long) 1 := ⟨tb_in 364 (by decide +kernel), tb_in 1 (by decide +kernel), ⟨by decide +kernel, by decide +kernel, by decide +kernel⟩, by decide⟩
theorem mi_yX8_drop : Cond.instanceMethod yX8_drop ∈ lw_tbl := tb_in 362 (by decide +kernel)
theorem ms_yX8_drop : Cond.selects yX8_drop.cls yX8_drop yX8_drop ∈ lw_tbl := tb_in 363 (by decide +kernel)
theorem my_yX5_remove : gY yX5_remove cX5_remove 3 (some .int) 1 := ⟨tb_in 368 (by decide +kernel), tb_in 2 (by decide +kernel), ⟨by decide +kernel, by decide +kernel, by decide +kernel⟩, by decide⟩
theorem mi_yX5_remove : Cond.instanceMethod yX5_remove ∈ lw_tbl := tb_in 366 (by decide +kernel)
theorem ms_yX5_remove : Cond.selects yX5_remove.cls yX5_remove yX5_remove ∈ lw_tbl := tb_in 367 (by decide +kernel)
theorem my_yX8_feed : gY yX8_feed cX8_feed 4 (some .long) 2 := ⟨tb_in 372 (by decide +kernel), tb_in 1 (by decide +kernel), ⟨by decide +kernel, by decide +kernel, by decide +kernel⟩, by decide⟩
theorem mi_yX8_feed : Cond.instanceMethod yX8_feed ∈ lw_tbl := tb_in 370 (by decide +kernel)
theorem ms_yX8_feed : Cond.selects yX8_feed.cls yX8_feed yX8_feed ∈ lw_tbl := tb_in 371 (by decide +kernel)
theorem my_yX7_push : gY yX7_push cX7_push 5 none 2 := ⟨tb_in 377 (by decide +kernel), tb_in 4 (by decide +kernel), ⟨by decide +kernel, by decide +kernel, by decide +kernel⟩, by decide⟩
theorem mi_yX7_push : Cond.instanceMethod yX7_push ∈ lw_tbl := tb_in 375 (by decide +kernel)
theorem ms_yX7_push : Cond.selects yX7_push.cls yX7_push yX7_push ∈ lw_tbl := tb_in 376 (by decide +kernel)
theorem my_yX8_game : gY yX8_game cX8_game 3 (some .long) 0 := ⟨tb_in 381 (by decide +kernel), tb_in 1 (by decide +kernel), ⟨by decide +kernel, by decide +kernel, by decide +kernel⟩, by decide⟩
theorem mi_yX8_game : Cond.instanceMethod yX8_game ∈ lw_tbl := tb_in 379 (by decide +kernel)
theorem ms_yX8_game : Cond.selects yX8_game.cls yX8_game yX8_game ∈ lw_tbl := tb_in 380 (by decide +kernel)
theorem my_yX4_readText : gY yX4_readText cX4_readText 3 (some .boolean) 2 := ⟨tb_in 385 (by decide +kernel), tb_in 5 (by decide +kernel), ⟨by decide +kernel, by decide +kernel, by decide +kernel⟩, by decide⟩
theorem mi_yX4_readText : Cond.instanceMethod yX4_readText ∈ lw_tbl := tb_in 383 (by decide +kernel)
theorem ms_yX4_readText : Cond.selects yX4_readText.cls yX4_readText yX4_readText ∈ lw_tbl := tb_in 384 (by decide +kernel)
theorem my_yX1_empty : gY yX1_empty cX1_empty 1 none 0 := ⟨tb_in 389 (by decide +kernel), tb_in 10 (by decide +kernel), ⟨by decide +kernel, by decide +kernel, by decide +kernel⟩, by decide⟩
theorem mi_yX1_empty : Cond.instanceMethod yX1_empty ∈ lw_tbl := tb_in 387 (by decide +kernel)
theorem ms_yX1_empty : Cond.selects yX1_empty.cls yX1_empty yX1_empty ∈ lw_tbl := tb_in 388 (by decide +kernel)
theorem my_yX7_rewind : gY yX7_rewind cX7_rewind 1 none 0 := ⟨tb_in 393 (by decide +kernel), tb_in 4 (by decide +kernel), ⟨by decide +kernel, by decide +kernel, by decide +kernel⟩, by decide⟩
theorem mi_yX7_rewind : Cond.instanceMethod yX7_rewind ∈ lw_tbl := tb_in 391 (by decide +kernel)
theorem ms_yX7_rewind : Cond.selects yX7_rewind.cls yX7_rewind yX7_rewind ∈ lw_tbl := tb_in 392 (by decide +kernel)
theorem my_yX7_step : gY yX7_step cX7_step 1 none 0 := ⟨tb_in 397 (by decide +kernel), tb_in 4 (by decide +kernel), ⟨by decide +kernel, by decide +kernel, by decide +kernel⟩, by decide⟩
theorem mi_yX7_step : Cond.instanceMethod yX7_step ∈ lw_tbl := tb_in 395 (by decide +kernel)
theorem ms_yX7_step : Cond.selects yX7_step.cls yX7_step yX7_step ∈ lw_tbl := tb_in 396 (by decide +kernel)
theorem my_yX7_isLetter : gY yX7_isLetter cX7_isLetter 1 (some .boolean) 1 := ⟨tb_in 400 (by decide +kernel), tb_in 4 (by decide +kernel), ⟨by decide +kernel, by decide +kernel, by decide +kernel⟩, by decide⟩
theorem mt_yX7_isLetter : Cond.static yX7_isLetter ∈ lw_tbl := tb_in 399 (by decide +kernel)
theorem my_yX7_stepOverName : gY yX7_stepOverName cX7_stepOverName 1 none 0 := ⟨tb_in 404 (by decide +kernel), tb_in 4 (by decide +kernel), ⟨by decide +kernel, by decide +kernel, by decide +kernel⟩, by decide⟩
theorem mi_yX7_stepOverName : Cond.instanceMethod yX7_stepOverName ∈ lw_tbl := tb_in 403 (by decide +kernel)
theorem ms_yX7_stepOverName : Cond.selects yX7_stepOverName.cls yX7_stepOverName yX7_stepOverName ∈ lw_tbl := sl_in (q := (yX7_stepOverName, 6)) 2 (by decide +kernel)
theorem my_yX7_isName : gY yX7_isName cX7_isName 3 (some .boolean) 1 := ⟨tb_in 409 (by decide +kernel), tb_in 4 (by decide +kernel), ⟨by decide +kernel, by decide +kernel, by decide +kernel⟩, by decide⟩
theorem mi_yX7_isName : Cond.instanceMethod yX7_isName ∈ lw_tbl := tb_in 408 (by decide +kernel)
theorem ms_yX7_isName : Cond.selects yX7_isName.cls yX7_isName yX7_isName ∈ lw_tbl := sl_in (q := (yX7_isName, 6)) 3 (by decide +kernel)
theorem my_yJ0_length_8abf5 : gY yJ0_length_8abf5 cJ0_length_8abf5 1 (some .int) 0 := ⟨tb_in 413 (by decide +kernel), tb_in 13 (by decide +kernel), ⟨by decide +kernel, by decide +kernel, by decide +kernel⟩, by decide⟩
theorem mi_yJ0_length_8abf5 : Cond.instanceMethod yJ0_length_8abf5 ∈ lw_tbl := tb_in 411 (by decide +kernel)
theorem ms_yJ0_length_8abf5 : Cond.selects yJ0_length_8abf5.cls yJ0_length_8abf5 yJ0_length_8abf5 ∈ lw_tbl := tb_in 412 (by decide +kernel)
theorem my_yJ0_coder_7d493 : gY yJ0_coder_7d493 cJ0_coder_7d493 1 (some .byte) 0 := ⟨tb_in 417 (by decide +kernel), tb_in 13 (by decide +kernel), ⟨by decide +kernel, by decide +kernel, by decide +kernel⟩, by decide⟩
theorem mi_yJ0_coder_7d493 : Cond.instanceMethod yJ0_coder_7d493 ∈ lw_tbl := tb_in 415 (by decide +kernel)
theorem ms_yJ0_coder_7d493 : Cond.selects yJ0_coder_7d493.cls yJ0_coder_7d493 yJ0_coder_7d493 ∈ lw_tbl := tb_in 416 (by decide +kernel)
theorem my_yJ0_charAt_5068e : gY yJ0_charAt_5068e cJ0_charAt_5068e 2 (some .char) 1 := ⟨tb_in 423 (by decide +kernel), tb_in 13 (by decide +kernel), ⟨by decide +kernel, by decide +kernel, by decide +kernel⟩, by decide⟩
theorem mi_yJ0_charAt_5068e : Cond.instanceMethod yJ0_charAt_5068e ∈ lw_tbl := tb_in 421 (by decide +kernel)
theorem ms_yJ0_charAt_5068e : Cond.selects yJ0_charAt_5068e.cls yJ0_charAt_5068e yJ0_charAt_5068e ∈ lw_tbl := tb_in 422 (by decide +kernel)
theorem my_yJ0_isLatin1_aae02 : gY yJ0_isLatin1_aae02 cJ0_isLatin1_aae02 1 (some .boolean) 0 := ⟨tb_in 427 (by decide +kernel), tb_in 13 (by decide +kernel), ⟨by decide +kernel, by decide +kernel, by decide +kernel⟩, by decide⟩
theorem mi_yJ0_isLatin1_aae02 : Cond.instanceMethod yJ0_isLatin1_aae02 ∈ lw_tbl := tb_in 425 (by decide +kernel)
theorem ms_yJ0_isLatin1_aae02 : Cond.selects yJ0_isLatin1_aae02.cls yJ0_isLatin1_aae02 yJ0_isLatin1_aae02 ∈ lw_tbl := tb_in 426 (by decide +kernel)
theorem my_yJ1_charAt_3b067 : gY yJ1_charAt_3b067 cJ1_charAt_3b067 2 (some .char) 2 := ⟨tb_in 430 (by decide +kernel), tb_in 14 (by decide +kernel), ⟨by decide +kernel, by decide +kernel, by decide +kernel⟩, by decide⟩
theorem mt_yJ1_charAt_3b067 : Cond.static yJ1_charAt_3b067 ∈ lw_tbl := tb_in 429 (by decide +kernel)
theorem my_yJ0_checkIndex_df160 : gY yJ0_checkIndex_df160 cJ0_checkIndex_df160 2 none 2 := ⟨tb_in 433 (by decide +kernel), tb_in 13 (by decide +kernel), ⟨by decide +kernel, by decide +kernel, by decide +kernel⟩, by decide⟩
theorem mt_yJ0_checkIndex_df160 : Cond.static yJ0_checkIndex_df160 ∈ lw_tbl := tb_in 432 (by decide +kernel)
theorem my_yX7_isFigure : gY yX7_isFigure cX7_isFigure 1 (some .boolean) 1 := ⟨tb_in 463 (by decide +kernel), tb_in 4 (by decide +kernel), ⟨by decide +kernel, by decide +kernel, by decide +kernel⟩, by decide⟩
theorem mt_yX7_isFigure : Cond.static yX7_isFigure ∈ lw_tbl := tb_in 462 (by decide +kernel)
theorem my_yX7_stepOverNumber : gY yX7_stepOverNumber cX7_stepOverNumber 1 none 0 := ⟨tb_in 467 (by decide +kernel), tb_in 4 (by decide +kernel), ⟨by decide +kernel, by decide +kernel, by decide +kernel⟩, by decide⟩
theorem mi_yX7_stepOverNumber : Cond.instanceMethod yX7_stepOverNumber ∈ lw_tbl := tb_in 466 (by decide +kernel)
theorem ms_yX7_stepOverNumber : Cond.selects yX7_stepOverNumber.cls yX7_stepOverNumber yX7_stepOverNumber ∈ lw_tbl := sl_in (q := (yX7_stepOverNumber, 6)) 4 (by decide +kernel)
theorem my_yX4_readPlace : gY yX4_readPlace cX4_readPlace 9 (some .boolean) 5 := ⟨tb_in 472 (by decide +kernel), tb_in 5 (by decide +kernel), ⟨by decide +kernel, by decide +kernel, by decide +kernel⟩, by decide⟩
theorem mi_yX4_readPlace : Cond.instanceMethod yX4_readPlace ∈ lw_tbl := tb_in 471 (by decide +kernel)
theorem ms_yX4_readPlace : Cond.selects yX4_readPlace.cls yX4_readPlace yX4_readPlace ∈ lw_tbl := sl_in (q := (yX4_readPlace, 2)) 5 (by decide +kernel)
theorem my_yX4_fail : gY yX4_fail cX4_fail 3 (some .boolean) 2 := ⟨tb_in 476 (by decide +kernel), tb_in 5 (by decide +kernel), ⟨by decide +kernel, by decide +kernel, by decide +kernel⟩, by decide⟩
theorem mi_yX4_fail : Cond.instanceMethod yX4_fail ∈ lw_tbl := tb_in 475 (by decide +kernel)
theorem ms_yX4_fail : Cond.selects yX4_fail.cls yX4_fail yX4_fail ∈ lw_tbl := sl_in (q := (yX4_fail, 2)) 6 (by decide +kernel)
theorem my_yX1_add : gY yX1_add cX1_add 7 (some .int) 5 := ⟨tb_in 480 (by decide +kernel), tb_in 10 (by decide +kernel), ⟨by decide +kernel, by decide +kernel, by decide +kernel⟩, by decide⟩
theorem mi_yX1_add : Cond.instanceMethod yX1_add ∈ lw_tbl := tb_in 478 (by decide +kernel)
theorem ms_yX1_add : Cond.selects yX1_add.cls yX1_add yX1_add ∈ lw_tbl := tb_in 479 (by decide +kernel)
theorem my_yX4_readPay : gY yX4_readPay cX4_readPay 4 (some .boolean) 3 := ⟨tb_in 485 (by decide +kernel), tb_in 5 (by decide +kernel), ⟨by decide +kernel, by decide +kernel, by decide +kernel⟩, by decide⟩
theorem mi_yX4_readPay : Cond.instanceMethod yX4_readPay ∈ lw_tbl := tb_in 484 (by decide +kernel)
theorem ms_yX4_readPay : Cond.selects yX4_readPay.cls yX4_readPay yX4_readPay ∈ lw_tbl := sl_in (q := (yX4_readPay, 2)) 7 (by decide +kernel)
theorem my_yX4_readDeal : gY yX4_readDeal cX4_readDeal 9 (some .boolean) 3 := ⟨tb_in 489 (by decide +kernel), tb_in 5 (by decide +kernel), ⟨by decide +kernel, by decide +kernel, by decide +kernel⟩, by decide⟩
theorem mi_yX4_readDeal : Cond.instanceMethod yX4_readDeal ∈ lw_tbl := tb_in 488 (by decide +kernel)
theorem ms_yX4_readDeal : Cond.selects yX4_readDeal.cls yX4_readDeal yX4_readDeal ∈ lw_tbl := sl_in (q := (yX4_readDeal, 2)) 8 (by decide +kernel)
theorem my_yX4_readHeld : gY yX4_readHeld cX4_readHeld 7 (some .boolean) 3 := ⟨tb_in 493 (by decide +kernel), tb_in 5 (by decide +kernel), ⟨by decide +kernel, by decide +kernel, by decide +kernel⟩, by decide⟩
theorem mi_yX4_readHeld : Cond.instanceMethod yX4_readHeld ∈ lw_tbl := tb_in 492 (by decide +kernel)
theorem ms_yX4_readHeld : Cond.selects yX4_readHeld.cls yX4_readHeld yX4_readHeld ∈ lw_tbl := sl_in (q := (yX4_readHeld, 2)) 9 (by decide +kernel)
theorem my_yX1_maySetBeOf : gY yX1_maySetBeOf cX1_maySetBeOf 3 (some .boolean) 2 := ⟨tb_in 497 (by decide +kernel), tb_in 10 (by decide +kernel), ⟨by decide +kernel, by decide +kernel, by decide +kernel⟩, by decide⟩
theorem mi_yX1_maySetBeOf : Cond.instanceMethod yX1_maySetBeOf ∈ lw_tbl := tb_in 495 (by decide +kernel)
theorem ms_yX1_maySetBeOf : Cond.selects yX1_maySetBeOf.cls yX1_maySetBeOf yX1_maySetBeOf ∈ lw_tbl := tb_in 496 (by decide +kernel)
theorem my_yX1_maySetHave : gY yX1_maySetHave cX1_maySetHave 3 (some .boolean) 2 := ⟨tb_in 501 (by decide +kernel), tb_in 10 (by decide +kernel), ⟨by decide +kernel, by decide +kernel, by decide +kernel⟩, by decide⟩
theorem mi_yX1_maySetHave : Cond.instanceMethod yX1_maySetHave ∈ lw_tbl := tb_in 499 (by decide +kernel)
theorem ms_yX1_maySetHave : Cond.selects yX1_maySetHave.cls yX1_maySetHave yX1_maySetHave ∈ lw_tbl := tb_in 500 (by decide +kernel)
theorem my_yX1_putIntoSet : gY yX1_putIntoSet cX1_putIntoSet 4 none 3 := ⟨tb_in 505 (by decide +kernel), tb_in 10 (by decide +kernel), ⟨by decide +kernel, by decide +kernel, by decide +kernel⟩, by decide⟩
theorem mi_yX1_putIntoSet : Cond.instanceMethod yX1_putIntoSet ∈ lw_tbl := tb_in 503 (by decide +kernel)
theorem ms_yX1_putIntoSet : Cond.selects yX1_putIntoSet.cls yX1_putIntoSet yX1_putIntoSet ∈ lw_tbl := tb_in 504 (by decide +kernel)
theorem my_yX1_finish : gY yX1_finish cX1_finish 5 none 0 := ⟨tb_in 509 (by decide +kernel), tb_in 10 (by decide +kernel), ⟨by decide +kernel, by decide +kernel, by decide +kernel⟩, by decide⟩
theorem mi_yX1_finish : Cond.instanceMethod yX1_finish ∈ lw_tbl := tb_in 507 (by decide +kernel)
theorem ms_yX1_finish : Cond.selects yX1_finish.cls yX1_finish yX1_finish ∈ lw_tbl := tb_in 508 (by decide +kernel)
theorem my_yX1_tellPast : gY yX1_tellPast cX1_tellPast 5 none 1 := ⟨tb_in 513 (by decide +kernel), tb_in 10 (by decide +kernel), ⟨by decide +kernel, by decide +kernel, by decide +kernel⟩, by decide⟩
theorem mi_yX1_tellPast : Cond.instanceMethod yX1_tellPast ∈ lw_tbl := tb_in 512 (by decide +kernel)
theorem ms_yX1_tellPast : Cond.selects yX1_tellPast.cls yX1_tellPast yX1_tellPast ∈ lw_tbl := sl_in (q := (yX1_tellPast, 18)) 10 (by decide +kernel)
theorem my_yX1_isHeld : gY yX1_isHeld cX1_isHeld 2 (some .boolean) 1 := ⟨tb_in 518 (by decide +kernel), tb_in 10 (by decide +kernel), ⟨by decide +kernel, by decide +kernel, by decide +kernel⟩, by decide⟩
theorem mi_yX1_isHeld : Cond.instanceMethod yX1_isHeld ∈ lw_tbl := tb_in 516 (by decide +kernel)
theorem ms_yX1_isHeld : Cond.selects yX1_isHeld.cls yX1_isHeld yX1_isHeld ∈ lw_tbl := tb_in 517 (by decide +kernel)
theorem my_yX3_begin : gY yX3_begin cX3_begin 2 none 0 := ⟨tb_in 523 (by decide +kernel), tb_in 6 (by decide +kernel), ⟨by decide +kernel, by decide +kernel, by decide +kernel⟩, by decide⟩
theorem mi_yX3_begin : Cond.instanceMethod yX3_begin ∈ lw_tbl := tb_in 521 (by decide +kernel)
theorem ms_yX3_begin : Cond.selects yX3_begin.cls yX3_begin yX3_begin ∈ lw_tbl := tb_in 522 (by decide +kernel)
theorem my_yX3_giveAllTo : gY yX3_giveAllTo cX3_giveAllTo 4 none 2 := ⟨tb_in 527 (by decide +kernel), tb_in 6 (by decide +kernel), ⟨by decide +kernel, by decide +kernel, by decide +kernel⟩, by decide⟩
theorem mi_yX3_giveAllTo : Cond.instanceMethod yX3_giveAllTo ∈ lw_tbl := tb_in 525 (by decide +kernel)
theorem ms_yX3_giveAllTo : Cond.selects yX3_giveAllTo.cls yX3_giveAllTo yX3_giveAllTo ∈ lw_tbl := tb_in 526 (by decide +kernel)
theorem my_yX3_give : gY yX3_give cX3_give 4 none 3 := ⟨tb_in 531 (by decide +kernel), tb_in 6 (by decide +kernel), ⟨by decide +kernel, by decide +kernel, by decide +kernel⟩, by decide⟩
theorem mi_yX3_give : Cond.instanceMethod yX3_give ∈ lw_tbl := tb_in 529 (by decide +kernel)
theorem ms_yX3_give : Cond.selects yX3_give.cls yX3_give yX3_give ∈ lw_tbl := tb_in 530 (by decide +kernel)
theorem my_yX2_begin : gY yX2_begin cX2_begin 1 none 0 := ⟨tb_in 535 (by decide +kernel), tb_in 8 (by decide +kernel), ⟨by decide +kernel, by decide +kernel, by decide +kernel⟩, by decide⟩
theorem mi_yX2_begin : Cond.instanceMethod yX2_begin ∈ lw_tbl := tb_in 533 (by decide +kernel)
theorem ms_yX2_begin : Cond.selects yX2_begin.cls yX2_begin yX2_begin ∈ lw_tbl := tb_in 534 (by decide +kernel)
theorem my_yJ7_fill_d0a16 : gY yJ7_fill_d0a16 cJ7_fill_d0a16 5 none 2 := ⟨tb_in 538 (by decide +kernel), tb_in 3 (by decide +kernel), ⟨by decide +kernel, by decide +kernel, by decide +kernel⟩, by decide⟩
theorem mt_yJ7_fill_d0a16 : Cond.static yJ7_fill_d0a16 ∈ lw_tbl := tb_in 537 (by decide +kernel)
theorem my_yX8_fault : gY yX8_fault cX8_fault 1 (some .int) 0 := ⟨tb_in 542 (by decide +kernel), tb_in 1 (by decide +kernel), ⟨by decide +kernel, by decide +kernel, by decide +kernel⟩, by decide⟩
theorem mi_yX8_fault : Cond.instanceMethod yX8_fault ∈ lw_tbl := tb_in 540 (by decide +kernel)
theorem ms_yX8_fault : Cond.selects yX8_fault.cls yX8_fault yX8_fault ∈ lw_tbl := tb_in 541 (by decide +kernel)
theorem my_yX8_place : gY yX8_place cX8_place 3 (some .long) 2 := ⟨tb_in 546 (by decide +kernel), tb_in 1 (by decide +kernel), ⟨by decide +kernel, by decide +kernel, by decide +kernel⟩, by decide⟩
theorem mi_yX8_place : Cond.instanceMethod yX8_place ∈ lw_tbl := tb_in 544 (by decide +kernel)
theorem ms_yX8_place : Cond.selects yX8_place.cls yX8_place yX8_place ∈ lw_tbl := tb_in 545 (by decide +kernel)
theorem my_yX8_isPlace : gY yX8_isPlace cX8_isPlace 2 (some .boolean) 1 := ⟨tb_in 550 (by decide +kernel), tb_in 1 (by decide +kernel), ⟨by decide +kernel, by decide +kernel, by decide +kernel⟩, by decide⟩
theorem mi_yX8_isPlace : Cond.instanceMethod yX8_isPlace ∈ lw_tbl := tb_in 549 (by decide +kernel)
theorem ms_yX8_isPlace : Cond.selects yX8_isPlace.cls yX8_isPlace yX8_isPlace ∈ lw_tbl := sl_in (q := (yX8_isPlace, 12)) 11 (by decide +kernel)
theorem my_yX8_seen : gY yX8_seen cX8_seen 3 (some .long) 2 := ⟨tb_in 554 (by decide +kernel), tb_in 1 (by decide +kernel), ⟨by decide +kernel, by decide +kernel, by decide +kernel⟩, by decide⟩
theorem mi_yX8_seen : Cond.instanceMethod yX8_seen ∈ lw_tbl := tb_in 552 (by decide +kernel)
theorem ms_yX8_seen : Cond.selects yX8_seen.cls yX8_seen yX8_seen ∈ lw_tbl := tb_in 553 (by decide +kernel)
theorem my_yX8_forgets : gY yX8_forgets cX8_forgets 2 (some .long) 1 := ⟨tb_in 558 (by decide +kernel), tb_in 1 (by decide +kernel), ⟨by decide +kernel, by decide +kernel, by decide +kernel⟩, by decide⟩
theorem mi_yX8_forgets : Cond.instanceMethod yX8_forgets ∈ lw_tbl := tb_in 556 (by decide +kernel)
theorem ms_yX8_forgets : Cond.selects yX8_forgets.cls yX8_forgets yX8_forgets ∈ lw_tbl := tb_in 557 (by decide +kernel)
theorem my_yX8_isPlayer : gY yX8_isPlayer cX8_isPlayer 1 (some .boolean) 1 := ⟨tb_in 561 (by decide +kernel), tb_in 1 (by decide +kernel), ⟨by decide +kernel, by decide +kernel, by decide +kernel⟩, by decide⟩
theorem mt_yX8_isPlayer : Cond.static yX8_isPlayer ∈ lw_tbl := tb_in 560 (by decide +kernel)
theorem my_yX8_mix : gY yX8_mix cX8_mix 6 (some .long) 3 := ⟨tb_in 565 (by decide +kernel), tb_in 1 (by decide +kernel), ⟨by decide +kernel, by decide +kernel, by decide +kernel⟩, by decide⟩
theorem mi_yX8_mix : Cond.instanceMethod yX8_mix ∈ lw_tbl := tb_in 563 (by decide +kernel)
theorem ms_yX8_mix : Cond.selects yX8_mix.cls yX8_mix yX8_mix ∈ lw_tbl := tb_in 564 (by decide +kernel)
theorem my_yX8_isSet : gY yX8_isSet cX8_isSet 2 (some .boolean) 1 := ⟨tb_in 569 (by decide +kernel), tb_in 1 (by decide +kernel), ⟨by decide +kernel, by decide +kernel, by decide +kernel⟩, by decide⟩
theorem mi_yX8_isSet : Cond.instanceMethod yX8_isSet ∈ lw_tbl := tb_in 568 (by decide +kernel)
theorem ms_yX8_isSet : Cond.selects yX8_isSet.cls yX8_isSet yX8_isSet ∈ lw_tbl := sl_in (q := (yX8_isSet, 12)) 12 (by decide +kernel)
theorem my_yX5_hasShares : gY yX5_hasShares cX5_hasShares 7 (some .boolean) 3 := ⟨tb_in 573 (by decide +kernel), tb_in 2 (by decide +kernel), ⟨by decide +kernel, by decide +kernel, by decide +kernel⟩, by decide⟩
theorem mi_yX5_hasShares : Cond.instanceMethod yX5_hasShares ∈ lw_tbl := tb_in 571 (by decide +kernel)
theorem ms_yX5_hasShares : Cond.selects yX5_hasShares.cls yX5_hasShares yX5_hasShares ∈ lw_tbl := tb_in 572 (by decide +kernel)
theorem my_yX5_itemAt : gY yX5_itemAt cX5_itemAt 3 (some .int) 2 := ⟨tb_in 577 (by decide +kernel), tb_in 2 (by decide +kernel), ⟨by decide +kernel, by decide +kernel, by decide +kernel⟩, by decide⟩
theorem mi_yX5_itemAt : Cond.instanceMethod yX5_itemAt ∈ lw_tbl := tb_in 575 (by decide +kernel)
theorem ms_yX5_itemAt : Cond.selects yX5_itemAt.cls yX5_itemAt yX5_itemAt ∈ lw_tbl := tb_in 576 (by decide +kernel)
theorem my_yX8_share : gY yX8_share cX8_share 3 (some .long) 2 := ⟨tb_in 583 (by decide +kernel), tb_in 1 (by decide +kernel), ⟨by decide +kernel, by decide +kernel, by decide +kernel⟩, by decide⟩
theorem mi_yX8_share : Cond.instanceMethod yX8_share ∈ lw_tbl := tb_in 581 (by decide +kernel)
theorem ms_yX8_share : Cond.selects yX8_share.cls yX8_share yX8_share ∈ lw_tbl := tb_in 582 (by decide +kernel)
theorem my_yX8_isAct : gY yX8_isAct cX8_isAct 3 (some .boolean) 2 := ⟨tb_in 587 (by decide +kernel), tb_in 1 (by decide +kernel), ⟨by decide +kernel, by decide +kernel, by decide +kernel⟩, by decide⟩
theorem mi_yX8_isAct : Cond.instanceMethod yX8_isAct ∈ lw_tbl := tb_in 586 (by decide +kernel)
theorem ms_yX8_isAct : Cond.selects yX8_isAct.cls yX8_isAct yX8_isAct ∈ lw_tbl := sl_in (q := (yX8_isAct, 12)) 13 (by decide +kernel)
theorem my_yX3_shareOf : gY yX3_shareOf cX3_shareOf 3 (some .int) 2 := ⟨tb_in 591 (by decide +kernel), tb_in 6 (by decide +kernel), ⟨by decide +kernel, by decide +kernel, by decide +kernel⟩, by decide⟩
theorem mi_yX3_shareOf : Cond.instanceMethod yX3_shareOf ∈ lw_tbl := tb_in 589 (by decide +kernel)
theorem ms_yX3_shareOf : Cond.selects yX3_shareOf.cls yX3_shareOf yX3_shareOf ∈ lw_tbl := tb_in 590 (by decide +kernel)
theorem my_yX8_value : gY yX8_value cX8_value 1 (some .long) 0 := ⟨tb_in 595 (by decide +kernel), tb_in 1 (by decide +kernel), ⟨by decide +kernel, by decide +kernel, by decide +kernel⟩, by decide⟩
theorem mi_yX8_value : Cond.instanceMethod yX8_value ∈ lw_tbl := tb_in 593 (by decide +kernel)
theorem ms_yX8_value : Cond.selects yX8_value.cls yX8_value yX8_value ∈ lw_tbl := tb_in 594 (by decide +kernel)
theorem my_yX8_hasGame : gY yX8_hasGame cX8_hasGame 1 (some .boolean) 0 := ⟨tb_in 599 (by decide +kernel), tb_in 1 (by decide +kernel), ⟨by decide +kernel, by decide +kernel, by decide +kernel⟩, by decide⟩
theorem mi_yX8_hasGame : Cond.instanceMethod yX8_hasGame ∈ lw_tbl := tb_in 598 (by decide +kernel)
theorem ms_yX8_hasGame : Cond.selects yX8_hasGame.cls yX8_hasGame yX8_hasGame ∈ lw_tbl := sl_in (q := (yX8_hasGame, 12)) 14 (by decide +kernel)
theorem my_yX8_valueOfPlan : gY yX8_valueOfPlan cX8_valueOfPlan 4 (some .long) 0 := ⟨tb_in 603 (by decide +kernel), tb_in 1 (by decide +kernel), ⟨by decide +kernel, by decide +kernel, by decide +kernel⟩, by decide⟩
theorem mi_yX8_valueOfPlan : Cond.instanceMethod yX8_valueOfPlan ∈ lw_tbl := tb_in 602 (by decide +kernel)
theorem ms_yX8_valueOfPlan : Cond.selects yX8_valueOfPlan.cls yX8_valueOfPlan yX8_valueOfPlan ∈ lw_tbl := sl_in (q := (yX8_valueOfPlan, 12)) 15 (by decide +kernel)
theorem my_yX3_workOut : gY yX3_workOut cX3_workOut 7 none 3 := ⟨tb_in 608 (by decide +kernel), tb_in 6 (by decide +kernel), ⟨by decide +kernel, by decide +kernel, by decide +kernel⟩, by decide⟩
theorem mi_yX3_workOut : Cond.instanceMethod yX3_workOut ∈ lw_tbl := tb_in 606 (by decide +kernel)
theorem ms_yX3_workOut : Cond.selects yX3_workOut.cls yX3_workOut yX3_workOut ∈ lw_tbl := tb_in 607 (by decide +kernel)
theorem my_yX8_reach : gY yX8_reach cX8_reach 3 (some .long) 2 := ⟨tb_in 616 (by decide +kernel), tb_in 1 (by decide +kernel), ⟨by decide +kernel, by decide +kernel, by decide +kernel⟩, by decide⟩
theorem mi_yX8_reach : Cond.instanceMethod yX8_reach ∈ lw_tbl := tb_in 614 (by decide +kernel)
theorem ms_yX8_reach : Cond.selects yX8_reach.cls yX8_reach yX8_reach ∈ lw_tbl := tb_in 615 (by decide +kernel)
theorem my_yX8_best : gY yX8_best cX8_best 6 (some .long) 2 := ⟨tb_in 620 (by decide +kernel), tb_in 1 (by decide +kernel), ⟨by decide +kernel, by decide +kernel, by decide +kernel⟩, by decide⟩
theorem mi_yX8_best : Cond.instanceMethod yX8_best ∈ lw_tbl := tb_in 618 (by decide +kernel)
theorem ms_yX8_best : Cond.selects yX8_best.cls yX8_best yX8_best ∈ lw_tbl := tb_in 619 (by decide +kernel)
theorem my_yX8_valueOfAnswer : gY yX8_valueOfAnswer cX8_valueOfAnswer 2 (some .long) 1 := ⟨tb_in 624 (by decide +kernel), tb_in 1 (by decide +kernel), ⟨by decide +kernel, by decide +kernel, by decide +kernel⟩, by decide⟩
theorem mi_yX8_valueOfAnswer : Cond.instanceMethod yX8_valueOfAnswer ∈ lw_tbl := tb_in 623 (by decide +kernel)
theorem ms_yX8_valueOfAnswer : Cond.selects yX8_valueOfAnswer.cls yX8_valueOfAnswer yX8_valueOfAnswer ∈ lw_tbl := sl_in (q := (yX8_valueOfAnswer, 12)) 16 (by decide +kernel)
theorem my_yX6_solve : gY yX6_solve cX6_solve 6 (some .long) 4 := ⟨tb_in 628 (by decide +kernel), tb_in 7 (by decide +kernel), ⟨by decide +kernel, by decide +kernel, by decide +kernel⟩, by decide⟩
theorem mi_yX6_solve : Cond.instanceMethod yX6_solve ∈ lw_tbl := tb_in 626 (by decide +kernel)
theorem ms_yX6_solve : Cond.selects yX6_solve.cls yX6_solve yX6_solve ∈ lw_tbl := tb_in 627 (by decide +kernel)
theorem my_yX6_tellGroups : gY yX6_tellGroups cX6_tellGroups 4 none 2 := ⟨tb_in 632 (by decide +kernel), tb_in 7 (by decide +kernel), ⟨by decide +kernel, by decide +kernel, by decide +kernel⟩, by decide⟩
theorem mi_yX6_tellGroups : Cond.instanceMethod yX6_tellGroups ∈ lw_tbl := tb_in 631 (by decide +kernel)
theorem ms_yX6_tellGroups : Cond.selects yX6_tellGroups.cls yX6_tellGroups yX6_tellGroups ∈ lw_tbl := sl_in (q := (yX6_tellGroups, 7)) 17 (by decide +kernel)
theorem my_yX6_leastAlike : gY yX6_leastAlike cX6_leastAlike 4 (some .int) 2 := ⟨tb_in 637 (by decide +kernel), tb_in 7 (by decide +kernel), ⟨by decide +kernel, by decide +kernel, by decide +kernel⟩, by decide⟩
theorem mi_yX6_leastAlike : Cond.instanceMethod yX6_leastAlike ∈ lw_tbl := tb_in 636 (by decide +kernel)
theorem ms_yX6_leastAlike : Cond.selects yX6_leastAlike.cls yX6_leastAlike yX6_leastAlike ∈ lw_tbl := sl_in (q := (yX6_leastAlike, 7)) 18 (by decide +kernel)
theorem my_yX1_mostOwnActs : gY yX1_mostOwnActs cX1_mostOwnActs 4 (some .int) 1 := ⟨tb_in 641 (by decide +kernel), tb_in 10 (by decide +kernel), ⟨by decide +kernel, by decide +kernel, by decide +kernel⟩, by decide⟩
theorem mi_yX1_mostOwnActs : Cond.instanceMethod yX1_mostOwnActs ∈ lw_tbl := tb_in 639 (by decide +kernel)
theorem ms_yX1_mostOwnActs : Cond.selects yX1_mostOwnActs.cls yX1_mostOwnActs yX1_mostOwnActs ∈ lw_tbl := tb_in 640 (by decide +kernel)
theorem my_yX1_ownActsTo : gY yX1_ownActsTo cX1_ownActsTo 3 (some .int) 2 := ⟨tb_in 645 (by decide +kernel), tb_in 10 (by decide +kernel), ⟨by decide +kernel, by decide +kernel, by decide +kernel⟩, by decide⟩
theorem mi_yX1_ownActsTo : Cond.instanceMethod yX1_ownActsTo ∈ lw_tbl := tb_in 643 (by decide +kernel)
theorem ms_yX1_ownActsTo : Cond.selects yX1_ownActsTo.cls yX1_ownActsTo yX1_ownActsTo ∈ lw_tbl := tb_in 644 (by decide +kernel)
theorem my_yJ9_max_7cf53 : gY yJ9_max_7cf53 cJ9_max_7cf53 2 (some .int) 2 := ⟨tb_in 648 (by decide +kernel), tb_in 17 (by decide +kernel), ⟨by decide +kernel, by decide +kernel, by decide +kernel⟩, by decide⟩
theorem mt_yJ9_max_7cf53 : Cond.static yJ9_max_7cf53 ∈ lw_tbl := tb_in 647 (by decide +kernel)
theorem my_yX6_addUp : gY yX6_addUp cX6_addUp 9 none 3 := ⟨tb_in 652 (by decide +kernel), tb_in 7 (by decide +kernel), ⟨by decide +kernel, by decide +kernel, by decide +kernel⟩, by decide⟩
theorem mi_yX6_addUp : Cond.instanceMethod yX6_addUp ∈ lw_tbl := tb_in 651 (by decide +kernel)
theorem ms_yX6_addUp : Cond.selects yX6_addUp.cls yX6_addUp yX6_addUp ∈ lw_tbl := sl_in (q := (yX6_addUp, 7)) 19 (by decide +kernel)
theorem my_yX6_isOwn : gY yX6_isOwn cX6_isOwn 4 (some .boolean) 4 := ⟨tb_in 655 (by decide +kernel), tb_in 7 (by decide +kernel), ⟨by decide +kernel, by decide +kernel, by decide +kernel⟩, by decide⟩
theorem mt_yX6_isOwn : Cond.static yX6_isOwn ∈ lw_tbl := tb_in 654 (by decide +kernel)
theorem my_yX1_wayTo : gY yX1_wayTo cX1_wayTo 3 (some .int) 2 := ⟨tb_in 660 (by decide +kernel), tb_in 10 (by decide +kernel), ⟨by decide +kernel, by decide +kernel, by decide +kernel⟩, by decide⟩
theorem mi_yX1_wayTo : Cond.instanceMethod yX1_wayTo ∈ lw_tbl := tb_in 658 (by decide +kernel)
theorem ms_yX1_wayTo : Cond.selects yX1_wayTo.cls yX1_wayTo yX1_wayTo ∈ lw_tbl := tb_in 659 (by decide +kernel)
theorem my_yX6_chooseActs : gY yX6_chooseActs cX6_chooseActs 5 none 3 := ⟨tb_in 664 (by decide +kernel), tb_in 7 (by decide +kernel), ⟨by decide +kernel, by decide +kernel, by decide +kernel⟩, by decide⟩
theorem mi_yX6_chooseActs : Cond.instanceMethod yX6_chooseActs ∈ lw_tbl := tb_in 663 (by decide +kernel)
theorem ms_yX6_chooseActs : Cond.selects yX6_chooseActs.cls yX6_chooseActs yX6_chooseActs ∈ lw_tbl := sl_in (q := (yX6_chooseActs, 7)) 20 (by decide +kernel)
theorem my_yX6_chooseAct : gY yX6_chooseAct cX6_chooseAct 9 (some .int) 3 := ⟨tb_in 668 (by decide +kernel), tb_in 7 (by decide +kernel), ⟨by decide +kernel, by decide +kernel, by decide +kernel⟩, by decide⟩
theorem mi_yX6_chooseAct : Cond.instanceMethod yX6_chooseAct ∈ lw_tbl := tb_in 667 (by decide +kernel)
theorem ms_yX6_chooseAct : Cond.selects yX6_chooseAct.cls yX6_chooseAct yX6_chooseAct ∈ lw_tbl := sl_in (q := (yX6_chooseAct, 7)) 21 (by decide +kernel)
theorem my_yX6_isBarred : gY yX6_isBarred cX6_isBarred 4 (some .boolean) 3 := ⟨tb_in 672 (by decide +kernel), tb_in 7 (by decide +kernel), ⟨by decide +kernel, by decide +kernel, by decide +kernel⟩, by decide⟩
theorem mi_yX6_isBarred : Cond.instanceMethod yX6_isBarred ∈ lw_tbl := tb_in 671 (by decide +kernel)
theorem ms_yX6_isBarred : Cond.selects yX6_isBarred.cls yX6_isBarred yX6_isBarred ∈ lw_tbl := sl_in (q := (yX6_isBarred, 7)) 22 (by decide +kernel)
theorem my_yX8_gainOf : gY yX8_gainOf cX8_gainOf 5 (some .long) 3 := ⟨tb_in 675 (by decide +kernel), tb_in 1 (by decide +kernel), ⟨by decide +kernel, by decide +kernel, by decide +kernel⟩, by decide⟩
theorem mt_yX8_gainOf : Cond.static yX8_gainOf ∈ lw_tbl := tb_in 674 (by decide +kernel)
theorem my_yX6_weigh : gY yX6_weigh cX6_weigh 6 none 4 := ⟨tb_in 679 (by decide +kernel), tb_in 7 (by decide +kernel), ⟨by decide +kernel, by decide +kernel, by decide +kernel⟩, by decide⟩
theorem mi_yX6_weigh : Cond.instanceMethod yX6_weigh ∈ lw_tbl := tb_in 678 (by decide +kernel)
theorem ms_yX6_weigh : Cond.selects yX6_weigh.cls yX6_weigh yX6_weigh ∈ lw_tbl := sl_in (q := (yX6_weigh, 7)) 23 (by decide +kernel)
theorem my_yX6_worthOf : gY yX6_worthOf cX6_worthOf 9 (some .long) 4 := ⟨tb_in 683 (by decide +kernel), tb_in 7 (by decide +kernel), ⟨by decide +kernel, by decide +kernel, by decide +kernel⟩, by decide⟩
theorem mi_yX6_worthOf : Cond.instanceMethod yX6_worthOf ∈ lw_tbl := tb_in 682 (by decide +kernel)
theorem ms_yX6_worthOf : Cond.selects yX6_worthOf.cls yX6_worthOf yX6_worthOf ∈ lw_tbl := sl_in (q := (yX6_worthOf, 7)) 24 (by decide +kernel)
theorem my_yX8_answer : gY yX8_answer cX8_answer 3 (some .long) 1 := ⟨tb_in 688 (by decide +kernel), tb_in 1 (by decide +kernel), ⟨by decide +kernel, by decide +kernel, by decide +kernel⟩, by decide⟩
theorem mi_yX8_answer : Cond.instanceMethod yX8_answer ∈ lw_tbl := tb_in 686 (by decide +kernel)
theorem ms_yX8_answer : Cond.selects yX8_answer.cls yX8_answer yX8_answer ∈ lw_tbl := tb_in 687 (by decide +kernel)
theorem my_yX6_actOf : gY yX6_actOf cX6_actOf 3 (some .int) 2 := ⟨tb_in 692 (by decide +kernel), tb_in 7 (by decide +kernel), ⟨by decide +kernel, by decide +kernel, by decide +kernel⟩, by decide⟩
theorem mi_yX6_actOf : Cond.instanceMethod yX6_actOf ∈ lw_tbl := tb_in 690 (by decide +kernel)
theorem ms_yX6_actOf : Cond.selects yX6_actOf.cls yX6_actOf yX6_actOf ∈ lw_tbl := tb_in 691 (by decide +kernel)
theorem my_yX8_belief : gY yX8_belief cX8_belief 6 (some .long) 2 := ⟨tb_in 696 (by decide +kernel), tb_in 1 (by decide +kernel), ⟨by decide +kernel, by decide +kernel, by decide +kernel⟩, by decide⟩
theorem mi_yX8_belief : Cond.instanceMethod yX8_belief ∈ lw_tbl := tb_in 694 (by decide +kernel)
theorem ms_yX8_belief : Cond.selects yX8_belief.cls yX8_belief yX8_belief ∈ lw_tbl := tb_in 695 (by decide +kernel)
theorem my_yX8_seeing : gY yX8_seeing cX8_seeing 5 (some .long) 1 := ⟨tb_in 701 (by decide +kernel), tb_in 1 (by decide +kernel), ⟨by decide +kernel, by decide +kernel, by decide +kernel⟩, by decide⟩
theorem mi_yX8_seeing : Cond.instanceMethod yX8_seeing ∈ lw_tbl := tb_in 699 (by decide +kernel)
theorem ms_yX8_seeing : Cond.selects yX8_seeing.cls yX8_seeing yX8_seeing ∈ lw_tbl := tb_in 700 (by decide +kernel)
theorem my_yX8_fewer : gY yX8_fewer cX8_fewer 4 (some .long) 2 := ⟨tb_in 705 (by decide +kernel), tb_in 1 (by decide +kernel), ⟨by decide +kernel, by decide +kernel, by decide +kernel⟩, by decide⟩
theorem mi_yX8_fewer : Cond.instanceMethod yX8_fewer ∈ lw_tbl := tb_in 703 (by decide +kernel)
theorem ms_yX8_fewer : Cond.selects yX8_fewer.cls yX8_fewer yX8_fewer ∈ lw_tbl := tb_in 704 (by decide +kernel)
theorem my_yX6_solveBarred : gY yX6_solveBarred cX6_solveBarred 8 (some .long) 5 := ⟨tb_in 709 (by decide +kernel), tb_in 7 (by decide +kernel), ⟨by decide +kernel, by decide +kernel, by decide +kernel⟩, by decide⟩
theorem mi_yX6_solveBarred : Cond.instanceMethod yX6_solveBarred ∈ lw_tbl := tb_in 707 (by decide +kernel)
theorem ms_yX6_solveBarred : Cond.selects yX6_solveBarred.cls yX6_solveBarred yX6_solveBarred ∈ lw_tbl := tb_in 708 (by decide +kernel)
theorem my_yX8_rounds : gY yX8_rounds cX8_rounds 4 (some .long) 1 := ⟨tb_in 714 (by decide +kernel), tb_in 1 (by decide +kernel), ⟨by decide +kernel, by decide +kernel, by decide +kernel⟩, by decide⟩
theorem mi_yX8_rounds : Cond.instanceMethod yX8_rounds ∈ lw_tbl := tb_in 712 (by decide +kernel)
theorem ms_yX8_rounds : Cond.selects yX8_rounds.cls yX8_rounds yX8_rounds ∈ lw_tbl := tb_in 713 (by decide +kernel)
theorem my_yJ9_min_7cf53 : gY yJ9_min_7cf53 cJ9_min_7cf53 2 (some .int) 2 := ⟨tb_in 717 (by decide +kernel), tb_in 17 (by decide +kernel), ⟨by decide +kernel, by decide +kernel, by decide +kernel⟩, by decide⟩
theorem mt_yJ9_min_7cf53 : Cond.static yJ9_min_7cf53 ∈ lw_tbl := tb_in 716 (by decide +kernel)
theorem my_yX2_playOn : gY yX2_playOn cX2_playOn 4 none 2 := ⟨tb_in 721 (by decide +kernel), tb_in 8 (by decide +kernel), ⟨by decide +kernel, by decide +kernel, by decide +kernel⟩, by decide⟩
theorem mi_yX2_playOn : Cond.instanceMethod yX2_playOn ∈ lw_tbl := tb_in 719 (by decide +kernel)
theorem ms_yX2_playOn : Cond.selects yX2_playOn.cls yX2_playOn yX2_playOn ∈ lw_tbl := tb_in 720 (by decide +kernel)
theorem my_yX2_noteAnswer : gY yX2_noteAnswer cX2_noteAnswer 5 none 3 := ⟨tb_in 725 (by decide +kernel), tb_in 8 (by decide +kernel), ⟨by decide +kernel, by decide +kernel, by decide +kernel⟩, by decide⟩
theorem mi_yX2_noteAnswer : Cond.instanceMethod yX2_noteAnswer ∈ lw_tbl := tb_in 724 (by decide +kernel)
theorem ms_yX2_noteAnswer : Cond.selects yX2_noteAnswer.cls yX2_noteAnswer yX2_noteAnswer ∈ lw_tbl := sl_in (q := (yX2_noteAnswer, 6)) 25 (by decide +kernel)
theorem my_yX2_reachOf : gY yX2_reachOf cX2_reachOf 2 (some (.array .long)) 1 := ⟨tb_in 729 (by decide +kernel), tb_in 8 (by decide +kernel), ⟨by decide +kernel, by decide +kernel, by decide +kernel⟩, by decide⟩
theorem mi_yX2_reachOf : Cond.instanceMethod yX2_reachOf ∈ lw_tbl := tb_in 727 (by decide +kernel)
theorem ms_yX2_reachOf : Cond.selects yX2_reachOf.cls yX2_reachOf yX2_reachOf ∈ lw_tbl := tb_in 728 (by decide +kernel)
theorem my_yX2_putInto : gY yX2_putInto cX2_putInto 4 none 2 := ⟨tb_in 736 (by decide +kernel), tb_in 8 (by decide +kernel), ⟨by decide +kernel, by decide +kernel, by decide +kernel⟩, by decide⟩
theorem mi_yX2_putInto : Cond.instanceMethod yX2_putInto ∈ lw_tbl := tb_in 734 (by decide +kernel)
theorem ms_yX2_putInto : Cond.selects yX2_putInto.cls yX2_putInto yX2_putInto ∈ lw_tbl := tb_in 735 (by decide +kernel)
theorem my_yX2_addReach : gY yX2_addReach cX2_addReach 5 none 2 := ⟨tb_in 741 (by decide +kernel), tb_in 8 (by decide +kernel), ⟨by decide +kernel, by decide +kernel, by decide +kernel⟩, by decide⟩
theorem mi_yX2_addReach : Cond.instanceMethod yX2_addReach ∈ lw_tbl := tb_in 740 (by decide +kernel)
theorem ms_yX2_addReach : Cond.selects yX2_addReach.cls yX2_addReach yX2_addReach ∈ lw_tbl := sl_in (q := (yX2_addReach, 6)) 26 (by decide +kernel)
theorem my_yX8_bound : gY yX8_bound cX8_bound 3 (some .long) 1 := ⟨tb_in 746 (by decide +kernel), tb_in 1 (by decide +kernel), ⟨by decide +kernel, by decide +kernel, by decide +kernel⟩, by decide⟩
theorem mi_yX8_bound : Cond.instanceMethod yX8_bound ∈ lw_tbl := tb_in 744 (by decide +kernel)
theorem ms_yX8_bound : Cond.selects yX8_bound.cls yX8_bound yX8_bound ∈ lw_tbl := tb_in 745 (by decide +kernel)
theorem my_yX8_mean : gY yX8_mean cX8_mean 3 (some .long) 2 := ⟨tb_in 751 (by decide +kernel), tb_in 1 (by decide +kernel), ⟨by decide +kernel, by decide +kernel, by decide +kernel⟩, by decide⟩
theorem mi_yX8_mean : Cond.instanceMethod yX8_mean ∈ lw_tbl := tb_in 749 (by decide +kernel)
theorem ms_yX8_mean : Cond.selects yX8_mean.cls yX8_mean yX8_mean ∈ lw_tbl := tb_in 750 (by decide +kernel)
theorem my_yX2_timesDone : gY yX2_timesDone cX2_timesDone 5 (some .int) 2 := ⟨tb_in 755 (by decide +kernel), tb_in 8 (by decide +kernel), ⟨by decide +kernel, by decide +kernel, by decide +kernel⟩, by decide⟩
theorem mi_yX2_timesDone : Cond.instanceMethod yX2_timesDone ∈ lw_tbl := tb_in 753 (by decide +kernel)
theorem ms_yX2_timesDone : Cond.selects yX2_timesDone.cls yX2_timesDone yX2_timesDone ∈ lw_tbl := tb_in 754 (by decide +kernel)
theorem my_yX8_take : gY yX8_take cX8_take 2 (some .long) 1 := ⟨tb_in 759 (by decide +kernel), tb_in 1 (by decide +kernel), ⟨by decide +kernel, by decide +kernel, by decide +kernel⟩, by decide⟩
theorem mi_yX8_take : Cond.instanceMethod yX8_take ∈ lw_tbl := tb_in 757 (by decide +kernel)
theorem ms_yX8_take : Cond.selects yX8_take.cls yX8_take yX8_take ∈ lw_tbl := tb_in 758 (by decide +kernel)
theorem my_yX8_kind : gY yX8_kind cX8_kind 2 (some .long) 1 := ⟨tb_in 764 (by decide +kernel), tb_in 1 (by decide +kernel), ⟨by decide +kernel, by decide +kernel, by decide +kernel⟩, by decide⟩
theorem mi_yX8_kind : Cond.instanceMethod yX8_kind ∈ lw_tbl := tb_in 762 (by decide +kernel)
theorem ms_yX8_kind : Cond.selects yX8_kind.cls yX8_kind yX8_kind ∈ lw_tbl := tb_in 763 (by decide +kernel)
theorem my_yX1_kindOf : gY yX1_kindOf cX1_kindOf 2 (some .int) 1 := ⟨tb_in 768 (by decide +kernel), tb_in 10 (by decide +kernel), ⟨by decide +kernel, by decide +kernel, by decide +kernel⟩, by decide⟩
theorem mi_yX1_kindOf : Cond.instanceMethod yX1_kindOf ∈ lw_tbl := tb_in 766 (by decide +kernel)
theorem ms_yX1_kindOf : Cond.selects yX1_kindOf.cls yX1_kindOf yX1_kindOf ∈ lw_tbl := tb_in 767 (by decide +kernel)
theorem my_yX8_as : gY yX8_as cX8_as 3 (some .long) 2 := ⟨tb_in 772 (by decide +kernel), tb_in 1 (by decide +kernel), ⟨by decide +kernel, by decide +kernel, by decide +kernel⟩, by decide⟩
theorem mi_yX8_as : Cond.instanceMethod yX8_as ∈ lw_tbl := tb_in 770 (by decide +kernel)
theorem ms_yX8_as : Cond.selects yX8_as.cls yX8_as yX8_as ∈ lw_tbl := tb_in 771 (by decide +kernel)
theorem my_yX1_isOfKind : gY yX1_isOfKind cX1_isOfKind 4 (some .boolean) 2 := ⟨tb_in 776 (by decide +kernel), tb_in 10 (by decide +kernel), ⟨by decide +kernel, by decide +kernel, by decide +kernel⟩, by decide⟩
theorem mi_yX1_isOfKind : Cond.instanceMethod yX1_isOfKind ∈ lw_tbl := tb_in 774 (by decide +kernel)
theorem ms_yX1_isOfKind : Cond.selects yX1_isOfKind.cls yX1_isOfKind yX1_isOfKind ∈ lw_tbl := tb_in 775 (by decide +kernel)
theorem my_yX8_ask : gY yX8_ask cX8_ask 3 (some .long) 2 := ⟨tb_in 781 (by decide +kernel), tb_in 1 (by decide +kernel), ⟨by decide +kernel, by decide +kernel, by decide +kernel⟩, by decide⟩
theorem mi_yX8_ask : Cond.instanceMethod yX8_ask ∈ lw_tbl := tb_in 779 (by decide +kernel)
theorem ms_yX8_ask : Cond.selects yX8_ask.cls yX8_ask yX8_ask ∈ lw_tbl := tb_in 780 (by decide +kernel)
theorem my_yX0_askSize : gY yX0_askSize cX0_askSize 3 (some .long) 2 := ⟨tb_in 785 (by decide +kernel), tb_in 9 (by decide +kernel), ⟨by decide +kernel, by decide +kernel, by decide +kernel⟩, by decide⟩
theorem mi_yX0_askSize : Cond.instanceMethod yX0_askSize ∈ lw_tbl := tb_in 783 (by decide +kernel)
theorem ms_yX0_askSize : Cond.selects yX0_askSize.cls yX0_askSize yX0_askSize ∈ lw_tbl := tb_in 784 (by decide +kernel)
theorem my_yX0_sizeBody : gY yX0_sizeBody cX0_sizeBody 2 (some .int) 2 := ⟨tb_in 788 (by decide +kernel), tb_in 9 (by decide +kernel), ⟨by decide +kernel, by decide +kernel, by decide +kernel⟩, by decide⟩
theorem mt_yX0_sizeBody : Cond.static yX0_sizeBody ∈ lw_tbl := tb_in 787 (by decide +kernel)
theorem my_yX0_runBody : gY yX0_runBody cX0_runBody 6 (some .long) 4 := ⟨tb_in 793 (by decide +kernel), tb_in 9 (by decide +kernel), ⟨by decide +kernel, by decide +kernel, by decide +kernel⟩, by decide⟩
theorem mi_yX0_runBody : Cond.instanceMethod yX0_runBody ∈ lw_tbl := tb_in 792 (by decide +kernel)
theorem ms_yX0_runBody : Cond.selects yX0_runBody.cls yX0_runBody yX0_runBody ∈ lw_tbl := sl_in (q := (yX0_runBody, 2)) 27 (by decide +kernel)
theorem my_yX0_leave : gY yX0_leave cX0_leave 2 none 1 := ⟨tb_in 797 (by decide +kernel), tb_in 9 (by decide +kernel), ⟨by decide +kernel, by decide +kernel, by decide +kernel⟩, by decide⟩
theorem mi_yX0_leave : Cond.instanceMethod yX0_leave ∈ lw_tbl := tb_in 796 (by decide +kernel)
theorem ms_yX0_leave : Cond.selects yX0_leave.cls yX0_leave yX0_leave ∈ lw_tbl := sl_in (q := (yX0_leave, 2)) 28 (by decide +kernel)
theorem my_yX0_markBody : gY yX0_markBody cX0_markBody 2 (some .int) 2 := ⟨tb_in 800 (by decide +kernel), tb_in 9 (by decide +kernel), ⟨by decide +kernel, by decide +kernel, by decide +kernel⟩, by decide⟩
theorem mt_yX0_markBody : Cond.static yX0_markBody ∈ lw_tbl := tb_in 799 (by decide +kernel)
theorem my_yX0_askMark : gY yX0_askMark cX0_askMark 3 (some .long) 2 := ⟨tb_in 806 (by decide +kernel), tb_in 9 (by decide +kernel), ⟨by decide +kernel, by decide +kernel, by decide +kernel⟩, by decide⟩
theorem mi_yX0_askMark : Cond.instanceMethod yX0_askMark ∈ lw_tbl := tb_in 804 (by decide +kernel)
theorem ms_yX0_askMark : Cond.selects yX0_askMark.cls yX0_askMark yX0_askMark ∈ lw_tbl := tb_in 805 (by decide +kernel)
theorem my_yX8_trace : gY yX8_trace cX8_trace 2 (some .int) 1 := ⟨tb_in 810 (by decide +kernel), tb_in 1 (by decide +kernel), ⟨by decide +kernel, by decide +kernel, by decide +kernel⟩, by decide⟩
theorem mi_yX8_trace : Cond.instanceMethod yX8_trace ∈ lw_tbl := tb_in 808 (by decide +kernel)
theorem ms_yX8_trace : Cond.selects yX8_trace.cls yX8_trace yX8_trace ∈ lw_tbl := tb_in 809 (by decide +kernel)
theorem my_yX8_count : gY yX8_count cX8_count 2 (some .long) 1 := ⟨tb_in 814 (by decide +kernel), tb_in 1 (by decide +kernel), ⟨by decide +kernel, by decide +kernel, by decide +kernel⟩, by decide⟩
theorem mi_yX8_count : Cond.instanceMethod yX8_count ∈ lw_tbl := tb_in 812 (by decide +kernel)
theorem ms_yX8_count : Cond.selects yX8_count.cls yX8_count yX8_count ∈ lw_tbl := tb_in 813 (by decide +kernel)
theorem my_yX5_countRows : gY yX5_countRows cX5_countRows 3 (some .int) 0 := ⟨tb_in 818 (by decide +kernel), tb_in 2 (by decide +kernel), ⟨by decide +kernel, by decide +kernel, by decide +kernel⟩, by decide⟩
theorem mi_yX5_countRows : Cond.instanceMethod yX5_countRows ∈ lw_tbl := tb_in 816 (by decide +kernel)
theorem ms_yX5_countRows : Cond.selects yX5_countRows.cls yX5_countRows yX5_countRows ∈ lw_tbl := tb_in 817 (by decide +kernel)
theorem my_yX1_countOf : gY yX1_countOf cX1_countOf 4 (some .int) 1 := ⟨tb_in 823 (by decide +kernel), tb_in 10 (by decide +kernel), ⟨by decide +kernel, by decide +kernel, by decide +kernel⟩, by decide⟩
theorem mi_yX1_countOf : Cond.instanceMethod yX1_countOf ∈ lw_tbl := tb_in 821 (by decide +kernel)
theorem ms_yX1_countOf : Cond.selects yX1_countOf.cls yX1_countOf yX1_countOf ∈ lw_tbl := tb_in 822 (by decide +kernel)
theorem my_yX1_countSets : gY yX1_countSets cX1_countSets 3 (some .int) 0 := ⟨tb_in 827 (by decide +kernel), tb_in 10 (by decide +kernel), ⟨by decide +kernel, by decide +kernel, by decide +kernel⟩, by decide⟩
theorem mi_yX1_countSets : Cond.instanceMethod yX1_countSets ∈ lw_tbl := tb_in 825 (by decide +kernel)
theorem ms_yX1_countSets : Cond.selects yX1_countSets.cls yX1_countSets yX1_countSets ∈ lw_tbl := tb_in 826 (by decide +kernel)
theorem my_yX8_status : gY yX8_status cX8_status 1 (some .int) 0 := ⟨tb_in 831 (by decide +kernel), tb_in 1 (by decide +kernel), ⟨by decide +kernel, by decide +kernel, by decide +kernel⟩, by decide⟩
theorem mi_yX8_status : Cond.instanceMethod yX8_status ∈ lw_tbl := tb_in 829 (by decide +kernel)
theorem ms_yX8_status : Cond.selects yX8_status.cls yX8_status yX8_status ∈ lw_tbl := tb_in 830 (by decide +kernel)
theorem my_yX9_row : gY yX9_row cX9_row 5 (some .long) 3 := ⟨tb_in 962 (by decide +kernel), tb_in 11 (by decide +kernel), ⟨by decide +kernel, by decide +kernel, by decide +kernel⟩, by decide⟩
theorem mi_yX9_row : Cond.instanceMethod yX9_row ∈ lw_tbl := tb_in 960 (by decide +kernel)
theorem ms_yX9_row : Cond.selects yX9_row.cls yX9_row yX9_row ∈ lw_tbl := tb_in 961 (by decide +kernel)
theorem my_yX9_isRow : gY yX9_isRow cX9_isRow 1 (some .boolean) 1 := ⟨tb_in 965 (by decide +kernel), tb_in 11 (by decide +kernel), ⟨by decide +kernel, by decide +kernel, by decide +kernel⟩, by decide⟩
theorem mt_yX9_isRow : Cond.static yX9_isRow ∈ lw_tbl := tb_in 964 (by decide +kernel)
theorem my_yX9_in : gY yX9_in cX9_in 6 (some .boolean) 3 := ⟨tb_in 969 (by decide +kernel), tb_in 11 (by decide +kernel), ⟨by decide +kernel, by decide +kernel, by decide +kernel⟩, by decide⟩
theorem mt_yX9_in : Cond.static yX9_in ∈ lw_tbl := tb_in 968 (by decide +kernel)
theorem my_yX9_found : gY yX9_found cX9_found 2 (some .long) 1 := ⟨tb_in 975 (by decide +kernel), tb_in 11 (by decide +kernel), ⟨by decide +kernel, by decide +kernel, by decide +kernel⟩, by decide⟩
theorem mi_yX9_found : Cond.instanceMethod yX9_found ∈ lw_tbl := tb_in 974 (by decide +kernel)
theorem ms_yX9_found : Cond.selects yX9_found.cls yX9_found yX9_found ∈ lw_tbl := sl_in (q := (yX9_found, 40)) 29 (by decide +kernel)
theorem my_yX9_taken : gY yX9_taken cX9_taken 3 (some .long) 1 := ⟨tb_in 980 (by decide +kernel), tb_in 11 (by decide +kernel), ⟨by decide +kernel, by decide +kernel, by decide +kernel⟩, by decide⟩
theorem mi_yX9_taken : Cond.instanceMethod yX9_taken ∈ lw_tbl := tb_in 979 (by decide +kernel)
theorem ms_yX9_taken : Cond.selects yX9_taken.cls yX9_taken yX9_taken ∈ lw_tbl := sl_in (q := (yX9_taken, 40)) 30 (by decide +kernel)
theorem my_yX9_set : gY yX9_set cX9_set 4 (some .long) 3 := ⟨tb_in 984 (by decide +kernel), tb_in 11 (by decide +kernel), ⟨by decide +kernel, by decide +kernel, by decide +kernel⟩, by decide⟩
theorem mi_yX9_set : Cond.instanceMethod yX9_set ∈ lw_tbl := tb_in 982 (by decide +kernel)
theorem ms_yX9_set : Cond.selects yX9_set.cls yX9_set yX9_set ∈ lw_tbl := tb_in 983 (by decide +kernel)
theorem my_yX9_copy : gY yX9_copy cX9_copy 8 (some .long) 5 := ⟨tb_in 988 (by decide +kernel), tb_in 11 (by decide +kernel), ⟨by decide +kernel, by decide +kernel, by decide +kernel⟩, by decide⟩
theorem mi_yX9_copy : Cond.instanceMethod yX9_copy ∈ lw_tbl := tb_in 986 (by decide +kernel)
theorem ms_yX9_copy : Cond.selects yX9_copy.cls yX9_copy yX9_copy ∈ lw_tbl := tb_in 987 (by decide +kernel)
theorem my_yX9_drop : gY yX9_drop cX9_drop 2 (some .long) 1 := ⟨tb_in 992 (by decide +kernel), tb_in 11 (by decide +kernel), ⟨by decide +kernel, by decide +kernel, by decide +kernel⟩, by decide⟩
theorem mi_yX9_drop : Cond.instanceMethod yX9_drop ∈ lw_tbl := tb_in 990 (by decide +kernel)
theorem ms_yX9_drop : Cond.selects yX9_drop.cls yX9_drop yX9_drop ∈ lw_tbl := tb_in 991 (by decide +kernel)
theorem my_yX9_feed : gY yX9_feed cX9_feed 5 (some .long) 2 := ⟨tb_in 996 (by decide +kernel), tb_in 11 (by decide +kernel), ⟨by decide +kernel, by decide +kernel, by decide +kernel⟩, by decide⟩
theorem mi_yX9_feed : Cond.instanceMethod yX9_feed ∈ lw_tbl := tb_in 994 (by decide +kernel)
theorem ms_yX9_feed : Cond.selects yX9_feed.cls yX9_feed yX9_feed ∈ lw_tbl := tb_in 995 (by decide +kernel)
theorem my_yX9_game : gY yX9_game cX9_game 4 (some .long) 0 := ⟨tb_in 1003 (by decide +kernel), tb_in 11 (by decide +kernel), ⟨by decide +kernel, by decide +kernel, by decide +kernel⟩, by decide⟩
theorem mi_yX9_game : Cond.instanceMethod yX9_game ∈ lw_tbl := tb_in 1001 (by decide +kernel)
theorem ms_yX9_game : Cond.selects yX9_game.cls yX9_game yX9_game ∈ lw_tbl := tb_in 1002 (by decide +kernel)
theorem my_yX9_readsAll : gY yX9_readsAll cX9_readsAll 5 (some .int) 0 := ⟨tb_in 1007 (by decide +kernel), tb_in 11 (by decide +kernel), ⟨by decide +kernel, by decide +kernel, by decide +kernel⟩, by decide⟩
theorem mi_yX9_readsAll : Cond.instanceMethod yX9_readsAll ∈ lw_tbl := tb_in 1006 (by decide +kernel)
theorem ms_yX9_readsAll : Cond.selects yX9_readsAll.cls yX9_readsAll yX9_readsAll ∈ lw_tbl := sl_in (q := (yX9_readsAll, 40)) 31 (by decide +kernel)
theorem my_yX9_readsShare : gY yX9_readsShare cX9_readsShare 3 (some .int) 0 := ⟨tb_in 1011 (by decide +kernel), tb_in 11 (by decide +kernel), ⟨by decide +kernel, by decide +kernel, by decide +kernel⟩, by decide⟩
theorem mi_yX9_readsShare : Cond.instanceMethod yX9_readsShare ∈ lw_tbl := tb_in 1010 (by decide +kernel)
theorem ms_yX9_readsShare : Cond.selects yX9_readsShare.cls yX9_readsShare yX9_readsShare ∈ lw_tbl := sl_in (q := (yX9_readsShare, 40)) 32 (by decide +kernel)
theorem my_yX9_token : gY yX9_token cX9_token 2 none 0 := ⟨tb_in 1015 (by decide +kernel), tb_in 11 (by decide +kernel), ⟨by decide +kernel, by decide +kernel, by decide +kernel⟩, by decide⟩
theorem mi_yX9_token : Cond.instanceMethod yX9_token ∈ lw_tbl := tb_in 1014 (by decide +kernel)
theorem ms_yX9_token : Cond.selects yX9_token.cls yX9_token yX9_token ∈ lw_tbl := sl_in (q := (yX9_token, 40)) 33 (by decide +kernel)
theorem my_yX9_readsPlace : gY yX9_readsPlace cX9_readsPlace 4 (some .int) 0 := ⟨tb_in 1024 (by decide +kernel), tb_in 11 (by decide +kernel), ⟨by decide +kernel, by decide +kernel, by decide +kernel⟩, by decide⟩
theorem mi_yX9_readsPlace : Cond.instanceMethod yX9_readsPlace ∈ lw_tbl := tb_in 1023 (by decide +kernel)
theorem ms_yX9_readsPlace : Cond.selects yX9_readsPlace.cls yX9_readsPlace yX9_readsPlace ∈ lw_tbl := sl_in (q := (yX9_readsPlace, 40)) 34 (by decide +kernel)
theorem my_yX9_wordNow : gY yX9_wordNow cX9_wordNow 1 (some .int) 0 := ⟨tb_in 1028 (by decide +kernel), tb_in 11 (by decide +kernel), ⟨by decide +kernel, by decide +kernel, by decide +kernel⟩, by decide⟩
theorem mi_yX9_wordNow : Cond.instanceMethod yX9_wordNow ∈ lw_tbl := tb_in 1027 (by decide +kernel)
theorem ms_yX9_wordNow : Cond.selects yX9_wordNow.cls yX9_wordNow yX9_wordNow ∈ lw_tbl := sl_in (q := (yX9_wordNow, 40)) 35 (by decide +kernel)
theorem my_yX9_isWord : gY yX9_isWord cX9_isWord 6 (some .boolean) 4 := ⟨tb_in 1032 (by decide +kernel), tb_in 11 (by decide +kernel), ⟨by decide +kernel, by decide +kernel, by decide +kernel⟩, by decide⟩
theorem mi_yX9_isWord : Cond.instanceMethod yX9_isWord ∈ lw_tbl := tb_in 1031 (by decide +kernel)
theorem ms_yX9_isWord : Cond.selects yX9_isWord.cls yX9_isWord yX9_isWord ∈ lw_tbl := sl_in (q := (yX9_isWord, 40)) 36 (by decide +kernel)
theorem my_yX9_readsDeal : gY yX9_readsDeal cX9_readsDeal 2 (some .int) 1 := ⟨tb_in 1037 (by decide +kernel), tb_in 11 (by decide +kernel), ⟨by decide +kernel, by decide +kernel, by decide +kernel⟩, by decide⟩
theorem mi_yX9_readsDeal : Cond.instanceMethod yX9_readsDeal ∈ lw_tbl := tb_in 1036 (by decide +kernel)
theorem ms_yX9_readsDeal : Cond.selects yX9_readsDeal.cls yX9_readsDeal yX9_readsDeal ∈ lw_tbl := sl_in (q := (yX9_readsDeal, 40)) 37 (by decide +kernel)
theorem my_yX9_readsHeld : gY yX9_readsHeld cX9_readsHeld 4 (some .int) 2 := ⟨tb_in 1042 (by decide +kernel), tb_in 11 (by decide +kernel), ⟨by decide +kernel, by decide +kernel, by decide +kernel⟩, by decide⟩
theorem mi_yX9_readsHeld : Cond.instanceMethod yX9_readsHeld ∈ lw_tbl := tb_in 1041 (by decide +kernel)
theorem ms_yX9_readsHeld : Cond.selects yX9_readsHeld.cls yX9_readsHeld yX9_readsHeld ∈ lw_tbl := sl_in (q := (yX9_readsHeld, 40)) 38 (by decide +kernel)
theorem my_yX9_fault : gY yX9_fault cX9_fault 1 (some .int) 0 := ⟨tb_in 1048 (by decide +kernel), tb_in 11 (by decide +kernel), ⟨by decide +kernel, by decide +kernel, by decide +kernel⟩, by decide⟩
theorem mi_yX9_fault : Cond.instanceMethod yX9_fault ∈ lw_tbl := tb_in 1046 (by decide +kernel)
theorem ms_yX9_fault : Cond.selects yX9_fault.cls yX9_fault yX9_fault ∈ lw_tbl := tb_in 1047 (by decide +kernel)
theorem my_yX9_place : gY yX9_place cX9_place 3 (some .long) 2 := ⟨tb_in 1052 (by decide +kernel), tb_in 11 (by decide +kernel), ⟨by decide +kernel, by decide +kernel, by decide +kernel⟩, by decide⟩
theorem mi_yX9_place : Cond.instanceMethod yX9_place ∈ lw_tbl := tb_in 1050 (by decide +kernel)
theorem ms_yX9_place : Cond.selects yX9_place.cls yX9_place yX9_place ∈ lw_tbl := tb_in 1051 (by decide +kernel)
theorem my_yX9_isPlace : gY yX9_isPlace cX9_isPlace 2 (some .boolean) 1 := ⟨tb_in 1056 (by decide +kernel), tb_in 11 (by decide +kernel), ⟨by decide +kernel, by decide +kernel, by decide +kernel⟩, by decide⟩
theorem mi_yX9_isPlace : Cond.instanceMethod yX9_isPlace ∈ lw_tbl := tb_in 1055 (by decide +kernel)
theorem ms_yX9_isPlace : Cond.selects yX9_isPlace.cls yX9_isPlace yX9_isPlace ∈ lw_tbl := sl_in (q := (yX9_isPlace, 40)) 39 (by decide +kernel)
theorem my_yX9_seen : gY yX9_seen cX9_seen 3 (some .long) 2 := ⟨tb_in 1060 (by decide +kernel), tb_in 11 (by decide +kernel), ⟨by decide +kernel, by decide +kernel, by decide +kernel⟩, by decide⟩
theorem mi_yX9_seen : Cond.instanceMethod yX9_seen ∈ lw_tbl := tb_in 1058 (by decide +kernel)
theorem ms_yX9_seen : Cond.selects yX9_seen.cls yX9_seen yX9_seen ∈ lw_tbl := tb_in 1059 (by decide +kernel)
theorem my_yX9_placesIn : gY yX9_placesIn cX9_placesIn 4 (some .int) 1 := ⟨tb_in 1066 (by decide +kernel), tb_in 11 (by decide +kernel), ⟨by decide +kernel, by decide +kernel, by decide +kernel⟩, by decide⟩
theorem mi_yX9_placesIn : Cond.instanceMethod yX9_placesIn ∈ lw_tbl := tb_in 1065 (by decide +kernel)
theorem ms_yX9_placesIn : Cond.selects yX9_placesIn.cls yX9_placesIn yX9_placesIn ∈ lw_tbl := sl_in (q := (yX9_placesIn, 40)) 40 (by decide +kernel)
theorem my_yX9_forgets : gY yX9_forgets cX9_forgets 2 (some .long) 1 := ⟨tb_in 1070 (by decide +kernel), tb_in 11 (by decide +kernel), ⟨by decide +kernel, by decide +kernel, by decide +kernel⟩, by decide⟩
theorem mi_yX9_forgets : Cond.instanceMethod yX9_forgets ∈ lw_tbl := tb_in 1068 (by decide +kernel)
theorem ms_yX9_forgets : Cond.selects yX9_forgets.cls yX9_forgets yX9_forgets ∈ lw_tbl := tb_in 1069 (by decide +kernel)
theorem my_yX9_isForgetful : gY yX9_isForgetful cX9_isForgetful 4 (some .boolean) 1 := ⟨tb_in 1074 (by decide +kernel), tb_in 11 (by decide +kernel), ⟨by decide +kernel, by decide +kernel, by decide +kernel⟩, by decide⟩
theorem mi_yX9_isForgetful : Cond.instanceMethod yX9_isForgetful ∈ lw_tbl := tb_in 1073 (by decide +kernel)
theorem ms_yX9_isForgetful : Cond.selects yX9_isForgetful.cls yX9_isForgetful yX9_isForgetful ∈ lw_tbl := sl_in (q := (yX9_isForgetful, 40)) 41 (by decide +kernel)
theorem my_yX9_isOf : gY yX9_isOf cX9_isOf 3 (some .boolean) 2 := ⟨tb_in 1078 (by decide +kernel), tb_in 11 (by decide +kernel), ⟨by decide +kernel, by decide +kernel, by decide +kernel⟩, by decide⟩
theorem mi_yX9_isOf : Cond.instanceMethod yX9_isOf ∈ lw_tbl := tb_in 1077 (by decide +kernel)
theorem ms_yX9_isOf : Cond.selects yX9_isOf.cls yX9_isOf yX9_isOf ∈ lw_tbl := sl_in (q := (yX9_isOf, 40)) 42 (by decide +kernel)
theorem my_yX9_areAlike : gY yX9_areAlike cX9_areAlike 9 (some .boolean) 3 := ⟨tb_in 1082 (by decide +kernel), tb_in 11 (by decide +kernel), ⟨by decide +kernel, by decide +kernel, by decide +kernel⟩, by decide⟩
theorem mi_yX9_areAlike : Cond.instanceMethod yX9_areAlike ∈ lw_tbl := tb_in 1081 (by decide +kernel)
theorem ms_yX9_areAlike : Cond.selects yX9_areAlike.cls yX9_areAlike yX9_areAlike ∈ lw_tbl := sl_in (q := (yX9_areAlike, 40)) 43 (by decide +kernel)
theorem my_yX9_ownAbove : gY yX9_ownAbove cX9_ownAbove 4 (some .int) 2 := ⟨tb_in 1086 (by decide +kernel), tb_in 11 (by decide +kernel), ⟨by decide +kernel, by decide +kernel, by decide +kernel⟩, by decide⟩
theorem mi_yX9_ownAbove : Cond.instanceMethod yX9_ownAbove ∈ lw_tbl := tb_in 1085 (by decide +kernel)
theorem ms_yX9_ownAbove : Cond.selects yX9_ownAbove.cls yX9_ownAbove yX9_ownAbove ∈ lw_tbl := sl_in (q := (yX9_ownAbove, 40)) 44 (by decide +kernel)
theorem my_yX9_wayTo : gY yX9_wayTo cX9_wayTo 4 (some .int) 2 := ⟨tb_in 1090 (by decide +kernel), tb_in 11 (by decide +kernel), ⟨by decide +kernel, by decide +kernel, by decide +kernel⟩, by decide⟩
theorem mi_yX9_wayTo : Cond.instanceMethod yX9_wayTo ∈ lw_tbl := tb_in 1089 (by decide +kernel)
theorem ms_yX9_wayTo : Cond.selects yX9_wayTo.cls yX9_wayTo yX9_wayTo ∈ lw_tbl := sl_in (q := (yX9_wayTo, 40)) 45 (by decide +kernel)
theorem my_yX9_mix : gY yX9_mix cX9_mix 8 (some .long) 3 := ⟨tb_in 1094 (by decide +kernel), tb_in 11 (by decide +kernel), ⟨by decide +kernel, by decide +kernel, by decide +kernel⟩, by decide⟩
theorem mi_yX9_mix : Cond.instanceMethod yX9_mix ∈ lw_tbl := tb_in 1092 (by decide +kernel)
theorem ms_yX9_mix : Cond.selects yX9_mix.cls yX9_mix yX9_mix ∈ lw_tbl := tb_in 1093 (by decide +kernel)
theorem my_yX9_isSet : gY yX9_isSet cX9_isSet 2 (some .boolean) 1 := ⟨tb_in 1098 (by decide +kernel), tb_in 11 (by decide +kernel), ⟨by decide +kernel, by decide +kernel, by decide +kernel⟩, by decide⟩
theorem mi_yX9_isSet : Cond.instanceMethod yX9_isSet ∈ lw_tbl := tb_in 1097 (by decide +kernel)
theorem ms_yX9_isSet : Cond.selects yX9_isSet.cls yX9_isSet yX9_isSet ∈ lw_tbl := sl_in (q := (yX9_isSet, 40)) 46 (by decide +kernel)
theorem my_yX9_share : gY yX9_share cX9_share 3 (some .long) 2 := ⟨tb_in 1103 (by decide +kernel), tb_in 11 (by decide +kernel), ⟨by decide +kernel, by decide +kernel, by decide +kernel⟩, by decide⟩
theorem mi_yX9_share : Cond.instanceMethod yX9_share ∈ lw_tbl := tb_in 1101 (by decide +kernel)
theorem ms_yX9_share : Cond.selects yX9_share.cls yX9_share yX9_share ∈ lw_tbl := tb_in 1102 (by decide +kernel)
theorem my_yX9_value : gY yX9_value cX9_value 1 (some .long) 0 := ⟨tb_in 1107 (by decide +kernel), tb_in 11 (by decide +kernel), ⟨by decide +kernel, by decide +kernel, by decide +kernel⟩, by decide⟩
theorem mi_yX9_value : Cond.instanceMethod yX9_value ∈ lw_tbl := tb_in 1105 (by decide +kernel)
theorem ms_yX9_value : Cond.selects yX9_value.cls yX9_value yX9_value ∈ lw_tbl := tb_in 1106 (by decide +kernel)
theorem my_yX9_valueNow : gY yX9_valueNow cX9_valueNow 4 (some .long) 0 := ⟨tb_in 1112 (by decide +kernel), tb_in 11 (by decide +kernel), ⟨by decide +kernel, by decide +kernel, by decide +kernel⟩, by decide⟩
theorem mi_yX9_valueNow : Cond.instanceMethod yX9_valueNow ∈ lw_tbl := tb_in 1111 (by decide +kernel)
theorem ms_yX9_valueNow : Cond.selects yX9_valueNow.cls yX9_valueNow yX9_valueNow ∈ lw_tbl := sl_in (q := (yX9_valueNow, 40)) 47 (by decide +kernel)
theorem my_yX9_layReach : gY yX9_layReach cX9_layReach 4 none 2 := ⟨tb_in 1116 (by decide +kernel), tb_in 11 (by decide +kernel), ⟨by decide +kernel, by decide +kernel, by decide +kernel⟩, by decide⟩
theorem mi_yX9_layReach : Cond.instanceMethod yX9_layReach ∈ lw_tbl := tb_in 1115 (by decide +kernel)
theorem ms_yX9_layReach : Cond.selects yX9_layReach.cls yX9_layReach yX9_layReach ∈ lw_tbl := sl_in (q := (yX9_layReach, 40)) 48 (by decide +kernel)
theorem my_yX9_shareTo : gY yX9_shareTo cX9_shareTo 6 (some .int) 3 := ⟨tb_in 1121 (by decide +kernel), tb_in 11 (by decide +kernel), ⟨by decide +kernel, by decide +kernel, by decide +kernel⟩, by decide⟩
theorem mi_yX9_shareTo : Cond.instanceMethod yX9_shareTo ∈ lw_tbl := tb_in 1120 (by decide +kernel)
theorem ms_yX9_shareTo : Cond.selects yX9_shareTo.cls yX9_shareTo yX9_shareTo ∈ lw_tbl := sl_in (q := (yX9_shareTo, 40)) 49 (by decide +kernel)
theorem my_yX9_reach : gY yX9_reach cX9_reach 3 (some .long) 2 := ⟨tb_in 1125 (by decide +kernel), tb_in 11 (by decide +kernel), ⟨by decide +kernel, by decide +kernel, by decide +kernel⟩, by decide⟩
theorem mi_yX9_reach : Cond.instanceMethod yX9_reach ∈ lw_tbl := tb_in 1123 (by decide +kernel)
theorem ms_yX9_reach : Cond.selects yX9_reach.cls yX9_reach yX9_reach ∈ lw_tbl := tb_in 1124 (by decide +kernel)
theorem my_yX9_best : gY yX9_best cX9_best 3 (some .long) 2 := ⟨tb_in 1129 (by decide +kernel), tb_in 11 (by decide +kernel), ⟨by decide +kernel, by decide +kernel, by decide +kernel⟩, by decide⟩
theorem mi_yX9_best : Cond.instanceMethod yX9_best ∈ lw_tbl := tb_in 1127 (by decide +kernel)
theorem ms_yX9_best : Cond.selects yX9_best.cls yX9_best yX9_best ∈ lw_tbl := tb_in 1128 (by decide +kernel)
theorem my_yX9_answerOf : gY yX9_answerOf cX9_answerOf 2 (some .long) 1 := ⟨tb_in 1133 (by decide +kernel), tb_in 11 (by decide +kernel), ⟨by decide +kernel, by decide +kernel, by decide +kernel⟩, by decide⟩
theorem mi_yX9_answerOf : Cond.instanceMethod yX9_answerOf ∈ lw_tbl := tb_in 1132 (by decide +kernel)
theorem ms_yX9_answerOf : Cond.selects yX9_answerOf.cls yX9_answerOf yX9_answerOf ∈ lw_tbl := sl_in (q := (yX9_answerOf, 40)) 50 (by decide +kernel)
theorem my_yX9_layGroups : gY yX9_layGroups cX9_layGroups 2 none 0 := ⟨tb_in 1137 (by decide +kernel), tb_in 11 (by decide +kernel), ⟨by decide +kernel, by decide +kernel, by decide +kernel⟩, by decide⟩
theorem mi_yX9_layGroups : Cond.instanceMethod yX9_layGroups ∈ lw_tbl := tb_in 1136 (by decide +kernel)
theorem ms_yX9_layGroups : Cond.selects yX9_layGroups.cls yX9_layGroups yX9_layGroups ∈ lw_tbl := sl_in (q := (yX9_layGroups, 40)) 51 (by decide +kernel)
theorem my_yX9_layCounts : gY yX9_layCounts cX9_layCounts 3 none 1 := ⟨tb_in 1141 (by decide +kernel), tb_in 11 (by decide +kernel), ⟨by decide +kernel, by decide +kernel, by decide +kernel⟩, by decide⟩
theorem mi_yX9_layCounts : Cond.instanceMethod yX9_layCounts ∈ lw_tbl := tb_in 1140 (by decide +kernel)
theorem ms_yX9_layCounts : Cond.selects yX9_layCounts.cls yX9_layCounts yX9_layCounts ∈ lw_tbl := sl_in (q := (yX9_layCounts, 40)) 52 (by decide +kernel)
theorem my_yX9_answerBy : gY yX9_answerBy cX9_answerBy 4 (some .long) 1 := ⟨tb_in 1145 (by decide +kernel), tb_in 11 (by decide +kernel), ⟨by decide +kernel, by decide +kernel, by decide +kernel⟩, by decide⟩
theorem mi_yX9_answerBy : Cond.instanceMethod yX9_answerBy ∈ lw_tbl := tb_in 1144 (by decide +kernel)
theorem ms_yX9_answerBy : Cond.selects yX9_answerBy.cls yX9_answerBy yX9_answerBy ∈ lw_tbl := sl_in (q := (yX9_answerBy, 40)) 53 (by decide +kernel)
theorem my_yX9_layWorth : gY yX9_layWorth cX9_layWorth 6 none 1 := ⟨tb_in 1149 (by decide +kernel), tb_in 11 (by decide +kernel), ⟨by decide +kernel, by decide +kernel, by decide +kernel⟩, by decide⟩
theorem mi_yX9_layWorth : Cond.instanceMethod yX9_layWorth ∈ lw_tbl := tb_in 1148 (by decide +kernel)
theorem ms_yX9_layWorth : Cond.selects yX9_layWorth.cls yX9_layWorth yX9_layWorth ∈ lw_tbl := sl_in (q := (yX9_layWorth, 40)) 54 (by decide +kernel)
theorem my_yX9_ownDeep : gY yX9_ownDeep cX9_ownDeep 5 (some .int) 2 := ⟨tb_in 1153 (by decide +kernel), tb_in 11 (by decide +kernel), ⟨by decide +kernel, by decide +kernel, by decide +kernel⟩, by decide⟩
theorem mi_yX9_ownDeep : Cond.instanceMethod yX9_ownDeep ∈ lw_tbl := tb_in 1152 (by decide +kernel)
theorem ms_yX9_ownDeep : Cond.selects yX9_ownDeep.cls yX9_ownDeep yX9_ownDeep ∈ lw_tbl := sl_in (q := (yX9_ownDeep, 40)) 55 (by decide +kernel)
theorem my_yX9_bestAct : gY yX9_bestAct cX9_bestAct 8 (some .int) 3 := ⟨tb_in 1157 (by decide +kernel), tb_in 11 (by decide +kernel), ⟨by decide +kernel, by decide +kernel, by decide +kernel⟩, by decide⟩
theorem mi_yX9_bestAct : Cond.instanceMethod yX9_bestAct ∈ lw_tbl := tb_in 1156 (by decide +kernel)
theorem ms_yX9_bestAct : Cond.selects yX9_bestAct.cls yX9_bestAct yX9_bestAct ∈ lw_tbl := sl_in (q := (yX9_bestAct, 40)) 56 (by decide +kernel)
theorem my_yX9_worthOf : gY yX9_worthOf cX9_worthOf 7 (some .long) 3 := ⟨tb_in 1161 (by decide +kernel), tb_in 11 (by decide +kernel), ⟨by decide +kernel, by decide +kernel, by decide +kernel⟩, by decide⟩
theorem mi_yX9_worthOf : Cond.instanceMethod yX9_worthOf ∈ lw_tbl := tb_in 1160 (by decide +kernel)
theorem ms_yX9_worthOf : Cond.selects yX9_worthOf.cls yX9_worthOf yX9_worthOf ∈ lw_tbl := sl_in (q := (yX9_worthOf, 40)) 57 (by decide +kernel)
theorem my_yX9_gainOf : gY yX9_gainOf cX9_gainOf 4 (some .long) 1 := ⟨tb_in 1165 (by decide +kernel), tb_in 11 (by decide +kernel), ⟨by decide +kernel, by decide +kernel, by decide +kernel⟩, by decide⟩
theorem mi_yX9_gainOf : Cond.instanceMethod yX9_gainOf ∈ lw_tbl := tb_in 1164 (by decide +kernel)
theorem ms_yX9_gainOf : Cond.selects yX9_gainOf.cls yX9_gainOf yX9_gainOf ∈ lw_tbl := sl_in (q := (yX9_gainOf, 40)) 58 (by decide +kernel)
theorem my_yX9_answer : gY yX9_answer cX9_answer 2 (some .long) 1 := ⟨tb_in 1169 (by decide +kernel), tb_in 11 (by decide +kernel), ⟨by decide +kernel, by decide +kernel, by decide +kernel⟩, by decide⟩
theorem mi_yX9_answer : Cond.instanceMethod yX9_answer ∈ lw_tbl := tb_in 1167 (by decide +kernel)
theorem ms_yX9_answer : Cond.selects yX9_answer.cls yX9_answer yX9_answer ∈ lw_tbl := tb_in 1168 (by decide +kernel)
theorem my_yX9_belief : gY yX9_belief cX9_belief 6 (some .long) 2 := ⟨tb_in 1173 (by decide +kernel), tb_in 11 (by decide +kernel), ⟨by decide +kernel, by decide +kernel, by decide +kernel⟩, by decide⟩
theorem mi_yX9_belief : Cond.instanceMethod yX9_belief ∈ lw_tbl := tb_in 1171 (by decide +kernel)
theorem ms_yX9_belief : Cond.selects yX9_belief.cls yX9_belief yX9_belief ∈ lw_tbl := tb_in 1172 (by decide +kernel)
theorem my_yX9_seeing : gY yX9_seeing cX9_seeing 8 (some .long) 1 := ⟨tb_in 1177 (by decide +kernel), tb_in 11 (by decide +kernel), ⟨by decide +kernel, by decide +kernel, by decide +kernel⟩, by decide⟩
theorem mi_yX9_seeing : Cond.instanceMethod yX9_seeing ∈ lw_tbl := tb_in 1175 (by decide +kernel)
theorem ms_yX9_seeing : Cond.selects yX9_seeing.cls yX9_seeing yX9_seeing ∈ lw_tbl := tb_in 1176 (by decide +kernel)
theorem my_yX9_through : gY yX9_through cX9_through 4 (some .int) 2 := ⟨tb_in 1181 (by decide +kernel), tb_in 11 (by decide +kernel), ⟨by decide +kernel, by decide +kernel, by decide +kernel⟩, by decide⟩
theorem mi_yX9_through : Cond.instanceMethod yX9_through ∈ lw_tbl := tb_in 1180 (by decide +kernel)
theorem ms_yX9_through : Cond.selects yX9_through.cls yX9_through yX9_through ∈ lw_tbl := sl_in (q := (yX9_through, 40)) 59 (by decide +kernel)
theorem my_yX9_fewer : gY yX9_fewer cX9_fewer 3 (some .long) 2 := ⟨tb_in 1185 (by decide +kernel), tb_in 11 (by decide +kernel), ⟨by decide +kernel, by decide +kernel, by decide +kernel⟩, by decide⟩
theorem mi_yX9_fewer : Cond.instanceMethod yX9_fewer ∈ lw_tbl := tb_in 1183 (by decide +kernel)
theorem ms_yX9_fewer : Cond.selects yX9_fewer.cls yX9_fewer yX9_fewer ∈ lw_tbl := tb_in 1184 (by decide +kernel)
theorem my_yX9_rounds : gY yX9_rounds cX9_rounds 5 (some .long) 1 := ⟨tb_in 1189 (by decide +kernel), tb_in 11 (by decide +kernel), ⟨by decide +kernel, by decide +kernel, by decide +kernel⟩, by decide⟩
theorem mi_yX9_rounds : Cond.instanceMethod yX9_rounds ∈ lw_tbl := tb_in 1187 (by decide +kernel)
theorem ms_yX9_rounds : Cond.selects yX9_rounds.cls yX9_rounds yX9_rounds ∈ lw_tbl := tb_in 1188 (by decide +kernel)
theorem my_yX9_againstRounds : gY yX9_againstRounds cX9_againstRounds 4 (some .long) 1 := ⟨tb_in 1194 (by decide +kernel), tb_in 11 (by decide +kernel), ⟨by decide +kernel, by decide +kernel, by decide +kernel⟩, by decide⟩
theorem mi_yX9_againstRounds : Cond.instanceMethod yX9_againstRounds ∈ lw_tbl := tb_in 1193 (by decide +kernel)
theorem ms_yX9_againstRounds : Cond.selects yX9_againstRounds.cls yX9_againstRounds yX9_againstRounds ∈ lw_tbl := sl_in (q := (yX9_againstRounds, 40)) 60 (by decide +kernel)
theorem my_yX9_bound : gY yX9_bound cX9_bound 2 (some .long) 1 := ⟨tb_in 1198 (by decide +kernel), tb_in 11 (by decide +kernel), ⟨by decide +kernel, by decide +kernel, by decide +kernel⟩, by decide⟩
theorem mi_yX9_bound : Cond.instanceMethod yX9_bound ∈ lw_tbl := tb_in 1196 (by decide +kernel)
theorem ms_yX9_bound : Cond.selects yX9_bound.cls yX9_bound yX9_bound ∈ lw_tbl := tb_in 1197 (by decide +kernel)
theorem my_yX9_mean : gY yX9_mean cX9_mean 5 (some .long) 2 := ⟨tb_in 1202 (by decide +kernel), tb_in 11 (by decide +kernel), ⟨by decide +kernel, by decide +kernel, by decide +kernel⟩, by decide⟩
theorem mi_yX9_mean : Cond.instanceMethod yX9_mean ∈ lw_tbl := tb_in 1200 (by decide +kernel)
theorem ms_yX9_mean : Cond.selects yX9_mean.cls yX9_mean yX9_mean ∈ lw_tbl := tb_in 1201 (by decide +kernel)
theorem my_yX9_take : gY yX9_take cX9_take 4 (some .long) 1 := ⟨tb_in 1206 (by decide +kernel), tb_in 11 (by decide +kernel), ⟨by decide +kernel, by decide +kernel, by decide +kernel⟩, by decide⟩
theorem mi_yX9_take : Cond.instanceMethod yX9_take ∈ lw_tbl := tb_in 1204 (by decide +kernel)
theorem ms_yX9_take : Cond.selects yX9_take.cls yX9_take yX9_take ∈ lw_tbl := tb_in 1205 (by decide +kernel)
theorem my_yX9_kind : gY yX9_kind cX9_kind 2 (some .long) 1 := ⟨tb_in 1210 (by decide +kernel), tb_in 11 (by decide +kernel), ⟨by decide +kernel, by decide +kernel, by decide +kernel⟩, by decide⟩
theorem mi_yX9_kind : Cond.instanceMethod yX9_kind ∈ lw_tbl := tb_in 1208 (by decide +kernel)
theorem ms_yX9_kind : Cond.selects yX9_kind.cls yX9_kind yX9_kind ∈ lw_tbl := tb_in 1209 (by decide +kernel)
theorem my_yX9_kindOf : gY yX9_kindOf cX9_kindOf 2 (some .int) 1 := ⟨tb_in 1214 (by decide +kernel), tb_in 11 (by decide +kernel), ⟨by decide +kernel, by decide +kernel, by decide +kernel⟩, by decide⟩
theorem mi_yX9_kindOf : Cond.instanceMethod yX9_kindOf ∈ lw_tbl := tb_in 1213 (by decide +kernel)
theorem ms_yX9_kindOf : Cond.selects yX9_kindOf.cls yX9_kindOf yX9_kindOf ∈ lw_tbl := sl_in (q := (yX9_kindOf, 40)) 61 (by decide +kernel)
theorem my_yX9_as : gY yX9_as cX9_as 5 (some .long) 2 := ⟨tb_in 1218 (by decide +kernel), tb_in 11 (by decide +kernel), ⟨by decide +kernel, by decide +kernel, by decide +kernel⟩, by decide⟩
theorem mi_yX9_as : Cond.instanceMethod yX9_as ∈ lw_tbl := tb_in 1216 (by decide +kernel)
theorem ms_yX9_as : Cond.selects yX9_as.cls yX9_as yX9_as ∈ lw_tbl := tb_in 1217 (by decide +kernel)
theorem my_yX9_ask : gY yX9_ask cX9_ask 4 (some .long) 2 := ⟨tb_in 1223 (by decide +kernel), tb_in 11 (by decide +kernel), ⟨by decide +kernel, by decide +kernel, by decide +kernel⟩, by decide⟩
theorem mi_yX9_ask : Cond.instanceMethod yX9_ask ∈ lw_tbl := tb_in 1221 (by decide +kernel)
theorem ms_yX9_ask : Cond.selects yX9_ask.cls yX9_ask yX9_ask ∈ lw_tbl := tb_in 1222 (by decide +kernel)
theorem my_yX9_size11 : gY yX9_size11 cX9_size11 2 (some .long) 1 := ⟨tb_in 1227 (by decide +kernel), tb_in 11 (by decide +kernel), ⟨by decide +kernel, by decide +kernel, by decide +kernel⟩, by decide⟩
theorem mi_yX9_size11 : Cond.instanceMethod yX9_size11 ∈ lw_tbl := tb_in 1226 (by decide +kernel)
theorem ms_yX9_size11 : Cond.selects yX9_size11.cls yX9_size11 yX9_size11 ∈ lw_tbl := sl_in (q := (yX9_size11, 40)) 62 (by decide +kernel)
theorem my_yX9_note : gY yX9_note cX9_note 2 none 1 := ⟨tb_in 1231 (by decide +kernel), tb_in 11 (by decide +kernel), ⟨by decide +kernel, by decide +kernel, by decide +kernel⟩, by decide⟩
theorem mi_yX9_note : Cond.instanceMethod yX9_note ∈ lw_tbl := tb_in 1230 (by decide +kernel)
theorem ms_yX9_note : Cond.selects yX9_note.cls yX9_note yX9_note ∈ lw_tbl := sl_in (q := (yX9_note, 40)) 63 (by decide +kernel)
theorem my_yX9_size10 : gY yX9_size10 cX9_size10 3 (some .long) 1 := ⟨tb_in 1235 (by decide +kernel), tb_in 11 (by decide +kernel), ⟨by decide +kernel, by decide +kernel, by decide +kernel⟩, by decide⟩
theorem mi_yX9_size10 : Cond.instanceMethod yX9_size10 ∈ lw_tbl := tb_in 1234 (by decide +kernel)
theorem ms_yX9_size10 : Cond.selects yX9_size10.cls yX9_size10 yX9_size10 ∈ lw_tbl := sl_in (q := (yX9_size10, 40)) 64 (by decide +kernel)
theorem my_yX9_size12 : gY yX9_size12 cX9_size12 4 (some .long) 1 := ⟨tb_in 1239 (by decide +kernel), tb_in 11 (by decide +kernel), ⟨by decide +kernel, by decide +kernel, by decide +kernel⟩, by decide⟩
theorem mi_yX9_size12 : Cond.instanceMethod yX9_size12 ∈ lw_tbl := tb_in 1238 (by decide +kernel)
theorem ms_yX9_size12 : Cond.selects yX9_size12.cls yX9_size12 yX9_size12 ∈ lw_tbl := sl_in (q := (yX9_size12, 40)) 65 (by decide +kernel)
theorem my_yX9_mark21 : gY yX9_mark21 cX9_mark21 2 (some .long) 1 := ⟨tb_in 1243 (by decide +kernel), tb_in 11 (by decide +kernel), ⟨by decide +kernel, by decide +kernel, by decide +kernel⟩, by decide⟩
theorem mi_yX9_mark21 : Cond.instanceMethod yX9_mark21 ∈ lw_tbl := tb_in 1242 (by decide +kernel)
theorem ms_yX9_mark21 : Cond.selects yX9_mark21.cls yX9_mark21 yX9_mark21 ∈ lw_tbl := sl_in (q := (yX9_mark21, 40)) 66 (by decide +kernel)
theorem my_yX9_mark20 : gY yX9_mark20 cX9_mark20 2 (some .long) 1 := ⟨tb_in 1247 (by decide +kernel), tb_in 11 (by decide +kernel), ⟨by decide +kernel, by decide +kernel, by decide +kernel⟩, by decide⟩
theorem mi_yX9_mark20 : Cond.instanceMethod yX9_mark20 ∈ lw_tbl := tb_in 1246 (by decide +kernel)
theorem ms_yX9_mark20 : Cond.selects yX9_mark20.cls yX9_mark20 yX9_mark20 ∈ lw_tbl := sl_in (q := (yX9_mark20, 40)) 67 (by decide +kernel)
theorem my_yX9_size13 : gY yX9_size13 cX9_size13 2 (some .long) 1 := ⟨tb_in 1252 (by decide +kernel), tb_in 11 (by decide +kernel), ⟨by decide +kernel, by decide +kernel, by decide +kernel⟩, by decide⟩
theorem mi_yX9_size13 : Cond.instanceMethod yX9_size13 ∈ lw_tbl := tb_in 1251 (by decide +kernel)
theorem ms_yX9_size13 : Cond.selects yX9_size13.cls yX9_size13 yX9_size13 ∈ lw_tbl := sl_in (q := (yX9_size13, 40)) 68 (by decide +kernel)
theorem my_yX9_size14 : gY yX9_size14 cX9_size14 2 (some .long) 1 := ⟨tb_in 1256 (by decide +kernel), tb_in 11 (by decide +kernel), ⟨by decide +kernel, by decide +kernel, by decide +kernel⟩, by decide⟩
theorem mi_yX9_size14 : Cond.instanceMethod yX9_size14 ∈ lw_tbl := tb_in 1255 (by decide +kernel)
theorem ms_yX9_size14 : Cond.selects yX9_size14.cls yX9_size14 yX9_size14 ∈ lw_tbl := sl_in (q := (yX9_size14, 40)) 69 (by decide +kernel)
theorem my_yX9_size15 : gY yX9_size15 cX9_size15 2 (some .long) 1 := ⟨tb_in 1260 (by decide +kernel), tb_in 11 (by decide +kernel), ⟨by decide +kernel, by decide +kernel, by decide +kernel⟩, by decide⟩
theorem mi_yX9_size15 : Cond.instanceMethod yX9_size15 ∈ lw_tbl := tb_in 1259 (by decide +kernel)
theorem ms_yX9_size15 : Cond.selects yX9_size15.cls yX9_size15 yX9_size15 ∈ lw_tbl := sl_in (q := (yX9_size15, 40)) 70 (by decide +kernel)
theorem my_yX9_mark22 : gY yX9_mark22 cX9_mark22 4 (some .long) 1 := ⟨tb_in 1264 (by decide +kernel), tb_in 11 (by decide +kernel), ⟨by decide +kernel, by decide +kernel, by decide +kernel⟩, by decide⟩
theorem mi_yX9_mark22 : Cond.instanceMethod yX9_mark22 ∈ lw_tbl := tb_in 1263 (by decide +kernel)
theorem ms_yX9_mark22 : Cond.selects yX9_mark22.cls yX9_mark22 yX9_mark22 ∈ lw_tbl := sl_in (q := (yX9_mark22, 40)) 71 (by decide +kernel)
theorem my_yX9_trace : gY yX9_trace cX9_trace 2 (some .int) 1 := ⟨tb_in 1268 (by decide +kernel), tb_in 11 (by decide +kernel), ⟨by decide +kernel, by decide +kernel, by decide +kernel⟩, by decide⟩
theorem mi_yX9_trace : Cond.instanceMethod yX9_trace ∈ lw_tbl := tb_in 1266 (by decide +kernel)
theorem ms_yX9_trace : Cond.selects yX9_trace.cls yX9_trace yX9_trace ∈ lw_tbl := tb_in 1267 (by decide +kernel)
theorem my_yX9_count : gY yX9_count cX9_count 4 (some .long) 1 := ⟨tb_in 1272 (by decide +kernel), tb_in 11 (by decide +kernel), ⟨by decide +kernel, by decide +kernel, by decide +kernel⟩, by decide⟩
theorem mi_yX9_count : Cond.instanceMethod yX9_count ∈ lw_tbl := tb_in 1270 (by decide +kernel)
theorem ms_yX9_count : Cond.selects yX9_count.cls yX9_count yX9_count ∈ lw_tbl := tb_in 1271 (by decide +kernel)
theorem my_yX9_status : gY yX9_status cX9_status 1 (some .int) 0 := ⟨tb_in 1276 (by decide +kernel), tb_in 11 (by decide +kernel), ⟨by decide +kernel, by decide +kernel, by decide +kernel⟩, by decide⟩
theorem mi_yX9_status : Cond.instanceMethod yX9_status ∈ lw_tbl := tb_in 1274 (by decide +kernel)
theorem ms_yX9_status : Cond.selects yX9_status.cls yX9_status yX9_status ∈ lw_tbl := tb_in 1275 (by decide +kernel)
theorem ml_RX5_22 : Cond.methodLink RX5 22 yJ7_fill_53178 ∈ lw_tbl := tb_in 33 (by decide +kernel)
theorem ml_RX1_70 : Cond.methodLink RX1 70 yJ7_fill_53178 ∈ lw_tbl := tb_in 183 (by decide +kernel)
theorem ml_RL_13 : Cond.methodLink RL 13 yX8_row ∈ lw_tbl := tb_in 313 (by decide +kernel)
theorem ml_RX8_79 : Cond.methodLink RX8 79 yX8_isRow ∈ lw_tbl := tb_in 317 (by decide +kernel)
theorem ml_RX8_85 : Cond.methodLink RX8 85 yX8_found ∈ lw_tbl := tb_in 321 (by decide +kernel)
theorem ml_RX8_89 : Cond.methodLink RX8 89 yX5_lay ∈ lw_tbl := tb_in 326 (by decide +kernel)
theorem ml_RX8_93 : Cond.methodLink RX8 93 yX8_fine ∈ lw_tbl := tb_in 330 (by decide +kernel)
theorem ml_RL_18 : Cond.methodLink RL 18 yX8_set ∈ lw_tbl := tb_in 334 (by decide +kernel)
theorem ml_RX8_97 : Cond.methodLink RX8 97 yX5_isMissing ∈ lw_tbl := tb_in 338 (by decide +kernel)
theorem ml_RX8_100 : Cond.methodLink RX8 100 yX5_hasItems ∈ lw_tbl := tb_in 342 (by decide +kernel)
theorem ml_RX8_104 : Cond.methodLink RX8 104 yX5_put ∈ lw_tbl := tb_in 346 (by decide +kernel)
theorem ml_RL_22 : Cond.methodLink RL 22 yX8_copy ∈ lw_tbl := tb_in 350 (by decide +kernel)
theorem ml_RX8_112 : Cond.methodLink RX8 112 yX5_bring ∈ lw_tbl := tb_in 354 (by decide +kernel)
theorem ml_RL_27 : Cond.methodLink RL 27 yX8_drop ∈ lw_tbl := tb_in 361 (by decide +kernel)
theorem ml_RX8_116 : Cond.methodLink RX8 116 yX5_remove ∈ lw_tbl := tb_in 365 (by decide +kernel)
theorem ml_RL_34 : Cond.methodLink RL 34 yX8_feed ∈ lw_tbl := tb_in 369 (by decide +kernel)
theorem ml_RX8_125 : Cond.methodLink RX8 125 yX7_push ∈ lw_tbl := tb_in 374 (by decide +kernel)
theorem ml_RL_39 : Cond.methodLink RL 39 yX8_game ∈ lw_tbl := tb_in 378 (by decide +kernel)
theorem ml_RX8_129 : Cond.methodLink RX8 129 yX4_readText ∈ lw_tbl := tb_in 382 (by decide +kernel)
theorem ml_RX4_18 : Cond.methodLink RX4 18 yX1_empty ∈ lw_tbl := tb_in 386 (by decide +kernel)
theorem ml_RX4_23 : Cond.methodLink RX4 23 yX7_rewind ∈ lw_tbl := tb_in 390 (by decide +kernel)
theorem ml_RX7_31 : Cond.methodLink RX7 31 yX7_step ∈ lw_tbl := tb_in 394 (by decide +kernel)
theorem ml_RX7_34 : Cond.methodLink RX7 34 yX7_isLetter ∈ lw_tbl := tb_in 398 (by decide +kernel)
theorem ml_RX7_38 : Cond.methodLink RX7 38 yX7_stepOverName ∈ lw_tbl := tb_in 401 (by decide +kernel)
theorem ml_RX7_49 : Cond.methodLink RX7 49 yX7_isName ∈ lw_tbl := tb_in 406 (by decide +kernel)
theorem ml_RX7_59 : Cond.methodLink RX7 59 yJ0_length_8abf5 ∈ lw_tbl := tb_in 410 (by decide +kernel)
theorem ml_RJ0_335 : Cond.methodLink RJ0 335 yJ0_coder_7d493 ∈ lw_tbl := tb_in 414 (by decide +kernel)
theorem ml_RX7_64 : Cond.methodLink RX7 64 yJ0_charAt_5068e ∈ lw_tbl := tb_in 420 (by decide +kernel)
theorem ml_RJ0_492 : Cond.methodLink RJ0 492 yJ0_isLatin1_aae02 ∈ lw_tbl := tb_in 424 (by decide +kernel)
theorem ml_RJ0_495 : Cond.methodLink RJ0 495 yJ1_charAt_3b067 ∈ lw_tbl := tb_in 428 (by decide +kernel)
theorem ml_RJ1_9 : Cond.methodLink RJ1 9 yJ0_checkIndex_df160 ∈ lw_tbl := tb_in 431 (by decide +kernel)
theorem ml_RX7_41 : Cond.methodLink RX7 41 yX7_isFigure ∈ lw_tbl := tb_in 461 (by decide +kernel)
theorem ml_RX7_44 : Cond.methodLink RX7 44 yX7_stepOverNumber ∈ lw_tbl := tb_in 464 (by decide +kernel)
theorem ml_RX4_29 : Cond.methodLink RX4 29 yX4_readPlace ∈ lw_tbl := tb_in 469 (by decide +kernel)
theorem ml_RX4_36 : Cond.methodLink RX4 36 yX4_fail ∈ lw_tbl := tb_in 473 (by decide +kernel)
theorem ml_RX4_56 : Cond.methodLink RX4 56 yX1_add ∈ lw_tbl := tb_in 477 (by decide +kernel)
theorem ml_RX4_40 : Cond.methodLink RX4 40 yX7_step ∈ lw_tbl := tb_in 481 (by decide +kernel)
theorem ml_RX4_60 : Cond.methodLink RX4 60 yX4_readPay ∈ lw_tbl := tb_in 482 (by decide +kernel)
theorem ml_RX4_64 : Cond.methodLink RX4 64 yX4_readDeal ∈ lw_tbl := tb_in 486 (by decide +kernel)
theorem ml_RX4_67 : Cond.methodLink RX4 67 yX4_readHeld ∈ lw_tbl := tb_in 490 (by decide +kernel)
theorem ml_RX4_82 : Cond.methodLink RX4 82 yX1_maySetBeOf ∈ lw_tbl := tb_in 494 (by decide +kernel)
theorem ml_RX4_86 : Cond.methodLink RX4 86 yX1_maySetHave ∈ lw_tbl := tb_in 498 (by decide +kernel)
theorem ml_RX4_89 : Cond.methodLink RX4 89 yX1_putIntoSet ∈ lw_tbl := tb_in 502 (by decide +kernel)
theorem ml_RX4_43 : Cond.methodLink RX4 43 yX1_finish ∈ lw_tbl := tb_in 506 (by decide +kernel)
theorem ml_RX1_76 : Cond.methodLink RX1 76 yX1_tellPast ∈ lw_tbl := tb_in 510 (by decide +kernel)
theorem ml_RX1_80 : Cond.methodLink RX1 80 yX1_isHeld ∈ lw_tbl := tb_in 515 (by decide +kernel)
theorem ml_RX8_141 : Cond.methodLink RX8 141 yX3_begin ∈ lw_tbl := tb_in 520 (by decide +kernel)
theorem ml_RX3_15 : Cond.methodLink RX3 15 yX3_giveAllTo ∈ lw_tbl := tb_in 524 (by decide +kernel)
theorem ml_RX3_19 : Cond.methodLink RX3 19 yX3_give ∈ lw_tbl := tb_in 528 (by decide +kernel)
theorem ml_RX8_144 : Cond.methodLink RX8 144 yX2_begin ∈ lw_tbl := tb_in 532 (by decide +kernel)
theorem ml_RX2_36 : Cond.methodLink RX2 36 yJ7_fill_d0a16 ∈ lw_tbl := tb_in 536 (by decide +kernel)
theorem ml_RL_44 : Cond.methodLink RL 44 yX8_fault ∈ lw_tbl := tb_in 539 (by decide +kernel)
theorem ml_RL_49 : Cond.methodLink RL 49 yX8_place ∈ lw_tbl := tb_in 543 (by decide +kernel)
theorem ml_RX8_148 : Cond.methodLink RX8 148 yX8_isPlace ∈ lw_tbl := tb_in 547 (by decide +kernel)
theorem ml_RL_54 : Cond.methodLink RL 54 yX8_seen ∈ lw_tbl := tb_in 551 (by decide +kernel)
theorem ml_RL_58 : Cond.methodLink RL 58 yX8_forgets ∈ lw_tbl := tb_in 555 (by decide +kernel)
theorem ml_RX8_178 : Cond.methodLink RX8 178 yX8_isPlayer ∈ lw_tbl := tb_in 559 (by decide +kernel)
theorem ml_RL_62 : Cond.methodLink RL 62 yX8_mix ∈ lw_tbl := tb_in 562 (by decide +kernel)
theorem ml_RX8_185 : Cond.methodLink RX8 185 yX8_isSet ∈ lw_tbl := tb_in 566 (by decide +kernel)
theorem ml_RX8_188 : Cond.methodLink RX8 188 yX5_hasShares ∈ lw_tbl := tb_in 570 (by decide +kernel)
theorem ml_RX5_38 : Cond.methodLink RX5 38 yX5_itemAt ∈ lw_tbl := tb_in 574 (by decide +kernel)
theorem ml_RX8_191 : Cond.methodLink RX8 191 yX5_itemAt ∈ lw_tbl := tb_in 578 (by decide +kernel)
theorem ml_RX8_195 : Cond.methodLink RX8 195 yX3_give ∈ lw_tbl := tb_in 579 (by decide +kernel)
theorem ml_RL_66 : Cond.methodLink RL 66 yX8_share ∈ lw_tbl := tb_in 580 (by decide +kernel)
theorem ml_RX8_198 : Cond.methodLink RX8 198 yX8_isAct ∈ lw_tbl := tb_in 584 (by decide +kernel)
theorem ml_RX8_202 : Cond.methodLink RX8 202 yX3_shareOf ∈ lw_tbl := tb_in 588 (by decide +kernel)
theorem ml_RL_70 : Cond.methodLink RL 70 yX8_value ∈ lw_tbl := tb_in 592 (by decide +kernel)
theorem ml_RX8_205 : Cond.methodLink RX8 205 yX8_hasGame ∈ lw_tbl := tb_in 596 (by decide +kernel)
theorem ml_RX8_209 : Cond.methodLink RX8 209 yX8_valueOfPlan ∈ lw_tbl := tb_in 600 (by decide +kernel)
theorem ml_RX8_216 : Cond.methodLink RX8 216 yX3_workOut ∈ lw_tbl := tb_in 605 (by decide +kernel)
theorem ml_RX3_46 : Cond.methodLink RX3 46 yX3_shareOf ∈ lw_tbl := tb_in 610 (by decide +kernel)
theorem ml_RL_74 : Cond.methodLink RL 74 yX8_reach ∈ lw_tbl := tb_in 613 (by decide +kernel)
theorem ml_RL_78 : Cond.methodLink RL 78 yX8_best ∈ lw_tbl := tb_in 617 (by decide +kernel)
theorem ml_RX8_220 : Cond.methodLink RX8 220 yX8_valueOfAnswer ∈ lw_tbl := tb_in 621 (by decide +kernel)
theorem ml_RX8_234 : Cond.methodLink RX8 234 yX6_solve ∈ lw_tbl := tb_in 625 (by decide +kernel)
theorem ml_RX6_36 : Cond.methodLink RX6 36 yX6_tellGroups ∈ lw_tbl := tb_in 629 (by decide +kernel)
theorem ml_RX6_73 : Cond.methodLink RX6 73 yX1_isHeld ∈ lw_tbl := tb_in 633 (by decide +kernel)
theorem ml_RX6_77 : Cond.methodLink RX6 77 yX6_leastAlike ∈ lw_tbl := tb_in 634 (by decide +kernel)
theorem ml_RX6_40 : Cond.methodLink RX6 40 yX1_mostOwnActs ∈ lw_tbl := tb_in 638 (by decide +kernel)
theorem ml_RX1_86 : Cond.methodLink RX1 86 yX1_ownActsTo ∈ lw_tbl := tb_in 642 (by decide +kernel)
theorem ml_RX1_90 : Cond.methodLink RX1 90 yJ9_max_7cf53 ∈ lw_tbl := tb_in 646 (by decide +kernel)
theorem ml_RX6_46 : Cond.methodLink RX6 46 yX6_addUp ∈ lw_tbl := tb_in 649 (by decide +kernel)
theorem ml_RX6_81 : Cond.methodLink RX6 81 yX6_isOwn ∈ lw_tbl := tb_in 653 (by decide +kernel)
theorem ml_RX6_104 : Cond.methodLink RX6 104 yX1_ownActsTo ∈ lw_tbl := tb_in 656 (by decide +kernel)
theorem ml_RX6_88 : Cond.methodLink RX6 88 yX1_wayTo ∈ lw_tbl := tb_in 657 (by decide +kernel)
theorem ml_RX6_50 : Cond.methodLink RX6 50 yX6_chooseActs ∈ lw_tbl := tb_in 661 (by decide +kernel)
theorem ml_RX6_92 : Cond.methodLink RX6 92 yX6_chooseAct ∈ lw_tbl := tb_in 665 (by decide +kernel)
theorem ml_RX6_96 : Cond.methodLink RX6 96 yX6_isBarred ∈ lw_tbl := tb_in 669 (by decide +kernel)
theorem ml_RX6_53 : Cond.methodLink RX6 53 yX6_weigh ∈ lw_tbl := tb_in 676 (by decide +kernel)
theorem ml_RX6_107 : Cond.methodLink RX6 107 yX6_worthOf ∈ lw_tbl := tb_in 680 (by decide +kernel)
theorem ml_RX8_223 : Cond.methodLink RX8 223 yX8_gainOf ∈ lw_tbl := tb_in 684 (by decide +kernel)
theorem ml_RL_82 : Cond.methodLink RL 82 yX8_answer ∈ lw_tbl := tb_in 685 (by decide +kernel)
theorem ml_RX8_227 : Cond.methodLink RX8 227 yX6_actOf ∈ lw_tbl := tb_in 689 (by decide +kernel)
theorem ml_RL_86 : Cond.methodLink RL 86 yX8_belief ∈ lw_tbl := tb_in 693 (by decide +kernel)
theorem ml_RX8_231 : Cond.methodLink RX8 231 yX1_isHeld ∈ lw_tbl := tb_in 697 (by decide +kernel)
theorem ml_RL_90 : Cond.methodLink RL 90 yX8_seeing ∈ lw_tbl := tb_in 698 (by decide +kernel)
theorem ml_RL_94 : Cond.methodLink RL 94 yX8_fewer ∈ lw_tbl := tb_in 702 (by decide +kernel)
theorem ml_RX8_238 : Cond.methodLink RX8 238 yX6_solveBarred ∈ lw_tbl := tb_in 706 (by decide +kernel)
theorem ml_RX6_57 : Cond.methodLink RX6 57 yX6_solve ∈ lw_tbl := tb_in 710 (by decide +kernel)
theorem ml_RL_98 : Cond.methodLink RL 98 yX8_rounds ∈ lw_tbl := tb_in 711 (by decide +kernel)
theorem ml_RX8_243 : Cond.methodLink RX8 243 yJ9_min_7cf53 ∈ lw_tbl := tb_in 715 (by decide +kernel)
theorem ml_RX8_248 : Cond.methodLink RX8 248 yX2_playOn ∈ lw_tbl := tb_in 718 (by decide +kernel)
theorem ml_RX2_42 : Cond.methodLink RX2 42 yX2_noteAnswer ∈ lw_tbl := tb_in 722 (by decide +kernel)
theorem ml_RX2_54 : Cond.methodLink RX2 54 yX2_reachOf ∈ lw_tbl := tb_in 726 (by decide +kernel)
theorem ml_RX2_59 : Cond.methodLink RX2 59 yX6_solve ∈ lw_tbl := tb_in 731 (by decide +kernel)
theorem ml_RX2_70 : Cond.methodLink RX2 70 yX6_actOf ∈ lw_tbl := tb_in 732 (by decide +kernel)
theorem ml_RX2_46 : Cond.methodLink RX2 46 yX2_putInto ∈ lw_tbl := tb_in 733 (by decide +kernel)
theorem ml_RX2_79 : Cond.methodLink RX2 79 yX3_giveAllTo ∈ lw_tbl := tb_in 737 (by decide +kernel)
theorem ml_RX2_50 : Cond.methodLink RX2 50 yX2_addReach ∈ lw_tbl := tb_in 738 (by decide +kernel)
theorem ml_RX2_74 : Cond.methodLink RX2 74 yX3_workOut ∈ lw_tbl := tb_in 742 (by decide +kernel)
theorem ml_RL_102 : Cond.methodLink RL 102 yX8_bound ∈ lw_tbl := tb_in 743 (by decide +kernel)
theorem ml_RX8_252 : Cond.methodLink RX8 252 yX2_reachOf ∈ lw_tbl := tb_in 747 (by decide +kernel)
theorem ml_RL_106 : Cond.methodLink RL 106 yX8_mean ∈ lw_tbl := tb_in 748 (by decide +kernel)
theorem ml_RX8_256 : Cond.methodLink RX8 256 yX2_timesDone ∈ lw_tbl := tb_in 752 (by decide +kernel)
theorem ml_RL_110 : Cond.methodLink RL 110 yX8_take ∈ lw_tbl := tb_in 756 (by decide +kernel)
theorem ml_RX8_259 : Cond.methodLink RX8 259 yX2_putInto ∈ lw_tbl := tb_in 760 (by decide +kernel)
theorem ml_RL_114 : Cond.methodLink RL 114 yX8_kind ∈ lw_tbl := tb_in 761 (by decide +kernel)
theorem ml_RX8_263 : Cond.methodLink RX8 263 yX1_kindOf ∈ lw_tbl := tb_in 765 (by decide +kernel)
theorem ml_RL_118 : Cond.methodLink RL 118 yX8_as ∈ lw_tbl := tb_in 769 (by decide +kernel)
theorem ml_RX8_266 : Cond.methodLink RX8 266 yX1_isOfKind ∈ lw_tbl := tb_in 773 (by decide +kernel)
theorem ml_RX1_95 : Cond.methodLink RX1 95 yX1_kindOf ∈ lw_tbl := tb_in 777 (by decide +kernel)
theorem ml_RL_122 : Cond.methodLink RL 122 yX8_ask ∈ lw_tbl := tb_in 778 (by decide +kernel)
theorem ml_RX8_269 : Cond.methodLink RX8 269 yX0_askSize ∈ lw_tbl := tb_in 782 (by decide +kernel)
theorem ml_RX0_19 : Cond.methodLink RX0 19 yX0_sizeBody ∈ lw_tbl := tb_in 786 (by decide +kernel)
theorem ml_RX0_30 : Cond.methodLink RX0 30 yX1_kindOf ∈ lw_tbl := tb_in 789 (by decide +kernel)
theorem ml_RX0_23 : Cond.methodLink RX0 23 yX0_runBody ∈ lw_tbl := tb_in 790 (by decide +kernel)
theorem ml_RX0_36 : Cond.methodLink RX0 36 yX0_leave ∈ lw_tbl := tb_in 794 (by decide +kernel)
theorem ml_RX0_27 : Cond.methodLink RX0 27 yX0_markBody ∈ lw_tbl := tb_in 798 (by decide +kernel)
theorem ml_RX8_273 : Cond.methodLink RX8 273 yX0_askMark ∈ lw_tbl := tb_in 803 (by decide +kernel)
theorem ml_RL_126 : Cond.methodLink RL 126 yX8_trace ∈ lw_tbl := tb_in 807 (by decide +kernel)
theorem ml_RL_131 : Cond.methodLink RL 131 yX8_count ∈ lw_tbl := tb_in 811 (by decide +kernel)
theorem ml_RX8_282 : Cond.methodLink RX8 282 yX5_countRows ∈ lw_tbl := tb_in 815 (by decide +kernel)
theorem ml_RX5_34 : Cond.methodLink RX5 34 yX5_isMissing ∈ lw_tbl := tb_in 819 (by decide +kernel)
theorem ml_RX8_286 : Cond.methodLink RX8 286 yX1_countOf ∈ lw_tbl := tb_in 820 (by decide +kernel)
theorem ml_RX8_289 : Cond.methodLink RX8 289 yX1_countSets ∈ lw_tbl := tb_in 824 (by decide +kernel)
theorem ml_RL_135 : Cond.methodLink RL 135 yX8_status ∈ lw_tbl := tb_in 828 (by decide +kernel)
theorem ml_RL_17 : Cond.methodLink RL 17 yX9_row ∈ lw_tbl := tb_in 959 (by decide +kernel)
theorem ml_RX9_101 : Cond.methodLink RX9 101 yX9_isRow ∈ lw_tbl := tb_in 963 (by decide +kernel)
theorem ml_RX9_91 : Cond.methodLink RX9 91 yX9_in ∈ lw_tbl := tb_in 967 (by decide +kernel)
theorem ml_RX9_109 : Cond.methodLink RX9 109 yX9_found ∈ lw_tbl := tb_in 972 (by decide +kernel)
theorem ml_RX9_113 : Cond.methodLink RX9 113 yX9_taken ∈ lw_tbl := tb_in 977 (by decide +kernel)
theorem ml_RL_21 : Cond.methodLink RL 21 yX9_set ∈ lw_tbl := tb_in 981 (by decide +kernel)
theorem ml_RL_26 : Cond.methodLink RL 26 yX9_copy ∈ lw_tbl := tb_in 985 (by decide +kernel)
theorem ml_RL_31 : Cond.methodLink RL 31 yX9_drop ∈ lw_tbl := tb_in 989 (by decide +kernel)
theorem ml_RL_38 : Cond.methodLink RL 38 yX9_feed ∈ lw_tbl := tb_in 993 (by decide +kernel)
theorem ml_RL_43 : Cond.methodLink RL 43 yX9_game ∈ lw_tbl := tb_in 1000 (by decide +kernel)
theorem ml_RX9_184 : Cond.methodLink RX9 184 yX9_readsAll ∈ lw_tbl := tb_in 1004 (by decide +kernel)
theorem ml_RX9_178 : Cond.methodLink RX9 178 yX9_readsShare ∈ lw_tbl := tb_in 1008 (by decide +kernel)
theorem ml_RX9_150 : Cond.methodLink RX9 150 yX9_token ∈ lw_tbl := tb_in 1012 (by decide +kernel)
theorem ml_RX9_181 : Cond.methodLink RX9 181 yX9_readsPlace ∈ lw_tbl := tb_in 1021 (by decide +kernel)
theorem ml_RX9_153 : Cond.methodLink RX9 153 yX9_wordNow ∈ lw_tbl := tb_in 1025 (by decide +kernel)
theorem ml_RX9_146 : Cond.methodLink RX9 146 yX9_isWord ∈ lw_tbl := tb_in 1029 (by decide +kernel)
theorem ml_RX9_164 : Cond.methodLink RX9 164 yX9_readsDeal ∈ lw_tbl := tb_in 1034 (by decide +kernel)
theorem ml_RX9_168 : Cond.methodLink RX9 168 yX9_readsHeld ∈ lw_tbl := tb_in 1039 (by decide +kernel)
theorem ml_RL_48 : Cond.methodLink RL 48 yX9_fault ∈ lw_tbl := tb_in 1045 (by decide +kernel)
theorem ml_RL_53 : Cond.methodLink RL 53 yX9_place ∈ lw_tbl := tb_in 1049 (by decide +kernel)
theorem ml_RX9_200 : Cond.methodLink RX9 200 yX9_isPlace ∈ lw_tbl := tb_in 1053 (by decide +kernel)
theorem ml_RL_57 : Cond.methodLink RL 57 yX9_seen ∈ lw_tbl := tb_in 1057 (by decide +kernel)
theorem ml_RX9_205 : Cond.methodLink RX9 205 yX9_placesIn ∈ lw_tbl := tb_in 1063 (by decide +kernel)
theorem ml_RL_61 : Cond.methodLink RL 61 yX9_forgets ∈ lw_tbl := tb_in 1067 (by decide +kernel)
theorem ml_RX9_222 : Cond.methodLink RX9 222 yX9_isForgetful ∈ lw_tbl := tb_in 1071 (by decide +kernel)
theorem ml_RX9_208 : Cond.methodLink RX9 208 yX9_isOf ∈ lw_tbl := tb_in 1075 (by decide +kernel)
theorem ml_RX9_218 : Cond.methodLink RX9 218 yX9_areAlike ∈ lw_tbl := tb_in 1079 (by decide +kernel)
theorem ml_RX9_212 : Cond.methodLink RX9 212 yX9_ownAbove ∈ lw_tbl := tb_in 1083 (by decide +kernel)
theorem ml_RX9_215 : Cond.methodLink RX9 215 yX9_wayTo ∈ lw_tbl := tb_in 1087 (by decide +kernel)
theorem ml_RL_65 : Cond.methodLink RL 65 yX9_mix ∈ lw_tbl := tb_in 1091 (by decide +kernel)
theorem ml_RX9_225 : Cond.methodLink RX9 225 yX9_isSet ∈ lw_tbl := tb_in 1095 (by decide +kernel)
theorem ml_RL_69 : Cond.methodLink RL 69 yX9_share ∈ lw_tbl := tb_in 1100 (by decide +kernel)
theorem ml_RL_73 : Cond.methodLink RL 73 yX9_value ∈ lw_tbl := tb_in 1104 (by decide +kernel)
theorem ml_RX9_242 : Cond.methodLink RX9 242 yX9_valueNow ∈ lw_tbl := tb_in 1109 (by decide +kernel)
theorem ml_RX9_236 : Cond.methodLink RX9 236 yX9_layReach ∈ lw_tbl := tb_in 1113 (by decide +kernel)
theorem ml_RX9_232 : Cond.methodLink RX9 232 yX9_shareTo ∈ lw_tbl := tb_in 1118 (by decide +kernel)
theorem ml_RL_77 : Cond.methodLink RL 77 yX9_reach ∈ lw_tbl := tb_in 1122 (by decide +kernel)
theorem ml_RL_81 : Cond.methodLink RL 81 yX9_best ∈ lw_tbl := tb_in 1126 (by decide +kernel)
theorem ml_RX9_275 : Cond.methodLink RX9 275 yX9_answerOf ∈ lw_tbl := tb_in 1130 (by decide +kernel)
theorem ml_RX9_266 : Cond.methodLink RX9 266 yX9_layGroups ∈ lw_tbl := tb_in 1134 (by decide +kernel)
theorem ml_RX9_269 : Cond.methodLink RX9 269 yX9_layCounts ∈ lw_tbl := tb_in 1138 (by decide +kernel)
theorem ml_RX9_272 : Cond.methodLink RX9 272 yX9_answerBy ∈ lw_tbl := tb_in 1142 (by decide +kernel)
theorem ml_RX9_256 : Cond.methodLink RX9 256 yX9_layWorth ∈ lw_tbl := tb_in 1146 (by decide +kernel)
theorem ml_RX9_260 : Cond.methodLink RX9 260 yX9_ownDeep ∈ lw_tbl := tb_in 1150 (by decide +kernel)
theorem ml_RX9_263 : Cond.methodLink RX9 263 yX9_bestAct ∈ lw_tbl := tb_in 1154 (by decide +kernel)
theorem ml_RX9_252 : Cond.methodLink RX9 252 yX9_worthOf ∈ lw_tbl := tb_in 1158 (by decide +kernel)
theorem ml_RX9_278 : Cond.methodLink RX9 278 yX9_gainOf ∈ lw_tbl := tb_in 1162 (by decide +kernel)
theorem ml_RL_85 : Cond.methodLink RL 85 yX9_answer ∈ lw_tbl := tb_in 1166 (by decide +kernel)
theorem ml_RL_89 : Cond.methodLink RL 89 yX9_belief ∈ lw_tbl := tb_in 1170 (by decide +kernel)
theorem ml_RL_93 : Cond.methodLink RL 93 yX9_seeing ∈ lw_tbl := tb_in 1174 (by decide +kernel)
theorem ml_RX9_281 : Cond.methodLink RX9 281 yX9_through ∈ lw_tbl := tb_in 1178 (by decide +kernel)
theorem ml_RL_97 : Cond.methodLink RL 97 yX9_fewer ∈ lw_tbl := tb_in 1182 (by decide +kernel)
theorem ml_RL_101 : Cond.methodLink RL 101 yX9_rounds ∈ lw_tbl := tb_in 1186 (by decide +kernel)
theorem ml_RX9_286 : Cond.methodLink RX9 286 yX9_againstRounds ∈ lw_tbl := tb_in 1191 (by decide +kernel)
theorem ml_RL_105 : Cond.methodLink RL 105 yX9_bound ∈ lw_tbl := tb_in 1195 (by decide +kernel)
theorem ml_RL_109 : Cond.methodLink RL 109 yX9_mean ∈ lw_tbl := tb_in 1199 (by decide +kernel)
theorem ml_RL_113 : Cond.methodLink RL 113 yX9_take ∈ lw_tbl := tb_in 1203 (by decide +kernel)
theorem ml_RL_117 : Cond.methodLink RL 117 yX9_kind ∈ lw_tbl := tb_in 1207 (by decide +kernel)
theorem ml_RX9_289 : Cond.methodLink RX9 289 yX9_kindOf ∈ lw_tbl := tb_in 1211 (by decide +kernel)
theorem ml_RL_121 : Cond.methodLink RL 121 yX9_as ∈ lw_tbl := tb_in 1215 (by decide +kernel)
theorem ml_RL_125 : Cond.methodLink RL 125 yX9_ask ∈ lw_tbl := tb_in 1220 (by decide +kernel)
theorem ml_RX9_320 : Cond.methodLink RX9 320 yX9_size11 ∈ lw_tbl := tb_in 1224 (by decide +kernel)
theorem ml_RX9_297 : Cond.methodLink RX9 297 yX9_note ∈ lw_tbl := tb_in 1228 (by decide +kernel)
theorem ml_RX9_311 : Cond.methodLink RX9 311 yX9_size10 ∈ lw_tbl := tb_in 1232 (by decide +kernel)
theorem ml_RX9_317 : Cond.methodLink RX9 317 yX9_size12 ∈ lw_tbl := tb_in 1236 (by decide +kernel)
theorem ml_RX9_314 : Cond.methodLink RX9 314 yX9_mark21 ∈ lw_tbl := tb_in 1240 (by decide +kernel)
theorem ml_RX9_303 : Cond.methodLink RX9 303 yX9_mark20 ∈ lw_tbl := tb_in 1244 (by decide +kernel)
theorem ml_RX9_323 : Cond.methodLink RX9 323 yX9_size13 ∈ lw_tbl := tb_in 1249 (by decide +kernel)
theorem ml_RX9_300 : Cond.methodLink RX9 300 yX9_size14 ∈ lw_tbl := tb_in 1253 (by decide +kernel)
theorem ml_RX9_308 : Cond.methodLink RX9 308 yX9_size15 ∈ lw_tbl := tb_in 1257 (by decide +kernel)
theorem ml_RX9_326 : Cond.methodLink RX9 326 yX9_mark22 ∈ lw_tbl := tb_in 1261 (by decide +kernel)
theorem ml_RL_130 : Cond.methodLink RL 130 yX9_trace ∈ lw_tbl := tb_in 1265 (by decide +kernel)
theorem ml_RL_134 : Cond.methodLink RL 134 yX9_count ∈ lw_tbl := tb_in 1269 (by decide +kernel)
theorem ml_RL_138 : Cond.methodLink RL 138 yX9_status ∈ lw_tbl := tb_in 1273 (by decide +kernel)
theorem kc_RX5_21 : Cond.constant RX5 21 (-1000000) ∈ lw_tbl := tb_in 32 (by decide +kernel)
theorem kc_RX6_28 : Cond.constant RX6 28 (-1000000) ∈ lw_tbl := tb_in 109 (by decide +kernel)
theorem kc_RX1_69 : Cond.constant RX1 69 (-1000000) ∈ lw_tbl := tb_in 182 (by decide +kernel)
theorem kc_RX4_28 : Cond.constant RX4 28 (-1000000) ∈ lw_tbl := tb_in 468 (by decide +kernel)
theorem kc_RX8_215 : Cond.constant RX8 215 (-1000000) ∈ lw_tbl := tb_in 604 (by decide +kernel)
theorem kc_RX2_58 : Cond.constant RX2 58 (-1000000) ∈ lw_tbl := tb_in 730 (by decide +kernel)
theorem kc_RX9_163 : Cond.constant RX9 163 (-1000000) ∈ lw_tbl := tb_in 1033 (by decide +kernel)
theorem kc_RX8_83 : Cond.constantLong RX8 83 (-9000000000000000001) ∈ lw_tbl := tb_in 320 (by decide +kernel)
theorem kc_RX8_292 : Cond.constantLong RX8 292 (-9000000000000000010) ∈ lw_tbl := tb_in 325 (by decide +kernel)
theorem kc_RX8_123 : Cond.constantLong RX8 123 (-9000000000000000003) ∈ lw_tbl := tb_in 373 (by decide +kernel)
theorem kc_RX1_84 : Cond.constantLong RX1 84 (31) ∈ lw_tbl := tb_in 514 (by decide +kernel)
theorem kc_RX8_136 : Cond.constantLong RX8 136 (-9000000000000000100) ∈ lw_tbl := tb_in 519 (by decide +kernel)
theorem kc_RX3_23 : Cond.constantLong RX3 23 (429981696) ∈ lw_tbl := tb_in 609 (by decide +kernel)
theorem kc_RX3_50 : Cond.constantLong RX3 50 (12) ∈ lw_tbl := tb_in 611 (by decide +kernel)
theorem kc_RX8_213 : Cond.constantLong RX8 213 (-9000000000000000002) ∈ lw_tbl := tb_in 612 (by decide +kernel)
theorem kc_RX0_52 : Cond.constantLong RX0 52 (2) ∈ lw_tbl := tb_in 801 (by decide +kernel)
theorem kc_RX0_54 : Cond.constantLong RX0 54 (100) ∈ lw_tbl := tb_in 802 (by decide +kernel)
theorem kc_RX9_89 : Cond.constantLong RX9 89 (7) ∈ lw_tbl := tb_in 966 (by decide +kernel)
theorem kc_RX9_105 : Cond.constantLong RX9 105 (2) ∈ lw_tbl := tb_in 970 (by decide +kernel)
theorem kc_RX9_107 : Cond.constantLong RX9 107 (-9000000000000000001) ∈ lw_tbl := tb_in 971 (by decide +kernel)
theorem kc_RX9_99 : Cond.constantLong RX9 99 (-9000000000000000010) ∈ lw_tbl := tb_in 976 (by decide +kernel)
theorem kc_RX9_117 : Cond.constantLong RX9 117 (8) ∈ lw_tbl := tb_in 997 (by decide +kernel)
theorem kc_RX9_122 : Cond.constantLong RX9 122 (-9000000000000000003) ∈ lw_tbl := tb_in 998 (by decide +kernel)
theorem kc_RX9_124 : Cond.constantLong RX9 124 (255) ∈ lw_tbl := tb_in 999 (by decide +kernel)
theorem kc_RX9_135 : Cond.constantLong RX9 135 (97) ∈ lw_tbl := tb_in 1016 (by decide +kernel)
theorem kc_RX9_137 : Cond.constantLong RX9 137 (122) ∈ lw_tbl := tb_in 1017 (by decide +kernel)
theorem kc_RX9_139 : Cond.constantLong RX9 139 (48) ∈ lw_tbl := tb_in 1018 (by decide +kernel)
theorem kc_RX9_141 : Cond.constantLong RX9 141 (57) ∈ lw_tbl := tb_in 1019 (by decide +kernel)
theorem kc_RX9_176 : Cond.constantLong RX9 176 (11) ∈ lw_tbl := tb_in 1020 (by decide +kernel)
theorem kc_RX9_172 : Cond.constantLong RX9 172 (4) ∈ lw_tbl := tb_in 1038 (by decide +kernel)
theorem kc_RX9_174 : Cond.constantLong RX9 174 (3) ∈ lw_tbl := tb_in 1043 (by decide +kernel)
theorem kc_RX9_190 : Cond.constantLong RX9 190 (-9000000000000000100) ∈ lw_tbl := tb_in 1044 (by decide +kernel)
theorem kc_RX9_198 : Cond.constantLong RX9 198 (9) ∈ lw_tbl := tb_in 1061 (by decide +kernel)
theorem kc_RX9_203 : Cond.constantLong RX9 203 (-1000000) ∈ lw_tbl := tb_in 1062 (by decide +kernel)
theorem kc_RX9_228 : Cond.constantLong RX9 228 (12) ∈ lw_tbl := tb_in 1099 (by decide +kernel)
theorem kc_RX9_240 : Cond.constantLong RX9 240 (-9000000000000000002) ∈ lw_tbl := tb_in 1108 (by decide +kernel)
theorem kc_RX9_230 : Cond.constantLong RX9 230 (429981696) ∈ lw_tbl := tb_in 1117 (by decide +kernel)
theorem kc_RX9_284 : Cond.constantLong RX9 284 (60) ∈ lw_tbl := tb_in 1190 (by decide +kernel)
theorem kc_RX9_292 : Cond.constantLong RX9 292 (5) ∈ lw_tbl := tb_in 1219 (by decide +kernel)
theorem kc_RX9_306 : Cond.constantLong RX9 306 (100) ∈ lw_tbl := tb_in 1248 (by decide +kernel)
theorem kc_RL_32 : Cond.constantLong RL 32 (4294967295) ∈ lw_tbl := tb_in 1277 (by decide +kernel)
theorem kI_m1 : Int32.ofInt (-1) = -1 := by decide
theorem kI_0 : Int32.ofInt (0) = 0 := by decide
theorem kI_1 : Int32.ofInt (1) = 1 := by decide
theorem kI_2 : Int32.ofInt (2) = 2 := by decide
theorem kI_3 : Int32.ofInt (3) = 3 := by decide
theorem kI_4 : Int32.ofInt (4) = 4 := by decide
theorem kI_5 : Int32.ofInt (5) = 5 := by decide
theorem ii_m2 (x : Int32) : x + Int32.ofInt (-2) = x + (-2) := by rw [show Int32.ofInt (-2) = -2 from by decide]
theorem ii_m1 (x : Int32) : x + Int32.ofInt (-1) = x + (-1) := by rw [show Int32.ofInt (-1) = -1 from by decide]
theorem ii_0 (x : Int32) : x + Int32.ofInt (0) = x + (0) := by rw [show Int32.ofInt (0) = 0 from by decide]
theorem ii_1 (x : Int32) : x + Int32.ofInt (1) = x + (1) := by rw [show Int32.ofInt (1) = 1 from by decide]
theorem ii_2 (x : Int32) : x + Int32.ofInt (2) = x + (2) := by rw [show Int32.ofInt (2) = 2 from by decide]
theorem ii_3 (x : Int32) : x + Int32.ofInt (3) = x + (3) := by rw [show Int32.ofInt (3) = 3 from by decide]
theorem kB_6 : (Int8.ofInt (6)).toInt32 = 6 := by decide
theorem kB_7 : (Int8.ofInt (7)).toInt32 = 7 := by decide
theorem kB_8 : (Int8.ofInt (8)).toInt32 = 8 := by decide
theorem kB_9 : (Int8.ofInt (9)).toInt32 = 9 := by decide
theorem kB_10 : (Int8.ofInt (10)).toInt32 = 10 := by decide
theorem kB_11 : (Int8.ofInt (11)).toInt32 = 11 := by decide
theorem kB_12 : (Int8.ofInt (12)).toInt32 = 12 := by decide
theorem kB_13 : (Int8.ofInt (13)).toInt32 = 13 := by decide
theorem kB_14 : (Int8.ofInt (14)).toInt32 = 14 := by decide
theorem kB_15 : (Int8.ofInt (15)).toInt32 = 15 := by decide
theorem kB_16 : (Int8.ofInt (16)).toInt32 = 16 := by decide
theorem kB_17 : (Int8.ofInt (17)).toInt32 = 17 := by decide
theorem kB_18 : (Int8.ofInt (18)).toInt32 = 18 := by decide
theorem kB_19 : (Int8.ofInt (19)).toInt32 = 19 := by decide
theorem kB_20 : (Int8.ofInt (20)).toInt32 = 20 := by decide
theorem kB_21 : (Int8.ofInt (21)).toInt32 = 21 := by decide
theorem kB_22 : (Int8.ofInt (22)).toInt32 = 22 := by decide
theorem kB_30 : (Int8.ofInt (30)).toInt32 = 30 := by decide
theorem kB_31 : (Int8.ofInt (31)).toInt32 = 31 := by decide
theorem kB_32 : (Int8.ofInt (32)).toInt32 = 32 := by decide
theorem kB_40 : (Int8.ofInt (40)).toInt32 = 40 := by decide
theorem kB_48 : (Int8.ofInt (48)).toInt32 = 48 := by decide
theorem kB_50 : (Int8.ofInt (50)).toInt32 = 50 := by decide
theorem kB_57 : (Int8.ofInt (57)).toInt32 = 57 := by decide
theorem kB_59 : (Int8.ofInt (59)).toInt32 = 59 := by decide
theorem kB_60 : (Int8.ofInt (60)).toInt32 = 60 := by decide
theorem kB_97 : (Int8.ofInt (97)).toInt32 = 97 := by decide
theorem kB_100 : (Int8.ofInt (100)).toInt32 = 100 := by decide
theorem kB_101 : (Int8.ofInt (101)).toInt32 = 101 := by decide
theorem kB_108 : (Int8.ofInt (108)).toInt32 = 108 := by decide
theorem kB_110 : (Int8.ofInt (110)).toInt32 = 110 := by decide
theorem kB_111 : (Int8.ofInt (111)).toInt32 = 111 := by decide
theorem kB_116 : (Int8.ofInt (116)).toInt32 = 116 := by decide
theorem kB_119 : (Int8.ofInt (119)).toInt32 = 119 := by decide
theorem kB_120 : (Int8.ofInt (120)).toInt32 = 120 := by decide
theorem kB_122 : (Int8.ofInt (122)).toInt32 = 122 := by decide
theorem kS_180 : (Int16.ofInt (180)).toInt32 = 180 := by decide
theorem kS_240 : (Int16.ofInt (240)).toInt32 = 240 := by decide
theorem kS_255 : (Int16.ofInt (255)).toInt32 = 255 := by decide
theorem kS_320 : (Int16.ofInt (320)).toInt32 = 320 := by decide
theorem kS_480 : (Int16.ofInt (480)).toInt32 = 480 := by decide
theorem kS_600 : (Int16.ofInt (600)).toInt32 = 600 := by decide
theorem kL_0 : Int64.ofNat ((0 : Fin 2) : Nat) = 0 := by decide
theorem kL_1 : Int64.ofNat ((1 : Fin 2) : Nat) = 1 := by decide
end
